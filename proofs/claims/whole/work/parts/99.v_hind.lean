/-! what a plan was worth beside what came -/
def tC2 (cm : Nat → Nat → Bool) (e s : Nat) : Nat := if cm e s = true then 10 else 0
def bhN (n c : Nat) (p S : Nat → Nat) (cm : Nat → Nat → Bool) (e lf s : Nat) : Nat := if cm e s = true then nd lf (dnM n p S c lf s) else lf
def mFg (n c : Nat) (p S W : Nat → Nat) (cm : Nat → Nat → Bool) (mf : Nat → Nat) (r lf s : Nat) : Nat := if bhN n c p S cm (4 - r) lf s = lf then 0 else wsN n W (dnM n p S c lf s) + mf (bhN n c p S cm (4 - r) lf s)
def mF (n c : Nat) (p S W : Nat → Nat) (cm : Nat → Nat → Bool) : Nat → Nat → Nat
  | 0, _ => 0
  | r + 1, lf => mxS (mF n c p S W cm r lf) (mFg n c p S W cm (mF n c p S W cm r) r lf) 4
section
variable {n c : Nat} {p S W : Nat → Nat} {cm : Nat → Nat → Bool}
theorem bh_ne {e lf s : Nat} (q : ¬ bhN n c p S cm e lf s = lf) : cm e s = true ∧ bhN n c p S cm e lf s = nd lf (dnM n p S c lf s) := by
  rw [bhN] at q ⊢
  cases z : cm e s with
  | false => rw [z, if_neg (by decide)] at q; exact absurd rfl q
  | true => rw [if_pos rfl]; exact ⟨rfl, rfl⟩
theorem dn_z {lf s : Nat} (q : nd lf (dnM n p S c lf s) = lf) : dnM n p S c lf s = 0 := by
  apply Nat.eq_of_testBit_eq
  intro k
  rw [Nat.zero_testBit]
  cases z : (dnM n p S c lf s).testBit k with
  | false => rfl
  | true =>
    have h1 := nd_0.mp (dnM_sub (n := n) (p := p) (S := S) (c := c) (lf := lf) (s := s)) k z
    have h2 := nd_bit lf (dnM n p S c lf s) k
    rw [q, h1, z] at h2
    cases h2
theorem ws_z : wsN n W 0 = 0 := by
  have : wsN n W 0 = sN (fun _ => 0) n := sN_cg n (fun k _ => by rw [Nat.zero_testBit, if_neg (by decide)])
  rw [this]
  have z : ∀ m, sN (fun _ => 0) m = 0 := fun m => by
    induction m with
    | zero => rfl
    | succ m ih => rw [sN, ih]
  exact z n
theorem rF_m {row : Nat} : ∀ r lf, r ≤ 5 → rF n c p S W (tC2 cm) row r lf ≤ 10 ^ r * mF n c p S W cm r lf
  | 0, lf, _ => by rw [rF]; omega
  | r + 1, lf, hr => by
    have ih := fun lf => rF_m (row := row) r lf (by omega)
    obtain ⟨m1, m2⟩ := mxS_le (a := mF n c p S W cm r lf) (g := mFg n c p S W cm (mF n c p S W cm r) r lf) 4
    have e10 : ∀ x, 10 ^ (r + 1) * x = 10 * (10 ^ r * x) := fun x => by rw [Nat.pow_succ, Nat.mul_comm (10 ^ r) 10, Nat.mul_assoc]
    have base : 10 * rF n c p S W (tC2 cm) row r lf ≤ 10 ^ (r + 1) * mF n c p S W cm (r + 1) lf := by
      rw [e10]
      have := ih lf
      have : 10 ^ r * mF n c p S W cm r lf ≤ 10 ^ r * mF n c p S W cm (r + 1) lf := Nat.mul_le_mul_left _ m1
      omega
    rw [rF]
    by_cases z : dgN row (4 - r) = 4
    · rw [if_pos z]; exact base
    · rw [if_neg z]
      have s4 : dgN row (4 - r) < 4 := by
        have : dgN row (4 - r) < 5 := Nat.mod_lt _ (by decide)
        omega
      generalize dgN row (4 - r) = s at z s4
      rw [bwV, tC2]
      cases u : cm (4 - r) s with
      | false =>
        rw [if_neg (by decide)]
        simp only [Nat.zero_mul, Nat.zero_add, Nat.sub_zero]
        exact base
      | true =>
        rw [if_pos rfl]
        simp only [Nat.sub_self, Nat.zero_mul, Nat.add_zero]
        have bh : bhN n c p S cm (4 - r) lf s = nd lf (dnM n p S c lf s) := by rw [bhN, u, if_pos rfl]
        by_cases y : nd lf (dnM n p S c lf s) = lf
        · rw [dn_z y, ws_z, Nat.zero_mul, Nat.zero_add, show nd lf 0 = lf by rw [← dn_z y]; exact y]
          exact base
        · have g := m2 s s4
          rw [mFg, bh, if_neg y] at g
          have h1 := ih (nd lf (dnM n p S c lf s))
          have h2 : 10 ^ r * (wsN n W (dnM n p S c lf s) + mF n c p S W cm r (nd lf (dnM n p S c lf s))) ≤ 10 ^ r * mF n c p S W cm (r + 1) lf := Nat.mul_le_mul_left _ g
          rw [Nat.mul_add, Nat.mul_comm (10 ^ r) (wsN n W (dnM n p S c lf s))] at h2
          rw [e10]
          omega
/-- and some row reaches it -/
theorem rF_x : ∀ r lf, r ≤ 5 → ∃ x, x < 5 ^ r ∧ ∀ row, row % 5 ^ r = x → rF n c p S W (tC2 cm) row r lf = 10 ^ r * mF n c p S W cm r lf
  | 0, lf, _ => ⟨0, by decide, fun row _ => by rw [rF, mF]⟩
  | r + 1, lf, hr => by
    have e10 : ∀ x, 10 ^ (r + 1) * x = 10 * (10 ^ r * x) := fun x => by rw [Nat.pow_succ, Nat.mul_comm (10 ^ r) 10, Nat.mul_assoc]
    have p5 : 5 ^ (r + 1) = 5 * 5 ^ r := by rw [Nat.pow_succ, Nat.mul_comm]
    have p0 : 0 < 5 ^ r := Nat.pow_pos (by decide)
    -- a row that ends in digit D and then x
    have key : ∀ D x row, D < 5 → x < 5 ^ r → row % 5 ^ (r + 1) = D * 5 ^ r + x → row % 5 ^ r = x ∧ dgN row (4 - r) = D := fun D x row hD hx h => by
      have h1 : row = 5 ^ (r + 1) * (row / 5 ^ (r + 1)) + (D * 5 ^ r + x) := by rw [← h]; exact (Nat.div_add_mod row _).symm
      have h2 : row = 5 ^ r * (5 * (row / 5 ^ (r + 1)) + D) + x := by
        rw [Nat.mul_add, ← Nat.mul_assoc, Nat.mul_comm (5 ^ r) 5, ← p5, Nat.mul_comm (5 ^ r) D]
        omega
      constructor
      · rw [h2, Nat.mul_add_mod, Nat.mod_eq_of_lt hx]
      · rw [dgN, show 4 - (4 - r) = r by omega, h2, Nat.mul_add_div p0, Nat.div_eq_of_lt hx, Nat.add_zero, Nat.mul_add_mod, Nat.mod_eq_of_lt hD]
    have lt : ∀ D x, D < 5 → x < 5 ^ r → D * 5 ^ r + x < 5 ^ (r + 1) := fun D x hD hx => by
      have : D * 5 ^ r ≤ 4 * 5 ^ r := Nat.mul_le_mul_right _ (by omega)
      rw [p5]
      omega
    obtain ⟨c1, c2⟩ := fsS_c (a := mF n c p S W cm r lf) (g := mFg n c p S W cm (mF n c p S W cm r) r lf) 4
    cases e : (fsS (mF n c p S W cm r lf) (mFg n c p S W cm (mF n c p S W cm r) r lf) 4).1 with
    | none =>
      obtain ⟨x, hx, q⟩ := rF_x r lf (by omega)
      refine ⟨4 * 5 ^ r + x, lt 4 x (by decide) hx, fun row h => ?_⟩
      obtain ⟨k1, k2⟩ := key 4 x row (by decide) hx h
      rw [rF, if_pos k2, q row k1, mF, c1 e, e10]
    | some s =>
      obtain ⟨d1, d2, d3, -⟩ := c2 s e
      have nb : ¬ bhN n c p S cm (4 - r) lf s = lf := fun y => by
        rw [mFg, if_pos y] at d3
        omega
      obtain ⟨u1, u2⟩ := bh_ne nb
      obtain ⟨x, hx, q⟩ := rF_x r (bhN n c p S cm (4 - r) lf s) (by omega)
      refine ⟨s * 5 ^ r + x, lt s x (by omega) hx, fun row h => ?_⟩
      obtain ⟨k1, k2⟩ := key s x row (by omega) hx h
      rw [rF, k2, if_neg (by omega), bwV, tC2, u1, if_pos rfl, Nat.sub_self, Nat.zero_mul, Nat.add_zero, ← u2, q row k1, mF, ← d2, mFg, if_neg nb, e10, Nat.mul_add (10 ^ r), Nat.mul_comm (10 ^ r) (wsN n W (dnM n p S c lf s))]
end
theorem brS_m {v : Nat → Nat} : ∀ row, ∀ m, (brS v row).2 = some m → (∀ i, i < row → v i ≤ m) ∧ ∃ i, i < row ∧ v i = m
  | 0, m, z => by cases z
  | row + 1, m, z => by
    rw [brS] at z
    by_cases q : brB v row (brS v row).2 = true
    · rw [if_pos q] at z
      injection z with z
      refine ⟨fun i hi => ?_, ⟨row, by omega, z⟩⟩
      by_cases y : i = row
      · rw [y]; omega
      · cases e : (brS v row).2 with
        | none =>
          obtain ⟨m', e'⟩ := brS_s (v := v) row (by omega)
          rw [e'] at e
          cases e
        | some m' =>
          have h1 := (brS_m row m' e).1 i (by omega)
          rw [e, brB, decide_eq_true_eq] at q
          omega
    · rw [if_neg q] at z
      obtain ⟨h1, i0, h2, h3⟩ := brS_m row m z
      refine ⟨fun i hi => ?_, ⟨i0, by omega, h3⟩⟩
      by_cases y : i = row
      · rw [y]
        rw [z, brB, decide_eq_true_eq] at q
        omega
      · exact h1 i (by omega)
theorem best_m {n c : Nat} {p S W : Nat → Nat} {cm : Nat → Nat → Bool} : (brS (rV n c p S W (tC2 cm)) 3125).2 = some (10 ^ 5 * mF n c p S W cm 5 (2 ^ n - 1)) := by
  obtain ⟨m, em⟩ := brS_s (v := rV n c p S W (tC2 cm)) 3125 (by decide)
  obtain ⟨h1, i, h2, h3⟩ := brS_m 3125 m em
  obtain ⟨x, hx, q⟩ := rF_x (n := n) (c := c) (p := p) (S := S) (W := W) (cm := cm) 5 (2 ^ n - 1) (Nat.le_refl _)
  have a1 := rF_m (n := n) (c := c) (p := p) (S := S) (W := W) (cm := cm) (row := i) 5 (2 ^ n - 1) (Nat.le_refl _)
  have x5 : x < 3125 := hx
  have a2 := h1 x x5
  rw [rV, q x (Nat.mod_eq_of_lt hx)] at a2
  rw [rV] at h3
  rw [em, show m = 10 ^ 5 * mF n c p S W cm 5 (2 ^ n - 1) by omega]
