/-! gangs: who goes with whom -/
section
variable {isE : Nat → Bool} {tg : Nat → Nat → Nat}
theorem lx_t {a b : Nat × Nat} (h : lxB a b = true) : b.1 ≤ a.1 := by
  rw [lxB, Bool.or_eq_true, Bool.and_eq_true, decide_eq_true_eq, decide_eq_true_eq, decide_eq_true_eq] at h
  omega
theorem lx_f {a b : Nat × Nat} (h : ¬ lxB a b = true) : a.1 ≤ b.1 := by
  rw [lxB, Bool.or_eq_true, Bool.and_eq_true, decide_eq_true_eq, decide_eq_true_eq, decide_eq_true_eq] at h
  omega
theorem gI_in {g : Nat → Nat × Nat} {p L : Nat} : ∀ n, gI isE tg g p L n = g L ∨ ∃ e, e < n ∧ isE e = true ∧ L.testBit e = true ∧ gI isE tg g p L n = ((g (nd L (2 ^ e))).1 + 1, (g (nd L (2 ^ e))).2 + tg p e)
  | 0 => Or.inl rfl
  | n + 1 => by
    rw [gI]
    by_cases z : (L.testBit n && isE n && lxB ((g (nd L (2 ^ n))).1 + 1, (g (nd L (2 ^ n))).2 + tg p n) (gI isE tg g p L n)) = true
    · rw [if_pos z]
      rw [Bool.and_eq_true, Bool.and_eq_true] at z
      exact Or.inr ⟨n, by omega, z.1.2, z.1.1, rfl⟩
    · rw [if_neg z]
      rcases gI_in (g := g) (p := p) (L := L) n with y | ⟨e, h1, h2, h3, h4⟩
      · exact Or.inl y
      · exact Or.inr ⟨e, by omega, h2, h3, h4⟩
theorem gI_lb {g : Nat → Nat × Nat} {p L : Nat} : ∀ n, (g L).1 ≤ (gI isE tg g p L n).1 ∧ ∀ e, e < n → isE e = true → L.testBit e = true → (g (nd L (2 ^ e))).1 + 1 ≤ (gI isE tg g p L n).1
  | 0 => ⟨Nat.le_refl _, fun e he => absurd he (by omega)⟩
  | n + 1 => by
    obtain ⟨h1, h2⟩ := gI_lb (g := g) (p := p) (L := L) n
    rw [gI]
    by_cases z : (L.testBit n && isE n && lxB ((g (nd L (2 ^ n))).1 + 1, (g (nd L (2 ^ n))).2 + tg p n) (gI isE tg g p L n)) = true
    · rw [if_pos z]
      rw [Bool.and_eq_true] at z
      have z2 := lx_t z.2
      dsimp only at z2 ⊢
      refine ⟨by omega, fun e he a1 a2 => ?_⟩
      by_cases y : e = n
      · rw [y]; omega
      · have := h2 e (by omega) a1 a2
        omega
    · rw [if_neg z]
      refine ⟨h1, fun e he a1 a2 => ?_⟩
      by_cases y : e = n
      · subst y
        rw [a1, a2, Bool.true_and, Bool.true_and] at z
        exact lx_f z
      · exact h2 e (by omega) a1 a2
theorem av_ex {L : Nat} (h : 0 < avN isE L) : ∃ e, e < 10 ∧ isE e = true ∧ L.testBit e = true := by
  obtain ⟨e, he, z⟩ := fct_ex 10 h
  rw [Bool.and_eq_true] at z
  exact ⟨e, he, z.1, z.2⟩
/-- as many pairs as can be -/
theorem gN_lb : ∀ k L, k ≤ 10 → min (ocN isE 10 - ocN isE (10 - k)) (avN isE L) ≤ (gN isE tg k L).1
  | 0, L, _ => by
    rw [Nat.sub_zero, Nat.sub_self]
    exact Nat.le_trans (Nat.min_le_left _ _) (Nat.zero_le _)
  | k + 1, L, hk => by
    have ih := fun L => gN_lb k L (by omega)
    have s := oc_s (isE := isE) (p := 9 - k)
    rw [show 9 - k + 1 = 10 - k by omega] at s
    have m := oc_m (isE := isE) (show 10 - k ≤ 10 by omega)
    rw [gN, show 10 - (k + 1) = 9 - k by omega]
    cases z : isE (9 - k) with
    | true =>
      rw [if_pos rfl]
      rw [z, Bool.not_true, if_neg (by decide), Nat.add_zero] at s
      rw [← s]
      exact ih L
    | false =>
      rw [if_neg (by decide)]
      rw [z, Bool.not_false, if_pos rfl] at s
      obtain ⟨l1, l2⟩ := gI_lb (isE := isE) (tg := tg) (g := gN isE tg k) (p := 9 - k) (L := L) 10
      by_cases y : 0 < avN isE L
      · obtain ⟨e, he, a1, a2⟩ := av_ex y
        have b := l2 e he a1 a2
        have i := ih (nd L (2 ^ e))
        have av := av_nd he a1 a2
        omega
      · omega
/-- the first elder by whom the best is reached -/
def chW (isE : Nat → Bool) (tg : Nat → Nat → Nat) (g : Nat → Nat × Nat) (b : Nat × Nat) (p L : Nat) : Nat → Option Nat
  | 0 => none
  | e + 1 => match chW isE tg g b p L e with
    | some x => some x
    | none => if (L.testBit e && isE e && decide ((g (nd L (2 ^ e))).1 + 1 = b.1 ∧ (g (nd L (2 ^ e))).2 + tg p e = b.2)) = true then some e else none
def chC (sw : Nat → Option Nat) (best : Option Nat) (used : Nat) : Nat → Option Nat
  | 0 => none
  | j + 1 => match chC sw best used j with
    | some x => some x
    | none => if (!used.testBit j && decide (sw j = best)) = true then some j else none
theorem chW_s {g : Nat → Nat × Nat} {b : Nat × Nat} {p L : Nat} : ∀ n, (∀ e, chW isE tg g b p L n = some e → e < n ∧ isE e = true ∧ L.testBit e = true ∧ (g (nd L (2 ^ e))).1 + 1 = b.1 ∧ (g (nd L (2 ^ e))).2 + tg p e = b.2) ∧ (chW isE tg g b p L n = none → ∀ e, e < n → isE e = true → L.testBit e = true → ¬ ((g (nd L (2 ^ e))).1 + 1 = b.1 ∧ (g (nd L (2 ^ e))).2 + tg p e = b.2))
  | 0 => ⟨fun e z => (by cases z), fun _ e he => absurd he (by omega)⟩
  | n + 1 => by
    obtain ⟨h1, h2⟩ := chW_s (g := g) (b := b) (p := p) (L := L) n
    rw [chW]
    cases u : chW isE tg g b p L n with
    | some x =>
      obtain ⟨a1, a2⟩ := h1 x u
      exact ⟨fun e z => by injection z with z; rw [← z]; exact ⟨by omega, a2⟩, fun z => (by cases z)⟩
    | none =>
      dsimp only
      by_cases z : (L.testBit n && isE n && decide ((g (nd L (2 ^ n))).1 + 1 = b.1 ∧ (g (nd L (2 ^ n))).2 + tg p n = b.2)) = true
      · rw [if_pos z]
        rw [Bool.and_eq_true, Bool.and_eq_true, decide_eq_true_eq] at z
        exact ⟨fun e y => by injection y with y; rw [← y]; exact ⟨by omega, z.1.2, z.1.1, z.2.1, z.2.2⟩, fun y => (by cases y)⟩
      · rw [if_neg z]
        refine ⟨fun e y => (by cases y), fun _ e he a1 a2 => ?_⟩
        by_cases y : e = n
        · rw [y] at a1 a2 ⊢
          intro q
          exact z (by rw [a1, a2, decide_eq_true q]; rfl)
        · exact h2 u e (by omega) a1 a2
/-- one step of the choosing, both ways -/
theorem ch_eq {er ot : Nat → Nat} {mn : Nat} (hmn : mn = min (ecN isE 10) (ocN isE 10)) (her : ∀ e, e < 10 → isE e = true → er (ecN isE e) = e) (hot : ∀ q, q < 10 → isE q = false → ot (ocN isE q) = q) {k L used : Nat} (hk : k ≤ 9) (hu : used < 2 ^ ecN isE 10) (r : relU isE L used) (v : bct used ≤ ocN isE (9 - k)) (z : isE (9 - k) = false) (f : bct used + (gN isE tg (k + 1) L).1 = mn) : chC (swN ot er tg (bN (ecN isE 10) mn ot er tg (ocN isE 10) (ocN isE 10 - ocN isE (10 - k))) (ocN isE (9 - k)) used) (some (gN isE tg (k + 1) L).2) used (ecN isE 10) = (chW isE tg (gN isE tg k) (gN isE tg (k + 1) L) (9 - k) L 10).map (ecN isE) := by
  have s := oc_s (isE := isE) (p := 9 - k)
  rw [show 9 - k + 1 = 10 - k by omega, z, Bool.not_false, if_pos rfl] at s
  have op := hot (9 - k) (by omega) z
  have ct := rel_ct r hu
  have aux : ∀ e, e ≤ 10 → chC (swN ot er tg (bN (ecN isE 10) mn ot er tg (ocN isE 10) (ocN isE 10 - ocN isE (10 - k))) (ocN isE (9 - k)) used) (some (gN isE tg (k + 1) L).2) used (ecN isE e) = (chW isE tg (gN isE tg k) (gN isE tg (k + 1) L) (9 - k) L e).map (ecN isE) := by
    intro e
    induction e with
    | zero => intro _; rfl
    | succ e ih =>
      intro he
      have i := ih (by omega)
      rw [ec_s (p := e), chW]
      cases y : isE e with
      | false =>
        rw [if_neg (by decide)]
        show chC _ _ _ (ecN isE e) = _
        rw [i]
        cases chW isE tg (gN isE tg k) (gN isE tg (k + 1) L) (9 - k) L e with
        | some x => rfl
        | none =>
          dsimp only
          rw [Bool.and_false, Bool.false_and, if_neg (by decide)]
      | true =>
        rw [if_pos rfl, chC, i]
        cases chW isE tg (gN isE tg k) (gN isE tg (k + 1) L) (9 - k) L e with
        | some x => rfl
        | none =>
          dsimp only [Option.map]
          have re := r e (by omega) y
          rw [Bool.and_true]
          cases u : used.testBit (ecN isE e) with
          | true =>
            rw [u, Bool.not_true] at re
            rw [re, Bool.not_true, Bool.false_and, Bool.false_and, if_neg (by decide), if_neg (by decide)]
          | false =>
            rw [u, Bool.not_false] at re
            have el : ecN isE e < ecN isE 10 := by
              have := ec_m (isE := isE) (show e + 1 ≤ 10 by omega)
              rw [ec_s (p := e), y, if_pos rfl] at this
              omega
            have hu' : used ||| 2 ^ ecN isE e < 2 ^ ecN isE 10 := Nat.or_lt_two_pow hu (Nat.pow_lt_pow_right (by decide) el)
            have r' := rel_s r (show e < 10 by omega) y
            have ct' := rel_ct r' hu'
            have av := av_nd (L := L) (show e < 10 by omega) y re
            have pc : bct (used ||| 2 ^ ecN isE e) = bct used + 1 := by omega
            have ih2 := bg_eq (tg := tg) hmn her hot k (by omega) (nd L (2 ^ e)) (used ||| 2 ^ ecN isE e) hu' r' (by omega)
            rw [re, Bool.not_false, Bool.true_and, Bool.true_and, swN, u, if_neg (show ¬ false = true by decide), ih2, pc, op, her e (by omega) y]
            rw [fPC]
            by_cases w : bct used + 1 + (gN isE tg k (nd L (2 ^ e))).1 = mn
            · rw [if_pos w]
              dsimp only
              by_cases h2 : (gN isE tg k (nd L (2 ^ e))).2 + tg (9 - k) e = (gN isE tg (k + 1) L).2
              · have h1 : (gN isE tg k (nd L (2 ^ e))).1 + 1 = (gN isE tg (k + 1) L).1 := by omega
                rw [if_pos (decide_eq_true (congrArg some h2)), if_pos (decide_eq_true (And.intro h1 h2))]
              · rw [if_neg (fun y => h2 (Option.some.inj (of_decide_eq_true y))), if_neg (fun y => h2 (of_decide_eq_true y).2)]
            · rw [if_neg w]
              dsimp only
              rw [if_neg (fun y => by have := of_decide_eq_true y; cases this), if_neg (fun y => w (by have := (of_decide_eq_true y).1; omega))]
  exact aux 10 (Nat.le_refl _)
end
