/-! gangs: the elders by their index, and by who they are -/
/-- how many of a kind are below p -/
def ecN (isE : Nat → Bool) (p : Nat) : Nat := fb_ct isE p
def ocN (isE : Nat → Bool) (p : Nat) : Nat := fb_ct (fun q => !isE q) p
theorem ec_s {isE : Nat → Bool} {p : Nat} : ecN isE (p + 1) = ecN isE p + if isE p = true then 1 else 0 := fb_ct_succ _ _
theorem oc_s {isE : Nat → Bool} {p : Nat} : ocN isE (p + 1) = ocN isE p + if (!isE p) = true then 1 else 0 := fb_ct_succ _ _
theorem eo_p {isE : Nat → Bool} : ∀ p, ecN isE p + ocN isE p = p
  | 0 => rfl
  | p + 1 => by
    have ih := eo_p (isE := isE) p
    rw [ec_s, oc_s]
    cases isE p <;> simp <;> omega
theorem ec_m {isE : Nat → Bool} {a b : Nat} (h : a ≤ b) : ecN isE a ≤ ecN isE b := by
  have := fb_ct_step isE a (b - a)
  rw [show a + (b - a) = b by omega] at this
  exact this
theorem oc_m {isE : Nat → Bool} {a b : Nat} (h : a ≤ b) : ocN isE a ≤ ocN isE b := by
  have := fb_ct_step (fun q => !isE q) a (b - a)
  rw [show a + (b - a) = b by omega] at this
  exact this
theorem ec_inj {isE : Nat → Bool} {a b : Nat} (ha : isE a = true) (hb : isE b = true) (h : ecN isE a = ecN isE b) : a = b := by
  rcases Nat.lt_trichotomy a b with z | z | z
  · have m := ec_m (isE := isE) (show a + 1 ≤ b by omega)
    rw [ec_s, ha, if_pos rfl] at m
    omega
  · exact z
  · have m := ec_m (isE := isE) (show b + 1 ≤ a by omega)
    rw [ec_s, hb, if_pos rfl] at m
    omega
/-- counted by index, counted by who -/
theorem ec_ct {isE q : Nat → Bool} : ∀ n, fb_ct q (ecN isE n) = fb_ct (fun e => isE e && q (ecN isE e)) n
  | 0 => rfl
  | n + 1 => by
    have ih := ec_ct (isE := isE) (q := q) n
    rw [ec_s, fb_ct_succ, ← ih]
    cases z : isE n with
    | false => simp
    | true => simp [fb_ct_succ]
/-- more, or as many and a greater sum -/
def lxB (a b : Nat × Nat) : Bool := decide (b.1 < a.1) || (decide (a.1 = b.1) && decide (b.2 < a.2))
section
variable (isE : Nat → Bool) (tg : Nat → Nat → Nat)
/-- the pairs and their sum, over the elders below e -/
def gI (g : Nat → Nat × Nat) (p L : Nat) : Nat → Nat × Nat
  | 0 => g L
  | e + 1 => if (L.testBit e && isE e && lxB ((g (nd L (2 ^ e))).1 + 1, (g (nd L (2 ^ e))).2 + tg p e) (gI g p L e)) = true then ((g (nd L (2 ^ e))).1 + 1, (g (nd L (2 ^ e))).2 + tg p e) else gI g p L e
/-- the last k people -/
def gN : Nat → Nat → Nat × Nat
  | 0, _ => (0, 0)
  | k + 1, L => if isE (9 - k) = true then gN k L else gI isE tg (gN k) (9 - k) L 10
end
def omx : Option Nat → Option Nat → Option Nat
  | none, b => b
  | a, none => a
  | some a, some b => some (max a b)
section
variable (E mn : Nat) (ot er : Nat → Nat) (tg : Nat → Nat → Nat)
def swN (b : Nat → Option Nat) (i used j : Nat) : Option Nat := if used.testBit j = true then none else match b (used ||| 2 ^ j) with
  | none => none
  | some r => some (r + tg (ot i) (er j))
def bI2 (b : Nat → Option Nat) (i used : Nat) : Nat → Option Nat
  | 0 => b used
  | j + 1 => omx (bI2 b i used j) (swN ot er tg b i used j)
/-- the last k of O others -/
def bN (O : Nat) : Nat → Nat → Option Nat
  | 0, used => if bct used = mn then some 0 else none
  | k + 1, used => bI2 ot er tg (bN O k) (O - (k + 1)) used E
end
def fPC (mn pc : Nat) (a : Nat × Nat) : Option Nat := if pc + a.1 = mn then some a.2 else none
theorem f_max {mn pc : Nat} {a b : Nat × Nat} (ha : pc + a.1 ≤ mn) (hb : pc + b.1 ≤ mn) : omx (fPC mn pc b) (fPC mn pc a) = fPC mn pc (if lxB a b = true then a else b) := by
  by_cases L : lxB a b = true
  · rw [if_pos L]
    rw [lxB, Bool.or_eq_true, Bool.and_eq_true, decide_eq_true_eq, decide_eq_true_eq, decide_eq_true_eq] at L
    unfold fPC
    by_cases z1 : pc + a.1 = mn
    · rw [if_pos z1]
      by_cases z2 : pc + b.1 = mn
      · rw [if_pos z2, omx, Nat.max_eq_right (by omega)]
      · rw [if_neg z2]
        rfl
    · rw [if_neg z1, if_neg (show ¬ pc + b.1 = mn by omega)]
      rfl
  · rw [if_neg L]
    rw [lxB, Bool.or_eq_true, Bool.and_eq_true, decide_eq_true_eq, decide_eq_true_eq, decide_eq_true_eq] at L
    unfold fPC
    by_cases z2 : pc + b.1 = mn
    · rw [if_pos z2]
      by_cases z1 : pc + a.1 = mn
      · rw [if_pos z1, omx, Nat.max_eq_left (by omega)]
      · rw [if_neg z1]
        rfl
    · rw [if_neg z2, if_neg (show ¬ pc + a.1 = mn by omega)]
      rfl
section
variable {isE : Nat → Bool} {tg : Nat → Nat → Nat}
/-- the elders that are still there -/
def avN (isE : Nat → Bool) (L : Nat) : Nat := fb_ct (fun e => isE e && L.testBit e) 10
theorem av_nd {L e : Nat} (he : e < 10) (h1 : isE e = true) (h2 : L.testBit e = true) : avN isE (nd L (2 ^ e)) + 1 = avN isE L := by
  have c := cnt_pt (A := fun q => isE q && (nd L (2 ^ e)).testBit q) (x := e) 10
  rw [decide_eq_true he, nd_bit, Nat.testBit_two_pow_self, Bool.not_true, Bool.and_false, Bool.and_false, Bool.not_false, Bool.and_true, if_pos rfl] at c
  unfold avN
  rw [← c]
  refine fct_cg 10 (fun q _ => ?_)
  rw [nd_bit]
  by_cases z : q = e
  · rw [z, h1, h2, decide_eq_true rfl, Bool.or_true]
    rfl
  · rw [Nat.testBit_two_pow_of_ne (fun y => z y.symm), decide_eq_false z, Bool.or_false, Bool.not_false, Bool.and_true]
theorem gI_ub {g : Nat → Nat × Nat} {p L A B : Nat} (h0 : (g L).1 ≤ A ∧ (g L).1 ≤ B) (h1 : ∀ e, e < 10 → isE e = true → L.testBit e = true → (g (nd L (2 ^ e))).1 + 1 ≤ A ∧ (g (nd L (2 ^ e))).1 + 1 ≤ B) : ∀ e, e ≤ 10 → (gI isE tg g p L e).1 ≤ A ∧ (gI isE tg g p L e).1 ≤ B
  | 0, _ => h0
  | e + 1, he => by
    have ih := gI_ub (p := p) h0 h1 e (by omega)
    rw [gI]
    by_cases z : (L.testBit e && isE e && lxB ((g (nd L (2 ^ e))).1 + 1, (g (nd L (2 ^ e))).2 + tg p e) (gI isE tg g p L e)) = true
    · rw [if_pos z]
      rw [Bool.and_eq_true, Bool.and_eq_true] at z
      exact h1 e (by omega) z.1.2 z.1.1
    · rw [if_neg z]
      exact ih
/-- no more pairs than others, nor than elders -/
theorem gN_ub : ∀ k L, k ≤ 10 → (gN isE tg k L).1 ≤ ocN isE 10 - ocN isE (10 - k) ∧ (gN isE tg k L).1 ≤ avN isE L
  | 0, L, _ => ⟨Nat.zero_le _, Nat.zero_le _⟩
  | k + 1, L, hk => by
    have ih := fun L => gN_ub k L (by omega)
    have s := oc_s (isE := isE) (p := 9 - k)
    rw [show 9 - k + 1 = 10 - k by omega] at s
    have m := oc_m (isE := isE) (show 10 - k ≤ 10 by omega)
    rw [gN, show 10 - (k + 1) = 9 - k by omega]
    cases z : isE (9 - k) with
    | true =>
      rw [if_pos rfl]
      rw [z, Bool.not_true, if_neg (by decide)] at s
      have := ih L
      omega
    | false =>
      rw [if_neg (by decide)]
      rw [z, Bool.not_false, if_pos rfl] at s
      refine gI_ub (by have := ih L; omega) (fun e he h1 h2 => ?_) 10 (Nat.le_refl _)
      have i := ih (nd L (2 ^ e))
      have a := av_nd he h1 h2
      omega
/-- the same elders gone: by index, by who -/
def relU (isE : Nat → Bool) (L used : Nat) : Prop := ∀ e, e < 10 → isE e = true → L.testBit e = !used.testBit (ecN isE e)
theorem rel_s {L used e : Nat} (r : relU isE L used) (he : e < 10) (h1 : isE e = true) : relU isE (nd L (2 ^ e)) (used ||| 2 ^ ecN isE e) := fun q hq h2 => by
  rw [nd_bit, Nat.testBit_or, r q hq h2]
  by_cases z : q = e
  · rw [z, Nat.testBit_two_pow_self, Nat.testBit_two_pow_self, Bool.not_true, Bool.and_false, Bool.or_true]
    rfl
  · rw [Nat.testBit_two_pow_of_ne (fun y => z y.symm), Nat.testBit_two_pow_of_ne (fun y => z (ec_inj h2 h1 y.symm)), Bool.or_false, Bool.not_false, Bool.and_true]
theorem rel_ct {L used : Nat} (r : relU isE L used) (hu : used < 2 ^ ecN isE 10) : bct used + avN isE L = ecN isE 10 := by
  have n10 : ecN isE 10 ≤ 10 := fb_ct_le _ _
  have e1 : bct used = fb_ct (fun j => used.testBit j) (ecN isE 10) := by
    rw [bct, show 64 = ecN isE 10 + (64 - ecN isE 10) by omega, fct_48 _ (fun i hi => Nat.testBit_lt_two_pow (Nat.lt_of_lt_of_le hu (Nat.pow_le_pow_right (by decide) hi)))]
  rw [e1, ec_ct, avN]
  have o := fct_or (p := fun e => isE e && used.testBit (ecN isE e)) (q := fun e => isE e && L.testBit e) 10 (fun i hi z => by
    rw [Bool.and_eq_true] at z
    rw [z.1, r i hi z.1, z.2]
    rfl)
  rw [← o]
  refine fct_cg 10 (fun i hi => ?_)
  cases z : isE i with
  | false => rfl
  | true =>
    rw [r i hi z]
    cases used.testBit (ecN isE i) <;> rfl
/-- the two ways agree -/
theorem bg_eq {er ot : Nat → Nat} {mn : Nat} (hmn : mn = min (ecN isE 10) (ocN isE 10)) (her : ∀ e, e < 10 → isE e = true → er (ecN isE e) = e) (hot : ∀ q, q < 10 → isE q = false → ot (ocN isE q) = q) : ∀ k, k ≤ 10 → ∀ L used, used < 2 ^ ecN isE 10 → relU isE L used → bct used ≤ ocN isE (10 - k) → bN (ecN isE 10) mn ot er tg (ocN isE 10) (ocN isE 10 - ocN isE (10 - k)) used = fPC mn (bct used) (gN isE tg k L)
  | 0, _, L, used, hu, r, v => by
    rw [Nat.sub_zero, Nat.sub_self, bN, gN, fPC, Nat.add_zero]
  | k + 1, hk, L, used, hu, r, v => by
    have s := oc_s (isE := isE) (p := 9 - k)
    rw [show 9 - k + 1 = 10 - k by omega] at s
    have m := oc_m (isE := isE) (show 10 - k ≤ 10 by omega)
    have IH := bg_eq hmn her hot k (by omega)
    rw [show 10 - (k + 1) = 9 - k by omega] at v ⊢
    rw [gN]
    cases z : isE (9 - k) with
    | true =>
      rw [if_pos rfl]
      rw [z, Bool.not_true, if_neg (by decide), Nat.add_zero] at s
      rw [← s]
      exact IH L used hu r (by omega)
    | false =>
      rw [if_neg (by decide)]
      rw [z, Bool.not_false, if_pos rfl] at s
      have op := hot (9 - k) (by omega) z
      have ek : ocN isE 10 - ocN isE (9 - k) = (ocN isE 10 - ocN isE (10 - k)) + 1 := by omega
      rw [ek, bN, show ocN isE 10 - (ocN isE 10 - ocN isE (10 - k) + 1) = ocN isE (9 - k) by omega]
      -- over the elders below e
      have ub : ∀ L', (gN isE tg k L').1 ≤ ocN isE 10 - ocN isE (10 - k) ∧ (gN isE tg k L').1 ≤ avN isE L' := fun L' => gN_ub k L' (by omega)
      have ct := rel_ct r hu
      have b0 : bct used + (gN isE tg k L).1 ≤ mn := by have := ub L; omega
      have b1 : ∀ e, e < 10 → isE e = true → L.testBit e = true → bct used + ((gN isE tg k (nd L (2 ^ e))).1 + 1) ≤ mn := fun e he h1 h2 => by
        have := ub (nd L (2 ^ e))
        have := av_nd he h1 h2
        omega
      have fold : ∀ e, e ≤ 10 → bI2 ot er tg (bN (ecN isE 10) mn ot er tg (ocN isE 10) (ocN isE 10 - ocN isE (10 - k))) (ocN isE (9 - k)) used (ecN isE e) = fPC mn (bct used) (gI isE tg (gN isE tg k) (9 - k) L e) ∧ bct used + (gI isE tg (gN isE tg k) (9 - k) L e).1 ≤ mn := by
        intro e
        induction e with
        | zero =>
          intro _
          exact ⟨IH L used hu r (by omega), b0⟩
        | succ e ihe =>
          intro he
          obtain ⟨i1, i2⟩ := ihe (by omega)
          rw [ec_s (p := e), gI]
          cases y : isE e with
          | false =>
            rw [if_neg (by decide), Nat.add_zero, Bool.and_false, Bool.false_and, if_neg (by decide)]
            exact ⟨i1, i2⟩
          | true =>
            rw [if_pos rfl, bI2, i1, swN]
            have re := r e (by omega) y
            cases u : used.testBit (ecN isE e) with
            | true =>
              rw [u, Bool.not_true] at re
              rw [if_pos rfl, re, Bool.false_and, Bool.false_and, if_neg (by decide)]
              have nl : ∀ o : Option Nat, omx o none = o := fun o => by cases o <;> rfl
              exact ⟨nl _, i2⟩
            | false =>
              rw [u, Bool.not_false] at re
              have el : ecN isE e < ecN isE 10 := by
                have := ec_m (isE := isE) (show e + 1 ≤ 10 by omega)
                rw [ec_s (p := e), y, if_pos rfl] at this
                omega
              have hu' : used ||| 2 ^ ecN isE e < 2 ^ ecN isE 10 := Nat.or_lt_two_pow hu (Nat.pow_lt_pow_right (by decide) el)
              have r' := rel_s r (show e < 10 by omega) y
              have ct' := rel_ct r' hu'
              have av := av_nd (L := L) (show e < 10 by omega) y re
              have pc : bct (used ||| 2 ^ ecN isE e) = bct used + 1 := by omega
              have ih := IH (nd L (2 ^ e)) (used ||| 2 ^ ecN isE e) hu' r' (by omega)
              have bb := b1 e (by omega) y re
              rw [if_neg (by decide), ih, re, Bool.true_and, Bool.true_and, pc]
              have fm := f_max (mn := mn) (pc := bct used) (a := ((gN isE tg k (nd L (2 ^ e))).1 + 1, (gN isE tg k (nd L (2 ^ e))).2 + tg (9 - k) e)) (b := gI isE tg (gN isE tg k) (9 - k) L e) bb i2
              have e1 : (match fPC mn (bct used + 1) (gN isE tg k (nd L (2 ^ e))) with | none => none | some r => some (r + tg (ot (ocN isE (9 - k))) (er (ecN isE e)))) = fPC mn (bct used) ((gN isE tg k (nd L (2 ^ e))).1 + 1, (gN isE tg k (nd L (2 ^ e))).2 + tg (9 - k) e) := by
                rw [op, her e (by omega) y]
                unfold fPC
                by_cases q : bct used + 1 + (gN isE tg k (nd L (2 ^ e))).1 = mn
                · rw [if_pos q, if_pos (show bct used + ((gN isE tg k (nd L (2 ^ e))).1 + 1) = mn by omega)]
                · rw [if_neg q, if_neg (show ¬ bct used + ((gN isE tg k (nd L (2 ^ e))).1 + 1) = mn by omega)]
              refine ⟨(congrArg _ e1).trans fm, ?_⟩
              split
              · exact bb
              · exact i2
      exact (fold 10 (Nat.le_refl _)).1
end
