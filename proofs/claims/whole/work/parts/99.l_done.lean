/-! what is done of a side: by the order, and by picking the best -/
/-- the data of the planner -/
def wnO (n : Nat) (p S W : Nat → Nat) : Prop := n ≤ 8 ∧ (∀ k, k < n → S k < 4 ∧ 1 ≤ W k ∧ W k ≤ 99) ∧ (∀ i, i < n → p i < n) ∧ (∀ i j, i < j → j < n → W (p j) < W (p i) ∨ (W (p i) = W (p j) ∧ p i < p j)) ∧ (∀ k, k < n → ∃ i, i < n ∧ p i = k)
def wnC (h : av_H) (n : Nat) (p S W : Nat → Nat) : Prop := h.2.1 46 0 = nI n ∧ (∀ k, k < n → h.2.1 47 k = nI (S k) ∧ h.2.1 48 k = nI (W k)) ∧ ∀ i, i < n → h.2.1 49 i = nI (p i)
def wnR (h : av_H) (n : Nat) (S W : Nat → Nat) : Prop := h.2.1 137 64 = nI n ∧ ∀ k, k < n → h.2.1 186 k = nI (S k) ∧ h.2.1 187 k = nI (W k)
theorem wnC.fr {h h' : av_H} {n : Nat} {p S W : Nat → Nat} (J : wnC h n p S W) (A : agr (FP false [47, 48, 49] [(46, 0)]) h h') : wnC h' n p S W :=
  ⟨(A.I rfl).trans J.1, fun k hk => ⟨(A.I rfl).trans (J.2.1 k hk).1, (A.I rfl).trans (J.2.1 k hk).2⟩, fun i hi => (A.I rfl).trans (J.2.2 i hi)⟩
theorem wnR.fr {h h' : av_H} {n : Nat} {S W : Nat → Nat} (J : wnR h n S W) (A : agr (FP false [186, 187] [(137, 64)]) h h') : wnR h' n S W :=
  ⟨(A.I rfl).trans J.1, fun k hk => ⟨(A.I rfl).trans (J.2 k hk).1, (A.I rfl).trans (J.2 k hk).2⟩⟩
theorem J_wa.E {h : av_H} (J : J_wa h) : ∃ n p S W, wnO n p S W ∧ wnC h n p S W ∧ wnR h n S W := by
  obtain ⟨n, p, S, W, h1, h2, h3, h4, h5, h6, h7⟩ := J
  exact ⟨n, p, S, W, ⟨h1, fun k hk => ⟨(h4 k hk).1, (h4 k hk).2.1, (h4 k hk).2.2.1⟩, fun i hi => (h5 i hi).1, h6, h7⟩, ⟨h2, fun k hk => ⟨(h4 k hk).2.2.2.1, (h4 k hk).2.2.2.2.2.1⟩, fun i hi => (h5 i hi).2⟩, ⟨h3, fun k hk => ⟨(h4 k hk).2.2.2.2.1, (h4 k hk).2.2.2.2.2.2⟩⟩⟩
def el (S : Nat → Nat) (lf s k : Nat) : Bool := lf.testBit k && decide (S k = s)
/-- the taken, behind i of the order -/
def tk (p S : Nat → Nat) (lf s c : Nat) : Nat → Nat × Nat
  | 0 => (0, 0)
  | i + 1 => if (el S lf s (p i) && decide ((tk p S lf s c i).2 < c)) = true then ((tk p S lf s c i).1 ||| 2 ^ p i, (tk p S lf s c i).2 + 1) else tk p S lf s c i
def rk (p S : Nat → Nat) (lf s i : Nat) : Nat := fb_ct (fun i => el S lf s (p i)) i
theorem tk_2 {p S : Nat → Nat} {lf s c : Nat} : ∀ i, (tk p S lf s c i).2 = min (rk p S lf s i) c
  | 0 => by
    show 0 = min 0 c
    omega
  | i + 1 => by
    have ih := tk_2 (p := p) (S := S) (lf := lf) (s := s) (c := c) i
    have e : rk p S lf s (i + 1) = rk p S lf s i + if el S lf s (p i) = true then 1 else 0 := fb_ct_succ _ _
    rw [tk, e]
    cases z : el S lf s (p i) with
    | false =>
      rw [Bool.false_and, if_neg (by decide), if_neg (by decide), ih, Nat.add_zero]
    | true =>
      rw [Bool.true_and, if_pos rfl]
      by_cases y : (tk p S lf s c i).2 < c
      · rw [if_pos (decide_eq_true y)]
        show (tk p S lf s c i).2 + 1 = _
        rw [ih] at y ⊢
        omega
      · rw [if_neg (by rw [decide_eq_false y]; decide), ih]
        rw [ih] at y
        omega
theorem tk_1 {p S : Nat → Nat} {lf s c k : Nat} : ∀ i, (tk p S lf s c i).1.testBit k = anyN i 0 (fun i => decide (p i = k) && (el S lf s (p i) && decide (rk p S lf s i < c)))
  | 0 => by rw [tk, anyN, Nat.zero_testBit]
  | i + 1 => by
    have ih := tk_1 (p := p) (S := S) (lf := lf) (s := s) (c := c) (k := k) i
    have t2 := tk_2 (p := p) (S := S) (lf := lf) (s := s) (c := c) i
    rw [tk, anyN_snoc, Nat.zero_add]
    cases z : el S lf s (p i) with
    | false => rw [Bool.false_and, Bool.false_and, if_neg (by decide), Bool.and_false, Bool.or_false, ih]
    | true =>
      rw [Bool.true_and, Bool.true_and, show decide ((tk p S lf s c i).2 < c) = decide (rk p S lf s i < c) from decide_eq_decide.mpr (by rw [t2]; omega)]
      cases y : decide (rk p S lf s i < c) with
      | false => rw [if_neg (by decide), Bool.and_false, Bool.or_false, ih]
      | true =>
        rw [if_pos rfl, Bool.and_true]
        show ((tk p S lf s c i).1 ||| 2 ^ p i).testBit k = _
        rw [Nat.testBit_or, ih]
        by_cases u : p i = k
        · rw [u, Nat.testBit_two_pow_self, decide_eq_true rfl]
        · rw [Nat.testBit_two_pow_of_ne u, decide_eq_false u]
def dnM (n : Nat) (p S : Nat → Nat) (c lf s : Nat) : Nat := (tk p S lf s c n).1
theorem dnM_b {n : Nat} {p S : Nat → Nat} {c lf s k : Nat} : (dnM n p S c lf s).testBit k = anyN n 0 (fun i => decide (p i = k) && (el S lf s (p i) && decide (rk p S lf s i < c))) := tk_1 n
theorem dnM_lt {n : Nat} {p S W : Nat → Nat} (O : wnO n p S W) {c lf s : Nat} : dnM n p S c lf s < 2 ^ n := by
  apply Nat.lt_pow_two_of_testBit
  intro i hi
  rw [dnM_b, Bool.eq_false_iff, Ne, anyN_iff]
  rintro ⟨j, -, hj, y⟩
  rw [Bool.and_eq_true, decide_eq_true_eq] at y
  have := O.2.2.1 j (by omega)
  omega
theorem dnM_sub {n : Nat} {p S : Nat → Nat} {c lf s : Nat} : nd (dnM n p S c lf s) lf = 0 := nd_0.mpr (fun k q => by
  rw [dnM_b, anyN_iff] at q
  obtain ⟨i, -, -, y⟩ := q
  rw [Bool.and_eq_true, Bool.and_eq_true, decide_eq_true_eq, el, Bool.and_eq_true] at y
  rw [← y.1]
  exact y.2.1.1)
/-- the best of what is there -/
def bsO (W : Nat → Nat) (k : Nat) : Option Nat → Bool
  | none => true
  | some b => decide (W b < W k)
def bsT (S W : Nat → Nat) (lf s : Nat) : Nat → Option Nat
  | 0 => none
  | k + 1 => if (el S lf s k && bsO W k (bsT S W lf s k)) = true then some k else bsT S W lf s k
theorem bsT_s {S W : Nat → Nat} {lf s : Nat} : ∀ n, (bsT S W lf s n = none → ∀ k, k < n → el S lf s k = false) ∧ ∀ b, bsT S W lf s n = some b → b < n ∧ el S lf s b = true ∧ ∀ k, k < n → el S lf s k = true → W k < W b ∨ (W k = W b ∧ b ≤ k)
  | 0 => ⟨fun _ k hk => absurd hk (by omega), fun b z => by cases z⟩
  | n + 1 => by
    obtain ⟨h1, h2⟩ := bsT_s (S := S) (W := W) (lf := lf) (s := s) n
    rw [bsT]
    by_cases q : (el S lf s n && bsO W n (bsT S W lf s n)) = true
    · rw [if_pos q]
      rw [Bool.and_eq_true] at q
      refine ⟨fun z => (by cases z), fun b z => ?_⟩
      injection z with z
      subst z
      refine ⟨by omega, q.1, fun k hk e => ?_⟩
      by_cases y : k = n
      · rw [y]; exact Or.inr ⟨rfl, Nat.le_refl _⟩
      · cases u : bsT S W lf s n with
        | none => rw [h1 u k (by omega)] at e; cases e
        | some c =>
          have q2 := q.2
          rw [u, bsO, decide_eq_true_eq] at q2
          rcases (h2 c u).2.2 k (by omega) e with v | v
          · exact Or.inl (by omega)
          · exact Or.inl (by omega)
    · rw [if_neg q]
      refine ⟨fun z k hk => ?_, fun b z => ?_⟩
      · by_cases y : k = n
        · rw [y]
          rw [z, bsO, Bool.and_true] at q
          simpa using q
        · exact h1 z k (by omega)
      · obtain ⟨u1, u2, u3⟩ := h2 b z
        refine ⟨by omega, u2, fun k hk e => ?_⟩
        by_cases y : k = n
        · rw [y] at e ⊢
          rw [z, e, Bool.true_and, bsO, decide_eq_true_eq] at q
          rcases Nat.lt_or_ge (W n) (W b) with v | v
          · exact Or.inl v
          · exact Or.inr ⟨by omega, by omega⟩
        · exact u3 k (by omega) e
def lbN (n : Nat) (S W : Nat → Nat) (lf s : Nat) : Nat → Nat
  | 0 => lf
  | j + 1 => match bsT S W (lbN n S W lf s j) s n with
    | none => lbN n S W lf s j
    | some b => nd (lbN n S W lf s j) (2 ^ b)
theorem lb_dn {n : Nat} {p S W : Nat → Nat} (O : wnO n p S W) {lf s : Nat} : ∀ j, lbN n S W lf s j = nd lf (dnM n p S j lf s)
  | 0 => by
    apply Nat.eq_of_testBit_eq
    intro k
    rw [lbN, nd_bit, dnM_b]
    have : anyN n 0 (fun i => decide (p i = k) && (el S lf s (p i) && decide (rk p S lf s i < 0))) = false := by
      rw [Bool.eq_false_iff, Ne, anyN_iff]
      rintro ⟨i, -, -, y⟩
      rw [decide_eq_false (show ¬ rk p S lf s i < 0 by omega), Bool.and_false, Bool.and_false] at y
      cases y
    rw [this, Bool.not_false, Bool.and_true]
  | j + 1 => by
    have ih := lb_dn O (lf := lf) (s := s) j
    have inj : ∀ i i', i < n → i' < n → p i = p i' → i = i' := fun i i' hi hi' e => by
      rcases Nat.lt_trichotomy i i' with z | z | z
      · rcases O.2.2.2.1 i i' z hi' with y | y
        · rw [e] at y; omega
        · omega
      · exact z
      · rcases O.2.2.2.1 i' i z hi with y | y
        · rw [e] at y; omega
        · omega
    -- what may still be picked
    have elb : ∀ i, i < n → el S (nd lf (dnM n p S j lf s)) s (p i) = (el S lf s (p i) && !decide (rk p S lf s i < j)) := fun i hi => by
      rw [el, nd_bit, dnM_b, el]
      have e : anyN n 0 (fun i' => decide (p i' = p i) && (el S lf s (p i') && decide (rk p S lf s i' < j))) = (el S lf s (p i) && decide (rk p S lf s i < j)) := by
        rw [Bool.eq_iff_iff, anyN_iff]
        constructor
        · rintro ⟨i', -, hi', y⟩
          rw [Bool.and_eq_true, decide_eq_true_eq] at y
          have := inj i' i (by omega) hi y.1
          rw [this] at y
          exact y.2
        · intro y
          exact ⟨i, by omega, by omega, by rw [decide_eq_true rfl, y]; rfl⟩
      rw [e, el]
      cases lf.testBit (p i) <;> cases decide (S (p i) = s) <;> cases decide (rk p S lf s i < j) <;> rfl
    have rks : ∀ i, rk p S lf s (i + 1) = rk p S lf s i + if el S lf s (p i) = true then 1 else 0 := fun i => fb_ct_succ _ _
    have rkm : ∀ i i', i ≤ i' → rk p S lf s i ≤ rk p S lf s i' := fun i i' hi => by
      have := fb_ct_step (fun i => el S lf s (p i)) i (i' - i)
      rw [show i + (i' - i) = i' by omega] at this
      exact this
    rw [lbN, ih]
    obtain ⟨b1, b2⟩ := bsT_s (S := S) (W := W) (lf := nd lf (dnM n p S j lf s)) (s := s) n
    cases e : bsT S W (nd lf (dnM n p S j lf s)) s n with
    | none =>
      -- nothing is left: nobody has rank j
      apply Nat.eq_of_testBit_eq
      intro k
      show (nd lf (dnM n p S j lf s)).testBit k = _
      rw [nd_bit, nd_bit, dnM_b, dnM_b]
      congr 2
      refine anyN_cg _ _ (fun i _ hi => ?_)
      have := b1 e (p i) (O.2.2.1 i (by omega))
      rw [elb i (by omega)] at this
      cases u : el S lf s (p i) with
      | false => rfl
      | true =>
        rw [u, Bool.true_and, Bool.not_eq_false', decide_eq_true_eq] at this
        rw [decide_eq_true this, decide_eq_true (show rk p S lf s i < j + 1 by omega)]
    | some b =>
      obtain ⟨c1, c2, c3⟩ := b2 b e
      obtain ⟨i0, hi0, pi0⟩ := O.2.2.2.2 b c1
      have q0 := c2
      rw [← pi0, elb i0 hi0, Bool.and_eq_true, Bool.not_eq_true', decide_eq_false_iff_not] at q0
      -- its rank is j
      have rj : rk p S lf s i0 = j := by
        rcases Nat.lt_or_ge j (rk p S lf s i0) with z | z
        · -- some earlier one has rank j and is not taken
          have : ∃ i, i < i0 ∧ el S lf s (p i) = true ∧ rk p S lf s i = j := by
            have aux : ∀ t, j < rk p S lf s t → ∃ i, i < t ∧ el S lf s (p i) = true ∧ rk p S lf s i = j := by
              intro t
              induction t with
              | zero =>
                intro y
                exact absurd y (by show ¬ j < 0; omega)
              | succ t iht =>
                intro y
                rw [rks] at y
                by_cases v : j < rk p S lf s t
                · obtain ⟨i, v1, v2, v3⟩ := iht v
                  exact ⟨i, by omega, v2, v3⟩
                · cases u : el S lf s (p t) with
                  | false => rw [u, if_neg (by decide)] at y; omega
                  | true =>
                    rw [u, if_pos rfl] at y
                    exact ⟨t, by omega, u, by omega⟩
            exact aux i0 z
          obtain ⟨i, v1, v2, v3⟩ := this
          have c4 := c3 (p i) (O.2.2.1 i (by omega)) (by rw [elb i (by omega), v2, decide_eq_false (by omega)]; rfl)
          have c5 := O.2.2.2.1 i i0 v1 hi0
          rw [pi0] at c5
          omega
        · omega
      show nd (nd lf (dnM n p S j lf s)) (2 ^ b) = _
      apply Nat.eq_of_testBit_eq
      intro k
      rw [nd_bit, nd_bit, nd_bit, dnM_b, dnM_b]
      have key : anyN n 0 (fun i => decide (p i = k) && (el S lf s (p i) && decide (rk p S lf s i < j + 1))) = (anyN n 0 (fun i => decide (p i = k) && (el S lf s (p i) && decide (rk p S lf s i < j))) || decide (b = k)) := by
        rw [Bool.eq_iff_iff, Bool.or_eq_true, anyN_iff, anyN_iff, decide_eq_true_eq]
        constructor
        · rintro ⟨i, h1, hi, y⟩
          rw [Bool.and_eq_true, Bool.and_eq_true, decide_eq_true_eq, decide_eq_true_eq] at y
          by_cases v : rk p S lf s i < j
          · exact Or.inl ⟨i, h1, hi, by rw [decide_eq_true y.1, y.2.1, decide_eq_true v]; rfl⟩
          · right
            -- same rank, so the same one
            have : i = i0 := by
              rcases Nat.lt_trichotomy i i0 with z | z | z
              · have m1 := rkm (i + 1) i0 (by omega)
                rw [rks, y.2.1, if_pos rfl] at m1
                omega
              · exact z
              · have m1 := rkm (i0 + 1) i (by omega)
                rw [rks, q0.1, if_pos rfl] at m1
                omega
            rw [← pi0, ← this]
            exact y.1
        · rintro (⟨i, h1, hi, y⟩ | y)
          · rw [Bool.and_eq_true, Bool.and_eq_true, decide_eq_true_eq, decide_eq_true_eq] at y
            exact ⟨i, h1, hi, by rw [decide_eq_true y.1, y.2.1, decide_eq_true (show rk p S lf s i < j + 1 by omega)]; rfl⟩
          · exact ⟨i0, by omega, by omega, by rw [decide_eq_true (pi0.trans y), q0.1, decide_eq_true (show rk p S lf s i0 < j + 1 by omega)]; rfl⟩
      rw [key]
      by_cases y : b = k
      · rw [y, Nat.testBit_two_pow_self, decide_eq_true rfl, Bool.or_true]
        simp
      · rw [Nat.testBit_two_pow_of_ne y, decide_eq_false y, Bool.or_false]
        simp
