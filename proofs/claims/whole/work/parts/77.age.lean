/-! how long the panes ahead were not washed -/
theorem andL (a b : Nat) : lN a &&& lN b = lN (a &&& b) := by
  apply Int64.toBitVec_inj.mp
  rw [Int64.toBitVec_and, lN_tb, lN_tb, lN_tb]
  apply BitVec.eq_of_toNat_eq
  rw [BitVec.toNat_and, BitVec.toNat_ofNat, BitVec.toNat_ofNat, BitVec.toNat_ofNat, Nat.and_mod_two_pow]
theorem lm1 : (-1 : Int64).toBitVec = BitVec.allOnes 64 := by decide
theorem andnL {a b : Nat} (ha : a < 2 ^ 64) (hb : b < 2 ^ 64) : lN a &&& (lN b ^^^ (-1)) = lN (nd a b) := by
  apply Int64.toBitVec_inj.mp
  rw [Int64.toBitVec_and, Int64.toBitVec_xor, lm1, lN_tb, lN_tb, lN_tb]
  apply BitVec.eq_of_getLsbD_eq
  intro i hi
  rw [BitVec.getLsbD_and, BitVec.getLsbD_xor, BitVec.getLsbD_ofNat, BitVec.getLsbD_ofNat, BitVec.getLsbD_ofNat, BitVec.getLsbD_allOnes, nd_bit, decide_eq_true hi]
  simp
theorem lN_0 {n : Nat} (hn : n < 2 ^ 64) : (lg_cmp (lN n) 0 = 0) = (n = 0) := by
  rw [lg_cmp_eq, eq_iff_iff]
  constructor
  · intro z
    have y := congrArg (fun v => v.toBitVec.toNat) z
    simp only [lN_tn hn] at y
    exact y
  · intro z
    rw [z]
    rfl
theorem wsh_at {D : Nat → Nat → Nat} {M : Nat → Nat} {t s f c j : Nat} : ∀ m, j < m → (∀ i, j < i → i < m → rch (D i) (M i) t s f c = false) → rch (D j) (M j) t s f c = true → wsh D M t s f c m = some (D j 4)
  | 0, hj, _, _ => absurd hj (Nat.not_lt_zero j)
  | m + 1, hj, e, q => by
    rw [wsh]
    by_cases z : j = m
    · subst z
      rw [if_pos q]
    · rw [if_neg (by rw [e m (by omega) (by omega)]; decide), wsh_at m (by omega) (fun i h1 h2 => e i h1 (by omega)) q]
theorem wsh_no {D : Nat → Nat → Nat} {M : Nat → Nat} {t s f c : Nat} : ∀ m, (∀ i, i < m → rch (D i) (M i) t s f c = false) → wsh D M t s f c m = none
  | 0, _ => rfl
  | m + 1, e => by
    rw [wsh, if_neg (by rw [e m (by omega)]; decide), wsh_no m (fun i hi => e i (by omega))]
theorem wsh_in {D : Nat → Nat → Nat} {M : Nat → Nat} {t s f c dd : Nat} : ∀ m, wsh D M t s f c m = some dd → ∃ i, i < m ∧ dd = D i 4
  | 0, q => by cases q
  | m + 1, q => by
    rw [wsh] at q
    by_cases z : rch (D m) (M m) t s f c = true
    · rw [if_pos z] at q
      exact ⟨m, by omega, by injection q with q; exact q.symm⟩
    · rw [if_neg z] at q
      obtain ⟨i, hi, e⟩ := wsh_in m q
      exact ⟨i, by omega, e⟩
/-- how long one pane was not washed, on day e -/
def agP (e : Nat) : Option Nat → Nat
  | none => 99
  | some dd => Nat.min 99 (e - dd)
theorem agP_le (e : Nat) (o : Option Nat) : agP e o ≤ 99 := by
  cases o with
  | none => exact Nat.le_refl 99
  | some dd => exact Nat.min_le_left _ _
/-- r is the longest of them -/
def agO (W : Nat → Nat → Option Nat) (Mm e r : Nat) : Prop := (∀ c, c < 4 → ∀ f, f < 12 → Mm.testBit (12 * c + f) = true → agP e (W c f) ≤ r) ∧ (r = 0 ∨ ∃ c f, c < 4 ∧ f < 12 ∧ Mm.testBit (12 * c + f) = true ∧ agP e (W c f) = r)
theorem agO_u {W : Nat → Nat → Option Nat} {Mm e r r' : Nat} (a : agO W Mm e r) (b : agO W Mm e r') : r = r' := by
  have h1 : ∀ {x y}, agO W Mm e x → agO W Mm e y → x ≤ y := fun {x y} p q => by
    rcases p.2 with z | ⟨c, f, c4, f12, z, z2⟩
    · omega
    · rw [← z2]
      exact q.1 c c4 f f12 z
  exact Nat.le_antisymm (h1 a b) (h1 b a)
/-- what the class holds on its way: drops from j on are looked at -/
def agI (m : Nat) (D : Nat → Nat → Nat) (M : Nat → Nat) (t s x e Mm j Lf o : Nat) : Prop :=
  (∀ c, c < 4 → ∀ f, f < 12 → Lf.testBit (12 * c + f) = (Mm.testBit (12 * c + f) && !anyN (m - j) j (fun i => rch (D i) (M i) t s f (x + c)))) ∧ o ≤ e ∧
  (∀ c, c < 4 → ∀ f, f < 12 → Mm.testBit (12 * c + f) = true → Lf.testBit (12 * c + f) = false → ∃ dd, wsh D M t s f (x + c) m = some dd ∧ o ≤ dd) ∧
  (o = e ∨ ∃ c f, c < 4 ∧ f < 12 ∧ Mm.testBit (12 * c + f) = true ∧ wsh D M t s f (x + c) m = some o)
theorem bit48 {n : Nat} (hn : n < 2 ^ 48) (h : n ≠ 0) : ∃ c f, c < 4 ∧ f < 12 ∧ n.testBit (12 * c + f) = true := by
  obtain ⟨i, hi⟩ := Nat.exists_testBit_of_ne_zero h
  have i48 : i < 48 := by
    rcases Nat.lt_or_ge i 48 with z | z
    · exact z
    · rw [Nat.testBit_lt_two_pow (Nat.lt_of_lt_of_le hn (Nat.pow_le_pow_right (by decide) z))] at hi
      cases hi
  exact ⟨i / 12, i % 12, by omega, by omega, by rw [show 12 * (i / 12) + i % 12 = i by omega]; exact hi⟩
/-- the end: nothing is left -/
theorem agI_0 {m : Nat} {D : Nat → Nat → Nat} {M : Nat → Nat} {t s x e Mm j o : Nat} (I : agI m D M t s x e Mm j 0 o) (de : ∀ i, i < m → D i 4 ≤ e) : agO (fun c f => wsh D M t s f (x + c) m) Mm e (Nat.min 99 (e - o)) := by
  obtain ⟨-, oe, I3, I4⟩ := I
  refine ⟨fun c c4 f f12 z => ?_, ?_⟩
  · obtain ⟨dd, e1, e2⟩ := I3 c c4 f f12 z (Nat.zero_testBit _)
    show agP e (wsh D M t s f (x + c) m) ≤ _
    rw [e1]
    show Nat.min 99 (e - dd) ≤ Nat.min 99 (e - o)
    exact Nat.le_min.mpr ⟨Nat.min_le_left _ _, Nat.le_trans (Nat.min_le_right _ _) (by omega)⟩
  · rcases I4 with z | ⟨c, f, c4, f12, z, z2⟩
    · exact Or.inl (by rw [z, Nat.sub_self]; rfl)
    · refine Or.inr ⟨c, f, c4, f12, z, ?_⟩
      show agP e (wsh D M t s f (x + c) m) = _
      rw [z2]
      rfl
/-- the end: all drops are looked at, panes are left -/
theorem agI_n {m : Nat} {D : Nat → Nat → Nat} {M : Nat → Nat} {t s x e Mm Lf o : Nat} (I : agI m D M t s x e Mm 0 Lf o) (hL : Lf < 2 ^ 48) (h : Lf ≠ 0) : agO (fun c f => wsh D M t s f (x + c) m) Mm e 99 := by
  obtain ⟨c, f, c4, f12, z⟩ := bit48 hL h
  have z2 := z
  rw [I.1 c c4 f f12, Bool.and_eq_true, Bool.not_eq_true'] at z2
  refine ⟨fun c c4 f f12 _ => agP_le e _, Or.inr ⟨c, f, c4, f12, z2.1, ?_⟩⟩
  show agP e (wsh D M t s f (x + c) m) = 99
  rw [wsh_no m (fun i hi => ?_)]
  · rfl
  · cases q : rch (D i) (M i) t s f (x + c) with
    | false => rfl
    | true =>
      have y : anyN (m - 0) 0 (fun i => rch (D i) (M i) t s f (x + c)) = true := (anyN_iff _ _).mpr ⟨i, by omega, by omega, q⟩
      rw [y] at z2
      cases z2.2
/-- one drop more -/
theorem agI_s {m : Nat} {D : Nat → Nat → Nat} {M : Nat → Nat} {t s x e Mm j Lf o S : Nat} (jm : j < m) (I : agI m D M t s x e Mm (j + 1) Lf o) (hL : Lf < 2 ^ 48) (hS : ∀ c, c < 4 → ∀ f, f < 12 → S.testBit (12 * c + f) = rch (D j) (M j) t s f (x + c)) (srt : ∀ i, j < i → i < m → D j 4 ≤ D i 4) (de : ∀ i, i < m → D i 4 ≤ e) :
    ((Lf &&& S) = 0 → agI m D M t s x e Mm j Lf o) ∧ ((Lf &&& S) ≠ 0 → agI m D M t s x e Mm j (nd Lf (Lf &&& S)) (D j 4)) := by
  obtain ⟨I1, I2, I3, I4⟩ := I
  have an : ∀ c f, anyN (m - j) j (fun i => rch (D i) (M i) t s f (x + c)) = (rch (D j) (M j) t s f (x + c) || anyN (m - (j + 1)) (j + 1) (fun i => rch (D i) (M i) t s f (x + c))) := fun c f => by
    rw [show m - j = m - (j + 1) + 1 by omega, anyN]
  refine ⟨fun z => ⟨fun c c4 f f12 => ?_, I2, I3, I4⟩, fun z => ⟨fun c c4 f f12 => ?_, de j jm, fun c c4 f f12 b1 b2 => ?_, Or.inr ?_⟩⟩
  · rw [an]
    have y := I1 c c4 f f12
    cases q : rch (D j) (M j) t s f (x + c) with
    | false => rw [Bool.false_or]; exact y
    | true =>
      have y2 : (Lf &&& S).testBit (12 * c + f) = false := by rw [z, Nat.zero_testBit]
      rw [Nat.testBit_and, hS c c4 f f12, q, Bool.and_true] at y2
      rw [Bool.true_or, Bool.not_true, Bool.and_false]
      exact y2
  · rw [an, nd_bit, Nat.testBit_and, hS c c4 f f12, I1 c c4 f f12]
    cases Mm.testBit (12 * c + f) <;> cases rch (D j) (M j) t s f (x + c) <;> cases anyN (m - (j + 1)) (j + 1) (fun i => rch (D i) (M i) t s f (x + c)) <;> rfl
  · cases q : Lf.testBit (12 * c + f) with
    | false =>
      obtain ⟨dd, e1, e2⟩ := I3 c c4 f f12 b1 q
      refine ⟨dd, e1, ?_⟩
      have y := I1 c c4 f f12
      rw [q, b1, Bool.true_and] at y
      have y2 : anyN (m - (j + 1)) (j + 1) (fun i => rch (D i) (M i) t s f (x + c)) = true := by
        cases y3 : anyN (m - (j + 1)) (j + 1) (fun i => rch (D i) (M i) t s f (x + c)) with
        | true => rfl
        | false => rw [y3] at y; cases y
      clear e2
      -- the last that washed it lies behind j
      have key : ∀ m', j + 1 ≤ m' → m' ≤ m → anyN (m' - (j + 1)) (j + 1) (fun i => rch (D i) (M i) t s f (x + c)) = true → ∀ dd, wsh D M t s f (x + c) m' = some dd → D j 4 ≤ dd := by
        intro m'
        induction m' with
        | zero => intro a; omega
        | succ k ih =>
          intro a b c1 dd c2
          rw [wsh] at c2
          by_cases r : rch (D k) (M k) t s f (x + c) = true
          · rw [if_pos r] at c2
            injection c2 with c2
            rw [← c2]
            by_cases w : j < k
            · exact srt k w (by omega)
            · rw [show k = j by omega]
              exact Nat.le_refl _
          · rw [if_neg r] at c2
            by_cases w : j + 1 ≤ k
            · refine ih w (by omega) ?_ dd c2
              rw [show k + 1 - (j + 1) = k - (j + 1) + 1 by omega, anyN_snoc, show j + 1 + (k - (j + 1)) = k by omega] at c1
              rcases (Bool.or_eq_true _ _).mp c1 with u | u
              · exact u
              · exact absurd u r
            · rw [show k + 1 - (j + 1) = 0 by omega] at c1
              cases c1
      exact key m (by omega) (Nat.le_refl m) y2 dd e1
    | true =>
      rw [nd_bit, Nat.testBit_and, q, Bool.true_and, Bool.true_and, hS c c4 f f12] at b2
      have q2 : rch (D j) (M j) t s f (x + c) = true := by
        cases y : rch (D j) (M j) t s f (x + c) with
        | true => rfl
        | false => rw [y] at b2; cases b2
      have y := I1 c c4 f f12
      rw [q, b1, Bool.true_and] at y
      refine ⟨D j 4, wsh_at m jm (fun i h1 h2 => ?_) q2, Nat.le_refl _⟩
      cases r : rch (D i) (M i) t s f (x + c) with
      | false => rfl
      | true =>
        rw [(anyN_iff _ _).mpr ⟨i, by omega, by omega, r⟩] at y
        cases y
  · have l2 : (Lf &&& S) < 2 ^ 48 := Nat.lt_of_le_of_lt Nat.and_le_left hL
    obtain ⟨c, f, c4, f12, q⟩ := bit48 l2 z
    rw [Nat.testBit_and, Bool.and_eq_true, hS c c4 f f12] at q
    have y := I1 c c4 f f12
    rw [q.1] at y
    have y2 := y.symm
    rw [Bool.and_eq_true, Bool.not_eq_true'] at y2
    refine ⟨c, f, c4, f12, y2.1, wsh_at m jm (fun i h1 h2 => ?_) q.2⟩
    cases r : rch (D i) (M i) t s f (x + c) with
    | false => rfl
    | true =>
      rw [(anyN_iff _ _).mpr ⟨i, by omega, by omega, r⟩] at y2
      cases y2.2
