/-! buy: what is searched for -/
def inc (u : Nat → Nat) (o : Nat) : Nat → Nat := fun i => if i = o then u i + 1 else u i
/-- towers from t on are served, with u already given away -/
def svU (S : Nat) (f : Nat → Nat) (m : Nat → Nat) (T : Nat → Bool) : Nat → Nat → (Nat → Nat) → Bool
  | 0, _, _ => true
  | n + 1, t, u => if T t = true then anyN 8 0 (fun o => (S.testBit o && ((f o).testBit t && decide (u o < m o))) && svU S f m T n (t + 1) (inc u o)) else svU S f m T n (t + 1) u
def fF (f : Nat → Nat) (o t : Nat) : Bool := (f o).testBit t
def cR (S : Nat) (m u : Nat → Nat) (o : Nat) : Nat := if S.testBit o = true then m o - u o else 0
theorem cR_inc {S o : Nat} {m u : Nat → Nat} (hS : S.testBit o = true) (hu : u o < m o) (i : Nat) : cR S m u i = cR S m (inc u o) i + (if i = o then 1 else 0) := by
  rw [cR, cR, inc]
  by_cases z : i = o
  · rw [z, if_pos hS, if_pos hS, if_pos rfl, if_pos rfl]
    omega
  · rw [if_neg z, if_neg z, Nat.add_zero]
theorem sv_m {S : Nat} {f m : Nat → Nat} {T : Nat → Bool} : ∀ n t u, t + n = 6 → (svU S f m T n t u = true ↔ Mtch (fF f) (cR S m u) (fun i => decide (t ≤ i) && T i))
  | 0, t, u, ht => by
    have no : ∀ i, i < 6 → (decide (t ≤ i) && T i) = false := fun i hi => by rw [decide_eq_false (by omega), Bool.false_and]
    refine ⟨fun _ => ⟨fun _ => 0, fun i hi z => ?_, fun o _ => ?_⟩, fun _ => rfl⟩
    · dsimp only at z
      rw [no i hi] at z
      cases z
    · rw [fct_0 6 (fun i hi => by dsimp only; rw [no i hi]; rfl)]
      omega
  | n + 1, t, u, ht => by
    rw [svU]
    by_cases zt : T t = true
    · rw [if_pos zt, anyN_iff]
      constructor
      · rintro ⟨o, -, o8, z⟩
        rw [Bool.and_eq_true, Bool.and_eq_true, Bool.and_eq_true, decide_eq_true_eq] at z
        obtain ⟨⟨z1, z2, z3⟩, z4⟩ := z
        obtain ⟨a, m1, m2⟩ := (sv_m n (t + 1) (inc u o) (by omega)).mp z4
        refine ⟨fun i => if i = t then o else a i, fun i hi y => ?_, fun i hi => ?_⟩
        · dsimp only
          by_cases y2 : i = t
          · rw [if_pos y2, y2]
            exact ⟨by omega, z2⟩
          · rw [if_neg y2]
            rw [Bool.and_eq_true, decide_eq_true_eq] at y
            exact m1 i hi (by dsimp only; rw [decide_eq_true (show t + 1 ≤ i by omega), y.2]; rfl)
        · have b := m2 i hi
          dsimp only at b
          have e : fb_ct (fun j => (decide (t ≤ j) && T j) && decide ((if j = t then o else a j) = i)) 6 = fb_ct (fun j => decide (j = t) && decide (o = i)) 6 + fb_ct (fun j => (decide (t + 1 ≤ j) && T j) && decide (a j = i)) 6 := by
            rw [← fct_or (p := fun j => decide (j = t) && decide (o = i)) (q := fun j => (decide (t + 1 ≤ j) && T j) && decide (a j = i)) 6 (fun j _ y => by
              rw [Bool.and_eq_true, decide_eq_true_eq] at y
              rw [decide_eq_false (show ¬ t + 1 ≤ j by omega), Bool.false_and, Bool.false_and])]
            refine fct_cg 6 (fun j hj => ?_)
            by_cases y : j = t
            · rw [if_pos y, decide_eq_true y, decide_eq_true (show t ≤ j by omega), decide_eq_false (show ¬ t + 1 ≤ j by omega), y, zt]
              simp
            · rw [if_neg y, decide_eq_false y, show decide (t ≤ j) = decide (t + 1 ≤ j) from decide_eq_decide.mpr (by omega)]
              simp
          dsimp only
          rw [e, cR_inc z1 z3 i]
          have l1 : fb_ct (fun j => decide (j = t) && decide (o = i)) 6 ≤ if i = o then 1 else 0 := by
            by_cases y : i = o
            · rw [if_pos y]
              have one : fb_ct (fun j => decide (j = t)) 6 = 1 := by
                have t6 : t < 6 := by omega
                match t, t6 with
                | 0, _ => rfl
                | 1, _ => rfl
                | 2, _ => rfl
                | 3, _ => rfl
                | 4, _ => rfl
                | 5, _ => rfl
              rw [← one]
              exact fct_le 6 (fun j _ y => by rw [Bool.and_eq_true] at y; exact y.1)
            · rw [if_neg y, fct_0 6 (fun j _ => by rw [decide_eq_false (show ¬ o = i from fun z => y z.symm), Bool.and_false])]
              omega
          omega
      · rintro ⟨a, m1, m2⟩
        have q := m1 t (by omega) (by dsimp only; rw [decide_eq_true (show t ≤ t by omega), zt]; rfl)
        have cp : 0 < cR S m u (a t) := by
          have b := m2 (a t) q.1
          dsimp only at b
          have p : 0 < fb_ct (fun j => (decide (t ≤ j) && T j) && decide (a j = a t)) 6 := fct_pos 6 (show t < 6 by omega) (by rw [decide_eq_true (show t ≤ t by omega), zt, decide_eq_true rfl]; rfl)
          omega
        have hS : S.testBit (a t) = true := by
          cases y : S.testBit (a t) with
          | true => rfl
          | false => rw [cR, if_neg (by rw [y]; decide)] at cp; omega
        have hu : u (a t) < m (a t) := by
          rw [cR, if_pos hS] at cp
          omega
        refine ⟨a t, by omega, by omega, ?_⟩
        have ih := (sv_m (S := S) (f := f) (m := m) (T := T) n (t + 1) (inc u (a t)) (by omega)).mpr ⟨a, fun i hi y => m1 i hi (by
          dsimp only at y ⊢
          rw [Bool.and_eq_true, decide_eq_true_eq] at y
          rw [decide_eq_true (show t ≤ i by omega), y.2]
          rfl), fun i hi => by
          have b := m2 i hi
          dsimp only at b ⊢
          rw [cR_inc hS hu i] at b
          have e : fb_ct (fun j => (decide (t ≤ j) && T j) && decide (a j = i)) 6 = fb_ct (fun j => decide (j = t) && decide (a t = i)) 6 + fb_ct (fun j => (decide (t + 1 ≤ j) && T j) && decide (a j = i)) 6 := by
            rw [← fct_or (p := fun j => decide (j = t) && decide (a t = i)) (q := fun j => (decide (t + 1 ≤ j) && T j) && decide (a j = i)) 6 (fun j _ y => by
              rw [Bool.and_eq_true, decide_eq_true_eq] at y
              rw [decide_eq_false (show ¬ t + 1 ≤ j by omega), Bool.false_and, Bool.false_and])]
            refine fct_cg 6 (fun j hj => ?_)
            by_cases y : j = t
            · rw [decide_eq_true y, decide_eq_true (show t ≤ j by omega), decide_eq_false (show ¬ t + 1 ≤ j by omega), y, zt]
              simp
            · rw [decide_eq_false y, show decide (t ≤ j) = decide (t + 1 ≤ j) from decide_eq_decide.mpr (by omega)]
              simp
          have g : (if i = a t then 1 else 0) ≤ fb_ct (fun j => decide (j = t) && decide (a t = i)) 6 := by
            by_cases y : i = a t
            · rw [if_pos y]
              exact fct_pos 6 (show t < 6 by omega) (by rw [decide_eq_true rfl, decide_eq_true y.symm]; rfl)
            · rw [if_neg y]
              omega
          omega⟩
        rw [hS, ih, decide_eq_true hu, show (f (a t)).testBit t = true from q.2]
        rfl
    · rw [if_neg zt, sv_m n (t + 1) u (by omega)]
      have e : (fun i => decide (t + 1 ≤ i) && T i) = fun i => decide (t ≤ i) && T i := by
        funext i
        by_cases y : i = t
        · rw [y, show T t = false by simpa using zt, Bool.and_false, Bool.and_false]
        · rw [show decide (t + 1 ≤ i) = decide (t ≤ i) from decide_eq_decide.mpr (by omega)]
      rw [e]
/-- how many of a group the offers serve at most -/
def srv (S : Nat) (f m : Nat → Nat) (G : Nat) : Nat := sN (fun o => if (S.testBit o && !decide (f o &&& G = 0)) = true then m o else 0) 8
def enB (S : Nat) (f m : Nat → Nat) (T : Nat) : Bool := !anyN T 1 (fun G => decide (nd G T = 0) && decide (srv S f m G < bct G))
theorem bct_6 {g : Nat} (hg : g < 64) : bct g = cnt (fun t => g.testBit t) := by
  rw [bct, cnt, show 64 = 6 + 58 from rfl, fct_48 58 (fun i hi => Nat.testBit_lt_two_pow (Nat.lt_of_lt_of_le hg (Nat.pow_le_pow_right (n := 2) (by decide) hi)))]
theorem srv_c {S G : Nat} {f m : Nat → Nat} (hG : G < 64) : srv S f m G = capN (fF f) (cR S m (fun _ => 0)) (fun t => G.testBit t) := by
  unfold srv capN
  refine sN_cg 8 (fun o _ => ?_)
  have e : nbh (fF f) (fun t => G.testBit t) o = !decide (f o &&& G = 0) := by
    rw [Bool.eq_iff_iff, nbh_i, Bool.not_eq_true', decide_eq_false_iff_not]
    constructor
    · rintro ⟨t, -, h2, h3⟩ z
      have y := Nat.testBit_and (f o) G t
      rw [z, Nat.zero_testBit, h2, show (f o).testBit t = true from h3] at y
      cases y
    · intro z
      obtain ⟨t, ht⟩ := Nat.exists_testBit_of_ne_zero z
      rw [Nat.testBit_and, Bool.and_eq_true] at ht
      refine ⟨t, ?_, ht.2, ht.1⟩
      rcases Nat.lt_or_ge t 6 with y | y
      · exact y
      · have := ht.2
        rw [Nat.testBit_lt_two_pow (Nat.lt_of_lt_of_le hG (Nat.pow_le_pow_right (n := 2) (by decide) y))] at this
        cases this
  rw [e, cR]
  cases S.testBit o <;> cases decide (f o &&& G = 0) <;> simp
theorem en_h {S T : Nat} {f m : Nat → Nat} (hT : T < 64) : enB S f m T = true ↔ Hall (fF f) (cR S m (fun _ => 0)) (fun t => T.testBit t) := by
  rw [enB, Bool.not_eq_true', Bool.eq_false_iff, Ne, anyN_iff]
  constructor
  · intro z G gs
    have lg : msk G 6 < 64 := msk_lt 6
    have bit : ∀ t, t < 6 → (msk G 6).testBit t = G t := fun t ht => by rw [msk_bit, decide_eq_true ht, Bool.true_and]
    have sub : nd (msk G 6) T = 0 := nd_0.mpr (fun i q => by
      rw [msk_bit, Bool.and_eq_true, decide_eq_true_eq] at q
      exact gs i q.1 q.2)
    have ecg : cnt (fun t => (msk G 6).testBit t) = cnt G := fct_cg 6 (fun t ht => bit t ht)
    have ecp : capN (fF f) (cR S m (fun _ => 0)) (fun t => (msk G 6).testBit t) = capN (fF f) (cR S m (fun _ => 0)) G := by
      unfold capN
      refine sN_cg 8 (fun o _ => ?_)
      have : nbh (fF f) (fun t => (msk G 6).testBit t) o = nbh (fF f) G o := by
        unfold nbh
        exact anyN_cg _ _ (fun t _ ht => by dsimp only; rw [bit t (by omega)])
      rw [this]
    by_cases g0 : msk G 6 = 0
    · have : cnt G = 0 := fct_0 6 (fun t ht => by rw [← bit t ht, g0, Nat.zero_testBit])
      omega
    · have le : msk G 6 ≤ T := by
        have e : msk G 6 &&& T = msk G 6 := by
          apply Nat.eq_of_testBit_eq
          intro i
          rw [Nat.testBit_and]
          cases q : (msk G 6).testBit i with
          | false => rfl
          | true => rw [nd_0.mp sub i q]; rfl
        rw [← e]
        exact Nat.and_le_right
      have nz : ¬ srv S f m (msk G 6) < bct (msk G 6) := fun y => z ⟨msk G 6, by omega, by omega, by rw [decide_eq_true sub, decide_eq_true y]; rfl⟩
      rw [srv_c lg, bct_6 lg, ecg, ecp] at nz
      omega
  · rintro z ⟨G, g1, g2, y⟩
    rw [Bool.and_eq_true, decide_eq_true_eq, decide_eq_true_eq] at y
    have lg : G < 64 := by omega
    have := z (fun t => G.testBit t) (fun t ht q => nd_0.mp y.1 t q)
    rw [srv_c lg, bct_6 lg] at y
    omega
theorem en_sv {S T : Nat} {f m : Nat → Nat} (hT : T < 64) : enB S f m T = svU S f m (fun t => T.testBit t) 6 0 (fun _ => 0) := by
  rw [Bool.eq_iff_iff, en_h hT, hall_iff, sv_m 6 0 _ rfl]
  have e : (fun i => decide (0 ≤ i) && T.testBit i) = fun i => T.testBit i := by
    funext i
    rw [decide_eq_true (by omega), Bool.true_and]
  rw [e]
theorem en_mono {S S' T : Nat} {f m : Nat → Nat} (hT : T < 64) (q : nd S S' = 0) (z : enB S f m T = true) : enB S' f m T = true := by
  rw [en_h hT] at z ⊢
  intro G gs
  refine Nat.le_trans (z G gs) (cap_mono (fun o _ => ?_))
  rw [cR, cR]
  by_cases y : S.testBit o = true
  · rw [if_pos y, if_pos (nd_0.mp q o y)]
    exact Nat.le_refl _
  · rw [if_neg y]
    omega
/-! the cheapest -/
def upO (C : Nat → Nat) (n : Nat) : Option Nat → Bool
  | none => true
  | some b => decide (C n < C b)
def upB (P : Nat → Bool) (C : Nat → Nat) : Nat → Option Nat
  | 0 => none
  | n + 1 => if (P n && upO C n (upB P C n)) = true then some n else upB P C n
def dnB (P : Nat → Bool) (C : Nat → Nat) : Nat → Nat → Nat
  | 0, f => f
  | n + 1, f => dnB P C n (if (P n && decide (C n ≤ C f)) = true then n else f)
def leB (C : Nat → Nat) (b i : Nat) : Prop := C b < C i ∨ (C b = C i ∧ b ≤ i)
theorem upB_s {P : Nat → Bool} {C : Nat → Nat} : ∀ n, (upB P C n = none → ∀ i, i < n → P i = false) ∧ ∀ b, upB P C n = some b → b < n ∧ P b = true ∧ ∀ i, i < n → P i = true → leB C b i
  | 0 => ⟨fun _ i hi => absurd hi (by omega), fun b z => by cases z⟩
  | n + 1 => by
    obtain ⟨h1, h2⟩ := upB_s (P := P) (C := C) n
    rw [upB]
    by_cases q : (P n && upO C n (upB P C n)) = true
    · rw [if_pos q]
      rw [Bool.and_eq_true] at q
      refine ⟨fun z => (by cases z), fun b z => ?_⟩
      injection z with z
      subst z
      refine ⟨by omega, q.1, fun i hi pi => ?_⟩
      by_cases y : i = n
      · rw [y]
        exact Or.inr ⟨rfl, Nat.le_refl _⟩
      · cases e : upB P C n with
        | none => rw [h1 e i (by omega)] at pi; cases pi
        | some c =>
          have q2 := q.2
          rw [e, upO, decide_eq_true_eq] at q2
          rcases (h2 c e).2.2 i (by omega) pi with u | u
          · exact Or.inl (by omega)
          · exact Or.inl (by omega)
    · rw [if_neg q]
      refine ⟨fun z i hi => ?_, fun b z => ?_⟩
      · by_cases y : i = n
        · rw [y]
          rw [z, upO, Bool.and_true] at q
          simpa using q
        · exact h1 z i (by omega)
      · obtain ⟨u1, u2, u3⟩ := h2 b z
        refine ⟨by omega, u2, fun i hi pi => ?_⟩
        by_cases y : i = n
        · rw [y] at pi ⊢
          rw [z, pi, Bool.true_and, upO, decide_eq_true_eq] at q
          rcases Nat.lt_or_ge (C b) (C n) with w | w
          · exact Or.inl w
          · exact Or.inr ⟨by omega, by omega⟩
        · exact u3 i (by omega) pi
theorem dnB_s {P : Nat → Bool} {C : Nat → Nat} : ∀ n f, P f = true → n ≤ f → P (dnB P C n f) = true ∧ leB C (dnB P C n f) f ∧ (∀ i, i < n → P i = true → leB C (dnB P C n f) i) ∧ dnB P C n f ≤ f
  | 0, f, pf, _ => ⟨pf, Or.inr ⟨rfl, Nat.le_refl _⟩, fun i hi => absurd hi (by omega), Nat.le_refl _⟩
  | n + 1, f, pf, nf => by
    rw [dnB]
    by_cases q : (P n && decide (C n ≤ C f)) = true
    · rw [if_pos q]
      rw [Bool.and_eq_true, decide_eq_true_eq] at q
      obtain ⟨h1, h2, h3, h4⟩ := dnB_s (P := P) (C := C) n n q.1 (Nat.le_refl _)
      refine ⟨h1, ?_, fun i hi pi => ?_, by omega⟩
      · unfold leB at h2 ⊢
        omega
      · by_cases y : i = n
        · rw [y]; exact h2
        · exact h3 i (by omega) pi
    · rw [if_neg q]
      obtain ⟨h1, h2, h3, h4⟩ := dnB_s (P := P) (C := C) n f pf (by omega)
      refine ⟨h1, h2, fun i hi pi => ?_, h4⟩
      by_cases y : i = n
      · rw [y] at pi ⊢
        rw [pi, Bool.true_and, decide_eq_true_eq] at q
        unfold leB at h2 ⊢
        omega
      · exact h3 i (by omega) pi
theorem up_dn {P : Nat → Bool} {C : Nat → Nat} {n th : Nat} (pt : P th = true) (ht : th < n) (no : ∀ i, th < i → P i = false) : upB P C n = some (dnB P C th th) := by
  obtain ⟨h1, h2, h3, h4⟩ := dnB_s (P := P) (C := C) th th pt (Nat.le_refl _)
  obtain ⟨u1, u2⟩ := upB_s (P := P) (C := C) n
  cases e : upB P C n with
  | none =>
    have := u1 e th ht
    rw [pt] at this
    cases this
  | some b =>
    obtain ⟨b1, b2, b3⟩ := u2 b e
    have bl : b ≤ th := by
      rcases Nat.lt_or_ge th b with y | y
      · rw [no b y] at b2; cases b2
      · exact y
    have l1 := b3 (dnB P C th th) (by omega) h1
    have l2 : leB C (dnB P C th th) b := by
      by_cases y : b = th
      · rw [y]; exact h2
      · exact h3 b (by omega) b2
    unfold leB at l1 l2
    have : b = dnB P C th th := by omega
    rw [this]
