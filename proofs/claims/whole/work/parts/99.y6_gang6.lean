/-! gangs: the class's lists and its table -/
/-- who is the j-th of a kind -/
def erN (isE : Nat → Bool) : Nat → Nat → Nat
  | 0, _ => 0
  | n + 1, j => if (isE n && decide (ecN isE n = j)) = true then n else erN isE n j
theorem er_w {isE : Nat → Bool} {e : Nat} (z : isE e = true) : ∀ n, e < n → erN isE n (ecN isE e) = e
  | 0, h => absurd h (by omega)
  | n + 1, h => by
    rw [erN]
    by_cases y : e = n
    · rw [y] at z ⊢
      rw [z, decide_eq_true rfl, if_pos (show (true && true) = true from rfl)]
    · rw [if_neg (fun q => by
        rw [Bool.and_eq_true, decide_eq_true_eq] at q
        exact y (ec_inj z q.1 q.2.symm))]
      exact er_w z n (by omega)
theorem er_lt {isE : Nat → Bool} {j : Nat} : ∀ n, n ≤ 10 → erN isE n j < 10
  | 0, _ => by rw [erN]; omega
  | n + 1, h => by
    rw [erN]
    split
    · omega
    · exact er_lt n (by omega)
def bC (isE : Nat → Bool) (tg : Nat → Nat → Nat) (k used : Nat) : Option Nat := bN (ecN isE 10) (min (ecN isE 10) (ocN isE 10)) (erN (fun q => !isE q) 10) (erN isE 10) tg (ocN isE 10) k used
def swC (isE : Nat → Bool) (tg : Nat → Nat → Nat) (k i used j : Nat) : Option Nat := swN (erN (fun q => !isE q) 10) (erN isE 10) tg (bC isE tg k) i used j
/-- what the class holds of the people -/
def CG (isE : Nat → Bool) (tg : Nat → Nat → Nat) (h : av_H) : Prop := h.2.1 27 11 = nI (ecN isE 10) ∧ h.2.1 27 12 = nI (ocN isE 10) ∧ (∀ j, j < (ecN isE 10) → h.2.1 32 j = nI (erN isE 10 j)) ∧ (∀ i, i < (ocN isE 10) → h.2.1 33 i = nI (erN (fun q => !isE q) 10 i)) ∧ ∀ a b, a < 10 → b < 10 → tg a b ≤ 99 ∧ h.2.1 30 (a * 10 + b) = nI (tg a b)
theorem CG.fr {isE : Nat → Bool} {tg : Nat → Nat → Nat} {h h' : av_H} (G : CG isE tg h) (A : agr (FP false [30, 32, 33] [(27, 11), (27, 12)]) h h') : CG isE tg h' := ⟨(A.I rfl).trans G.1, (A.I rfl).trans G.2.1, fun j hj => (A.I rfl).trans (G.2.2.1 j hj), fun j hj => (A.I rfl).trans (G.2.2.2.1 j hj), fun a b ha hb => ⟨(G.2.2.2.2 a b ha hb).1, (A.I rfl).trans (G.2.2.2.2 a b ha hb).2⟩⟩
/-- the class's table is right at i -/
def TB (isE : Nat → Bool) (tg : Nat → Nat → Nat) (h : av_H) (i : Nat) : Prop := ∀ u, u < 2 ^ (ecN isE 10) → h.2.1 34 (i * 2 ^ (ecN isE 10) + u) = oI (bC isE tg ((ocN isE 10) - i) u)
theorem ix_lt {E O i u : Nat} (h : E + O = 10) (hi : i ≤ O) (hu : u < 2 ^ E) : i * 2 ^ E + u < 1024 := by
  have a : O < 2 ^ O := Nat.lt_two_pow_self
  have b : (i + 1) * 2 ^ E ≤ 2 ^ O * 2 ^ E := Nat.mul_le_mul_right _ (by omega)
  rw [← Nat.pow_add, show O + E = 10 by omega, Nat.add_mul] at b
  omega
theorem omx_le {a b : Option Nat} {B : Nat} (ha : ∀ r, a = some r → r ≤ B) (hb : ∀ r, b = some r → r ≤ B) : ∀ r, omx a b = some r → r ≤ B := by
  intro r h
  cases a with
  | none => exact hb r h
  | some x =>
    cases b with
    | none => exact ha r h
    | some y =>
      have := ha x rfl
      have := hb y rfl
      rw [omx] at h
      injection h with h
      omega
theorem oI_max {a b : Option Nat} (ha : ∀ r, a = some r → r ≤ 100000) (hb : ∀ r, b = some r → r ≤ 100000) : (if oI a < oI b then oI b else oI a) = oI (omx a b) := by
  cases a with
  | none =>
    cases b with
    | none => rfl
    | some y =>
      have := hb y rfl
      rw [if_pos (i_lt.mpr (by show (-1 : Int32).toInt < (nI y).toInt; rw [nI_toInt (by omega), show (-1 : Int32).toInt = -1 by decide]; omega))]
      rfl
  | some x =>
    have := ha x rfl
    cases b with
    | none =>
      rw [if_neg (fun q => absurd (i_lt.mp q) (by show ¬ (nI x).toInt < (-1 : Int32).toInt; rw [nI_toInt (by omega), show (-1 : Int32).toInt = -1 by decide]; omega))]
      rfl
    | some y =>
      have := hb y rfl
      exact nI_max (by omega) (by omega)
section
variable {isE : Nat → Bool} {tg : Nat → Nat → Nat}
theorem sw_le {k i used j B : Nat} (ht : ∀ a b, a < 10 → b < 10 → tg a b ≤ 99) (hb : ∀ u r, bC isE tg k u = some r → r ≤ B) : ∀ r, swC isE tg k i used j = some r → r ≤ B + 99 := by
  intro r h
  rw [swC, swN] at h
  split at h
  · cases h
  · cases z : bC isE tg k (used ||| 2 ^ j) with
    | none =>
      rw [z] at h
      cases h
    | some x =>
      rw [z] at h
      injection h with h
      have := hb _ x z
      have := ht _ _ (er_lt (isE := fun q => !isE q) (j := i) 10 (by omega)) (er_lt (isE := isE) (j := j) 10 (by omega))
      omega
theorem bI2_le {k i used B : Nat} (ht : ∀ a b, a < 10 → b < 10 → tg a b ≤ 99) (hb : ∀ u r, bC isE tg k u = some r → r ≤ B) : ∀ j, ∀ r, bI2 (erN (fun q => !isE q) 10) (erN isE 10) tg (bC isE tg k) i used j = some r → r ≤ B + 99
  | 0, r, h => by
    have := hb used r h
    omega
  | j + 1, r, h => omx_le (bI2_le ht hb j) (sw_le ht hb) r h
theorem bC_le (ht : ∀ a b, a < 10 → b < 10 → tg a b ≤ 99) : ∀ k, ∀ u r, bC isE tg k u = some r → r ≤ 99 * k
  | 0, u, r, h => by
    rw [bC, bN] at h
    split at h
    · injection h with h
      omega
    · cases h
  | k + 1, u, r, h => by
    have := bI2_le ht (bC_le ht k) (ecN isE 10) r h
    omega
end
section
variable {X : av_X} {d : Nat} {isE : Nat → Bool} {tg : Nat → Nat → Nat} {h : av_H}
theorem c_bstA (w : WF h) (G : CG isE tg h) {i u : Nat} (hi : i ≤ (ocN isE 10)) (hu : u < 2 ^ (ecN isE 10)) : ev X (d + 2) 30 [vr (some 27), vi (nI i), vi (nI u)] h = av_rI (h.2.1 34 (i * 2 ^ (ecN isE 10) + u)) h := by
  have ep := eo_p (isE := isE) 10
  have ix := ix_lt ep hi hu
  rw [e_30, b_30_0, gI_27_11 w, G.1, nb_shl (by omega) (by omega), nI_add, show (1024 : Int32) = nI 1024 from rfl, c_below', rg_lt ix (by decide), if_neg (show ¬ bI true = 0 by decide), gR_27_8 w, ld_34 w ix]
theorem c_sum (w : WF h) (G : CG isE tg h) {i u j : Nat} (hi : i < (ocN isE 10)) (hu : u < 2 ^ (ecN isE 10)) (hj : j < (ecN isE 10)) (T : TB isE tg h (i + 1)) : ev X (d + 3) 32 [vr (some 27), vi (nI i), vi (nI u), vi (nI j)] h = av_rI (oI (swC isE tg ((ocN isE 10) - (i + 1)) i u j)) h := by
  have ep := eo_p (isE := isE) 10
  have u10 : u < 1024 := Nat.lt_of_lt_of_le hu (Nat.pow_le_pow_right (show 0 < 2 by decide) (show (ecN isE 10) ≤ 10 by omega))
  rw [e_32, b_32_0, c_hasBit' (by omega) (by omega), swC, swN]
  cases b : u.testBit j with
  | true =>
    rw [if_neg (show ¬ bI true = 0 by decide), if_pos rfl]
    rfl
  | false =>
    have hu' : u ||| 2 ^ j < 2 ^ (ecN isE 10) := Nat.or_lt_two_pow hu (Nat.pow_lt_pow_right (by decide) hj)
    rw [if_pos (show bI false = 0 from rfl), if_neg (show ¬ false = true by decide), show (10 : Int32) = nI 10 from rfl, c_below', rg_lt (show i < 10 by omega) (by decide), if_neg (show ¬ bI true = 0 by decide), c_below', rg_lt (show j < 10 by omega) (by decide), if_neg (show ¬ bI true = 0 by decide), is_27 w, nI_1, nb_sh1 j (by omega), nb_or, c_bstA w G (by omega) hu', av_cI_r, Option.bind_some, T _ hu']
    have bl := bC_le (isE := isE) (fun a b ha hb => (G.2.2.2.2 a b ha hb).1) ((ocN isE 10) - (i + 1)) (u ||| 2 ^ j)
    cases z : bC isE tg ((ocN isE 10) - (i + 1)) (u ||| 2 ^ j) with
    | none =>
      dsimp only
      rw [if_pos (show oI none = -1 from rfl)]
      rfl
    | some r =>
      dsimp only
      have := bl r z
      obtain ⟨t1, t2⟩ := G.2.2.2.2 _ _ (er_lt (isE := fun q => !isE q) (j := i) 10 (by omega)) (er_lt (isE := isE) (j := j) 10 (by omega))
      have l1 := er_lt (isE := fun q => !isE q) (j := i) 10 (by omega)
      have l2 := er_lt (isE := isE) (j := j) 10 (by omega)
      rw [if_neg (show ¬ oI (some r) = -1 from fun q => by have := (oI_inj (a := some r) (b := none) (fun p hp => by injection hp with hp; omega) (fun p hp => by cases hp)).mp q; cases this), gR_27_4 w, gR_27_7 w, ld_33 w (by omega), G.2.2.2.1 i hi, gR_27_6 w, ld_32 w (by omega), G.2.2.1 j hj, pk_mul, nI_add, ld_30 w (by omega), t2]
      show av_rI (nI r + _) h = _
      rw [nI_add]
      rfl
end
