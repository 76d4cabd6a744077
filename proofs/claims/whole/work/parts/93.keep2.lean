/-! what the panes were washed on, with one drop more -/
theorem wsW_v {f : Nat → Int32} {N t s x e j : Nat} : ∀ K, wsW f N t s x e K j = if anyN K 0 (fun k => N.testBit k && decide (j = ((4 * t + s) * 12 + k / 4) * 10 + (x + k % 4))) = true then nI e else f j
  | 0 => by rw [wsW, anyN, if_neg (by decide)]
  | K + 1 => by
    rw [wsW, anyN_snoc, Nat.zero_add]
    by_cases q : N.testBit K = true
    · rw [if_pos q, q, Bool.true_and]
      by_cases z : j = ((4 * t + s) * 12 + K / 4) * 10 + (x + K % 4)
      · rw [decide_eq_true z, Bool.or_true, if_pos rfl, ← z, pk_us]
      · rw [decide_eq_false z, Bool.or_false, pk_un z, wsW_v K]
    · have q' : N.testBit K = false := by simpa using q
      rw [if_neg q, wsW_v K, q', Bool.false_and, Bool.or_false]
/-- the pane's day with the new drop Dm -/
theorem wsW_p {g : Nat → Int32} {N Mm t s x e t' s' f c : Nat} {Dm : Nat → Nat} (d0 : Dm 0 = t) (d1 : Dm 1 = s) (d2 : Dm 2 = x) (t6 : t < 6) (s4 : s < 4) (t6' : t' < 6) (s4' : s' < 4) (f12 : f < 12) (c10 : c < 10) (eq : ∀ c, c < 4 → ∀ f, f < 12 → Mm.testBit (12 * c + f) = N.testBit (4 * f + c)) (nb : ∀ c, c < 4 → ∀ f, f < 12 → N.testBit (4 * f + c) = true → x + c < 10) : wsW g N t s x e 48 (((4 * t' + s') * 12 + f) * 10 + c) = if rch Dm Mm t' s' f c = true then nI e else g (((4 * t' + s') * 12 + f) * 10 + c) := by
  rw [wsW_v]
  have key : anyN 48 0 (fun k => N.testBit k && decide (((4 * t' + s') * 12 + f) * 10 + c = ((4 * t + s) * 12 + k / 4) * 10 + (x + k % 4))) = rch Dm Mm t' s' f c := by
    rw [Bool.eq_iff_iff, anyN_iff, rch, d0, d1, d2, Bool.and_eq_true, Bool.and_eq_true, Bool.and_eq_true, decide_eq_true_eq, decide_eq_true_eq, decide_eq_true_eq]
    constructor
    · rintro ⟨k, -, h2, h3⟩
      rw [Bool.and_eq_true, decide_eq_true_eq] at h3
      have q := h3.1
      rw [show k = 4 * (k / 4) + k % 4 by omega] at q
      have xc := nb (k % 4) (by omega) (k / 4) (by omega) q
      have z := h3.2
      have zc : c = x + k % 4 := by omega
      have zp : (4 * t' + s') * 12 + f = (4 * t + s) * 12 + k / 4 := by omega
      have zf : f = k / 4 := by omega
      refine ⟨by omega, by omega, by omega, ?_⟩
      rw [show c - x = k % 4 by omega, zf, eq _ (by omega) _ (by omega)]
      exact q
    · rintro ⟨h1, h2, h3, h4⟩
      rw [eq _ (by omega) _ f12] at h4
      refine ⟨4 * f + (c - x), by omega, by omega, ?_⟩
      rw [Bool.and_eq_true, decide_eq_true_eq]
      refine ⟨h4, ?_⟩
      rw [show (4 * f + (c - x)) / 4 = f by omega, show (4 * f + (c - x)) % 4 = c - x by omega, h1, h2]
      omega
  rw [key]
