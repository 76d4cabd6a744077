/-! a row of drops tried: what is counted -/
def pix (D : Nat → Nat) (k : Nat) : Nat := ((4 * D 0 + D 1) * 12 + k / 4) * 10 + (D 2 + k % 4)
/-- pane j is reached by a drop -/
def pnB (D : Nat → Nat) (N j : Nat) : Bool := anyN 48 0 (fun k => N.testBit k && decide (j = pix D k))
theorem pn_rch {N Mm t' s' f c : Nat} {Dm : Nat → Nat} (t6 : Dm 0 < 6) (s4 : Dm 1 < 4) (t6' : t' < 6) (s4' : s' < 4) (f12 : f < 12) (c10 : c < 10) (eq : ∀ c, c < 4 → ∀ f, f < 12 → Mm.testBit (12 * c + f) = N.testBit (4 * f + c)) (nb : ∀ c, c < 4 → ∀ f, f < 12 → N.testBit (4 * f + c) = true → Dm 2 + c < 10) : pnB Dm N (((4 * t' + s') * 12 + f) * 10 + c) = rch Dm Mm t' s' f c := by
  rw [Bool.eq_iff_iff, pnB, anyN_iff, rch, Bool.and_eq_true, Bool.and_eq_true, Bool.and_eq_true, decide_eq_true_eq, decide_eq_true_eq, decide_eq_true_eq]
  constructor
  · rintro ⟨k, -, h2, h3⟩
    rw [Bool.and_eq_true, decide_eq_true_eq, pix] at h3
    have q := h3.1
    rw [show k = 4 * (k / 4) + k % 4 by omega] at q
    have xc := nb (k % 4) (by omega) (k / 4) (by omega) q
    have z := h3.2
    have zc : c = Dm 2 + k % 4 := by omega
    have zp : (4 * t' + s') * 12 + f = (4 * Dm 0 + Dm 1) * 12 + k / 4 := by omega
    have zf : f = k / 4 := by omega
    refine ⟨by omega, by omega, by omega, ?_⟩
    rw [show c - Dm 2 = k % 4 by omega, zf, eq _ (by omega) _ (by omega)]
    exact q
  · rintro ⟨h1, h2, h3, h4⟩
    rw [eq _ (by omega) _ f12] at h4
    refine ⟨4 * f + (c - Dm 2), by omega, by omega, ?_⟩
    rw [Bool.and_eq_true, decide_eq_true_eq, pix]
    refine ⟨h4, ?_⟩
    rw [show (4 * f + (c - Dm 2)) / 4 = f by omega, show (4 * f + (c - Dm 2)) % 4 = c - Dm 2 by omega, h1, h2]
    omega
theorem cnt_pt {A : Nat → Bool} {x : Nat} : ∀ n, fb_ct (fun j => A j || decide (j = x)) n = fb_ct A n + if (decide (x < n) && !A x) = true then 1 else 0
  | 0 => by
    rw [decide_eq_false (by omega), Bool.false_and, if_neg (by decide)]
    rfl
  | n + 1 => by
    rw [fb_ct_succ, fb_ct_succ, cnt_pt n]
    by_cases z : n = x
    · rw [decide_eq_true z, Bool.or_true, if_pos rfl, decide_eq_false (show ¬ x < n by omega), Bool.false_and, if_neg (by decide), decide_eq_true (show x < n + 1 by omega), Bool.true_and, z]
      cases A x <;> simp
    · rw [decide_eq_false z, Bool.or_false, show decide (x < n + 1) = decide (x < n) from decide_eq_decide.mpr (by omega)]
      omega
theorem cnt_im {A B : Nat → Bool} {p : Nat → Nat} {n : Nat} (p1 : ∀ k, k < 48 → B k = true → p k < n) (p2 : ∀ k k', k < 48 → k' < 48 → B k = true → B k' = true → p k = p k' → k = k') : ∀ K, K ≤ 48 → fb_ct (fun j => A j || anyN K 0 (fun k => B k && decide (j = p k))) n = fb_ct A n + fb_ct (fun k => B k && !A (p k)) K
  | 0, _ => by
    rw [show fb_ct (fun k => B k && !A (p k)) 0 = 0 from rfl, Nat.add_zero]
    refine fct_cg n (fun i _ => ?_)
    rw [anyN, Bool.or_false]
  | K + 1, hK => by
    have ih := cnt_im p1 p2 (A := A) K (by omega)
    rw [fb_ct_succ]
    cases z : B K with
    | false =>
      rw [Bool.false_and, if_neg (by decide)]
      show _ = fb_ct A n + fb_ct (fun k => B k && !A (p k)) K
      rw [← ih]
      refine fct_cg n (fun i _ => ?_)
      rw [anyN_snoc, Nat.zero_add, z, Bool.false_and, Bool.or_false]
    | true =>
      have e : fb_ct (fun j => A j || anyN (K + 1) 0 (fun k => B k && decide (j = p k))) n = fb_ct (fun j => (A j || anyN K 0 (fun k => B k && decide (j = p k))) || decide (j = p K)) n := fct_cg n (fun i _ => by
        rw [anyN_snoc, Nat.zero_add, z, Bool.true_and, Bool.or_assoc])
      have no : anyN K 0 (fun k => B k && decide (p K = p k)) = false := by
        rw [Bool.eq_false_iff, Ne, anyN_iff]
        rintro ⟨k, -, hk, y⟩
        rw [Bool.and_eq_true, decide_eq_true_eq] at y
        have := p2 K k (by omega) (by omega) z y.1 y.2
        omega
      rw [e, cnt_pt, ih, no, Bool.or_false, decide_eq_true (p1 K (by omega) z), Bool.true_and]
      omega
def sL (g : Nat → Int64) (a : Nat) : Nat → Int64
  | 0 => 0
  | n + 1 => sL g a n + g (a + n)
theorem sL_cg {g k : Nat → Int64} {a : Nat} : ∀ n, (∀ i, a ≤ i → i < a + n → g i = k i) → sL g a n = sL k a n
  | 0, _ => rfl
  | n + 1, q => by rw [sL, sL, sL_cg n (fun i h1 h2 => q i h1 (by omega)), q (a + n) (by omega) (by omega)]
/-- the panes that the drops from m0 on reach -/
def mkP (D : Nat → Nat → Nat) (N : Nat → Nat) (m0 n : Nat) (j : Nat) : Bool := anyN n m0 (fun i => pnB (D i) (N i) j)
/-- what drop i reaches first -/
def nwB (D : Nat → Nat → Nat) (M : Nat → Nat) (m0 n : Nat) (c f : Nat) : Bool := (M (m0 + n)).testBit (12 * c + f) && !anyN n m0 (fun j => rch (D j) (M j) (D (m0 + n) 0) (D (m0 + n) 1) f (D (m0 + n) 2 + c))
theorem nw_cnt {m : Nat} {D : Nat → Nat → Nat} {M N : Nat → Nat} (B : DB m D M N) {m0 n L : Nat} (hn : m0 + n < m) (hL : L < 2 ^ 48) (bL : ∀ c, c < 4 → ∀ f, f < 12 → L.testBit (12 * c + f) = nwB D M m0 n c f) : fb_ct (mkP D N m0 (n + 1)) 2880 = fb_ct (mkP D N m0 n) 2880 + bct L := by
  obtain ⟨b0, b1, b2, b3, b4, b5, b6, b7, b8, b9, b10, b11, b12, b13, b14, b15, b16, b17, b18, b19, b20, b21, b22, b23⟩ := B.2.1 (m0 + n) hn
  have e1 : fb_ct (mkP D N m0 (n + 1)) 2880 = fb_ct (fun j => mkP D N m0 n j || anyN 48 0 (fun k => (N (m0 + n)).testBit k && decide (j = pix (D (m0 + n)) k))) 2880 := fct_cg 2880 (fun j _ => by
    rw [mkP, mkP, anyN_snoc]
    rfl)
  have nb' : ∀ k, k < 48 → (N (m0 + n)).testBit k = true → k / 4 < D (m0 + n) 3 ∧ D (m0 + n) 2 + k % 4 < 10 := fun k hk z => by
    rw [show k = 4 * (k / 4) + k % 4 by omega] at z
    exact b23 (k % 4) (by omega) (k / 4) (by omega) z
  rw [e1, cnt_im (p := pix (D (m0 + n))) (fun k hk z => by
    have := nb' k hk z
    unfold pix
    omega) (fun k k' hk hk' z z' y => by
    have u1 := nb' k hk z
    have u2 := nb' k' hk' z'
    unfold pix at y
    omega) 48 (Nat.le_refl _)]
  have e2 : fb_ct (fun k => (N (m0 + n)).testBit k && !mkP D N m0 n (pix (D (m0 + n)) k)) 48 = fb_ct (fun k => (bs (fun k => (N (m0 + n)).testBit k && !mkP D N m0 n (pix (D (m0 + n)) k)) 48).testBit k) 48 := fct_cg 48 (fun k hk => by rw [bs_bit, decide_eq_true hk, Bool.true_and])
  rw [e2, bits_eq2 hL (fun c hc f hf => ?_)]
  rw [bL c hc f hf, bs_bit, decide_eq_true (show 4 * f + c < 48 by omega), Bool.true_and, nwB, b22 c hc f hf]
  cases z : (N (m0 + n)).testBit (4 * f + c) with
  | false => rfl
  | true =>
    have u := b23 c hc f hf z
    rw [Bool.true_and, Bool.true_and, mkP]
    congr 1
    refine anyN_cg _ _ (fun j h1 h2 => ?_)
    obtain ⟨c0, c1, c2, c3, c4, c5, c6, c7, c8, c9, c10, c11, c12, c13, c14, c15, c16, c17, c18, c19, c20, c21, c22, c23⟩ := B.2.1 j (by omega)
    rw [← pn_rch (N := N j) (Mm := M j) (Dm := D j) c0 c1 b0 b1 hf u.2 c22 (fun c hc f hf z => (c23 c hc f hf z).2), pix, show (4 * f + c) / 4 = f by omega, show (4 * f + c) % 4 = c by omega]
