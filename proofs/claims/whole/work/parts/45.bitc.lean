/-! how many bits: the class's own counting -/
def mk (c : Nat) : Nat → Nat
  | 0 => 0
  | n + 1 => c + 256 * mk c n
theorem and_sp {a A m M : Nat} (ha : a < 256) (hm : m < 256) : (a + 256 * A) &&& (m + 256 * M) = (a &&& m) + 256 * (A &&& M) := by
  apply Nat.eq_of_testBit_eq
  intro i
  have e : ∀ x X : Nat, x < 256 → (x + 256 * X).testBit i = if i < 8 then x.testBit i else X.testBit (i - 8) := fun x X hx => by
    rw [Nat.add_comm]
    exact Nat.testBit_two_pow_mul_add X (i := 8) hx i
  rw [Nat.testBit_and, e _ _ ha, e _ _ hm, e _ _ (Nat.lt_of_le_of_lt Nat.and_le_left ha)]
  split <;> rw [Nat.testBit_and]
def S1 (n x : Nat) : Nat := x - ((x / 2) &&& mk 85 n)
def S2 (n x : Nat) : Nat := (x &&& mk 51 n) + ((x / 4) &&& mk 51 n)
def S3 (n x : Nat) : Nat := (x + x / 16) &&& mk 15 n
theorem S1_d : ∀ b, b < 256 → ∀ y, y < 2 → (b / 2 + 128 * y) &&& 85 = (b / 2) &&& 85 := by decide +kernel
theorem S2_d : ∀ b, b < 256 → ∀ y, y < 4 → (b / 4 + 64 * y) &&& 51 = (b / 4) &&& 51 := by decide +kernel
theorem S3_d : ∀ b, b < 69 → ∀ y, y < 5 → (b + b / 16 + 16 * y) &&& 15 = (b + b / 16) &&& 15 := by decide +kernel
theorem S1_s {n b y : Nat} (hb : b < 256) : S1 (n + 1) (b + 256 * y) = S1 1 b + 256 * S1 n y := by
  have e : (b + 256 * y) / 2 = (b / 2 + 128 * (y % 2)) + 256 * (y / 2) := by omega
  have h1 : (b / 2) &&& 85 ≤ b / 2 := Nat.and_le_left
  have h2 : (y / 2) &&& mk 85 n ≤ y / 2 := Nat.and_le_left
  have e1 : mk 85 1 = 85 := rfl
  rw [S1, S1, S1, mk, e, and_sp (by omega) (by omega), S1_d b hb _ (Nat.mod_lt _ (by decide)), e1]
  omega
theorem S2_s {n b y : Nat} (hb : b < 256) : S2 (n + 1) (b + 256 * y) = S2 1 b + 256 * S2 n y := by
  have e : (b + 256 * y) / 4 = (b / 4 + 64 * (y % 4)) + 256 * (y / 4) := by omega
  have e1 : mk 51 1 = 51 := rfl
  rw [S2, S2, S2, mk, e, and_sp hb (by omega), and_sp (by omega) (by omega), S2_d b hb _ (Nat.mod_lt _ (by decide)), e1]
  omega
theorem S3_s {n b y : Nat} (hb : b < 69) (hy : y % 16 < 5) : S3 (n + 1) (b + 256 * y) = S3 1 b + 256 * S3 n y := by
  have e : b + 256 * y + (b + 256 * y) / 16 = (b + b / 16 + 16 * (y % 16)) + 256 * (y + y / 16) := by omega
  have e1 : mk 15 1 = 15 := rfl
  rw [S3, S3, S3, mk, e, and_sp (by omega) (by omega), S3_d b hb _ hy, e1]
theorem B_d : ∀ b, b < 256 → S1 1 b < 256 ∧ S2 1 (S1 1 b) < 69 ∧ S2 1 (S1 1 b) % 16 < 5 ∧ S3 1 (S2 1 (S1 1 b)) = fb_ct (fun i => b.testBit i) 8 := by decide +kernel
def Tb (n x : Nat) : Nat := S3 n (S2 n (S1 n x))
theorem low_d : ∀ n y, S2 n (S1 n y) % 16 < 5
  | 0, y => by simp [S2, mk]
  | n + 1, y => by
    have h1 := (B_d (y % 256) (Nat.mod_lt _ (by decide))).1
    have h3 := (B_d (y % 256) (Nat.mod_lt _ (by decide))).2.2.1
    have e : y = y % 256 + 256 * (y / 256) := by omega
    have e2 : ∀ a b, (a + 256 * b) % 16 = a % 16 := fun a b => by omega
    rw [show S1 (n + 1) y = S1 (n + 1) (y % 256 + 256 * (y / 256)) by rw [← e], S1_s (Nat.mod_lt _ (by decide)), S2_s h1, e2]
    exact h3
theorem Tb_s (n x : Nat) : Tb (n + 1) x = fb_ct (fun i => (x % 256).testBit i) 8 + 256 * Tb n (x / 256) := by
  have h := B_d (x % 256) (Nat.mod_lt _ (by decide))
  have e : x = x % 256 + 256 * (x / 256) := by clear h; omega
  rw [Tb]
  rw [show S1 (n + 1) x = S1 (n + 1) (x % 256 + 256 * (x / 256)) by rw [← e], S1_s (Nat.mod_lt _ (by decide)), S2_s h.1, S3_s h.2.1 (low_d n _), h.2.2.2, Tb]
theorem Tb_0 (x : Nat) : Tb 0 x = 0 := by simp [Tb, S3, mk]
theorem ct_s (n x : Nat) : fb_ct (fun i => x.testBit i) (8 + n) = fb_ct (fun i => (x % 256).testBit i) 8 + fb_ct (fun i => (x / 256).testBit i) n := by
  rw [fb_ct_split]
  have e : ∀ i, x.testBit i = if i < 8 then (x % 256).testBit i else (x / 256).testBit (i - 8) := fun i => by
    have z := Nat.testBit_two_pow_mul_add (x / 256) (b := x % 256) (i := 8) (Nat.mod_lt _ (by decide)) i
    rwa [show 2 ^ 8 * (x / 256) + x % 256 = x by omega] at z
  congr 1
  · exact fb_ct_cong fun k hk => by rw [e k, if_pos hk]
  · exact fb_ct_cong fun k _ => by rw [e (8 + k), if_neg (by omega), show 8 + k - 8 = k by omega]
theorem dv {t a B k : Nat} (e : t = a + k * B) (h : a < k) : t / k = B := by
  rw [e, Nat.add_mul_div_left _ _ (by omega), Nat.div_eq_of_lt h, Nat.zero_add]
theorem lin1 (c0 c1 c2 c3 c4 c5 c6 c7 : Nat) : (c0 + 256 * (c1 + 256 * (c2 + 256 * (c3 + 256 * (c4 + 256 * (c5 + 256 * (c6 + 256 * (c7)))))))) + (c1 + 256 * (c2 + 256 * (c3 + 256 * (c4 + 256 * (c5 + 256 * (c6 + 256 * (c7))))))) = (c0 + c1) + 256 * ((c1 + c2) + 256 * ((c2 + c3) + 256 * ((c3 + c4) + 256 * ((c4 + c5) + 256 * ((c5 + c6) + 256 * ((c6 + c7) + 256 * ((c7)))))))) := by omega
theorem lin2 (c0 c1 c2 c3 c4 c5 c6 c7 : Nat) : ((c0 + c1) + 256 * ((c1 + c2) + 256 * ((c2 + c3) + 256 * ((c3 + c4) + 256 * ((c4 + c5) + 256 * ((c5 + c6) + 256 * ((c6 + c7) + 256 * ((c7))))))))) + ((c2 + c3) + 256 * ((c3 + c4) + 256 * ((c4 + c5) + 256 * ((c5 + c6) + 256 * ((c6 + c7) + 256 * ((c7))))))) = (c0 + c1 + c2 + c3) + 256 * ((c1 + c2 + c3 + c4) + 256 * ((c2 + c3 + c4 + c5) + 256 * ((c3 + c4 + c5 + c6) + 256 * ((c4 + c5 + c6 + c7) + 256 * ((c5 + c6 + c7) + 256 * ((c6 + c7) + 256 * ((c7)))))))) := by omega
theorem lin3 (c0 c1 c2 c3 c4 c5 c6 c7 : Nat) : ((c0 + c1 + c2 + c3) + 256 * ((c1 + c2 + c3 + c4) + 256 * ((c2 + c3 + c4 + c5) + 256 * ((c3 + c4 + c5 + c6) + 256 * ((c4 + c5 + c6 + c7) + 256 * ((c5 + c6 + c7) + 256 * ((c6 + c7) + 256 * ((c7))))))))) + ((c4 + c5 + c6 + c7) + 256 * ((c5 + c6 + c7) + 256 * ((c6 + c7) + 256 * ((c7))))) = (c0 + c1 + c2 + c3 + c4 + c5 + c6 + c7) + 256 * ((c1 + c2 + c3 + c4 + c5 + c6 + c7) + 256 * ((c2 + c3 + c4 + c5 + c6 + c7) + 256 * ((c3 + c4 + c5 + c6 + c7) + 256 * ((c4 + c5 + c6 + c7) + 256 * ((c5 + c6 + c7) + 256 * ((c6 + c7) + 256 * ((c7)))))))) := by omega
theorem lin4 (c0 c1 c2 c3 c4 c5 c6 c7 : Nat) : (c0 + c1) + 256 * ((c1 + c2) + 256 * ((c2 + c3) + 256 * ((c3 + c4) + 256 * ((c4 + c5) + 256 * ((c5 + c6) + 256 * ((c6 + c7) + 256 * ((c7)))))))) = ((c0 + c1) + 256 * (c1 + c2)) + 65536 * ((c2 + c3) + 256 * ((c3 + c4) + 256 * ((c4 + c5) + 256 * ((c5 + c6) + 256 * ((c6 + c7) + 256 * ((c7))))))) := by omega
theorem lin5 (c0 c1 c2 c3 c4 c5 c6 c7 : Nat) : (c0 + c1 + c2 + c3) + 256 * ((c1 + c2 + c3 + c4) + 256 * ((c2 + c3 + c4 + c5) + 256 * ((c3 + c4 + c5 + c6) + 256 * ((c4 + c5 + c6 + c7) + 256 * ((c5 + c6 + c7) + 256 * ((c6 + c7) + 256 * ((c7)))))))) = ((c0 + c1 + c2 + c3) + 256 * ((c1 + c2 + c3 + c4) + 256 * ((c2 + c3 + c4 + c5) + 256 * ((c3 + c4 + c5 + c6))))) + 4294967296 * ((c4 + c5 + c6 + c7) + 256 * ((c5 + c6 + c7) + 256 * ((c6 + c7) + 256 * ((c7))))) := by omega
theorem fold64 {c0 c1 c2 c3 c4 c5 c6 c7 t t1 t2 t3 : Nat} (h0 : c0 ≤ 8) (h1 : c1 ≤ 8) (h2 : c2 ≤ 8) (h3 : c3 ≤ 8) (h4 : c4 ≤ 8) (h5 : c5 ≤ 8) (h6 : c6 ≤ 8) (h7 : c7 ≤ 8)
    (e : t = c0 + 256 * (c1 + 256 * (c2 + 256 * (c3 + 256 * (c4 + 256 * (c5 + 256 * (c6 + 256 * (c7)))))))) (e1 : t1 = t + t / 256) (e2 : t2 = t1 + t1 / 65536) (e3 : t3 = t2 + t2 / 4294967296) : t3 % 128 = c0 + c1 + c2 + c3 + c4 + c5 + c6 + c7 ∧ t3 < 2 ^ 63 := by
  have d1 := dv e (by omega)
  rw [d1, e, lin1] at e1
  clear d1 e
  have d2 := dv (e1.trans (lin4 c0 c1 c2 c3 c4 c5 c6 c7)) (by clear e1 e2 e3; omega)
  rw [d2, e1, lin2] at e2
  clear d2 e1
  have d3 := dv (e2.trans (lin5 c0 c1 c2 c3 c4 c5 c6 c7)) (by clear e2 e3; omega)
  rw [d3, e2, lin3] at e3
  clear d3 e2
  refine ⟨?_, ?_⟩
  · rw [e3, show ∀ a b : Nat, a < 128 → (a + 256 * b) % 128 = a from fun a b h => by omega]
    clear e3
    omega
  · rw [e3]
    clear e3
    omega
theorem fold32 {c0 c1 c2 c3 t t1 t2 : Nat} (h0 : c0 ≤ 8) (h1 : c1 ≤ 8) (h2 : c2 ≤ 8) (h3 : c3 ≤ 8)
    (e : t = c0 + 256 * (c1 + 256 * (c2 + 256 * c3))) (e1 : t1 = t + t / 256) (e2 : t2 = t1 + t1 / 65536) : t2 % 64 = c0 + c1 + c2 + c3 ∧ t2 < 2 ^ 31 := by
  have d1 := dv e (by omega)
  rw [d1] at e1
  have d2 := dv (t := t1) (k := 65536) (a := (c0 + c1) + 256 * (c1 + c2)) (B := (c2 + c3) + 256 * c3) (by rw [e1, e]; omega) (by omega)
  rw [d2, e1, e] at e2
  have e4 : t2 = (c0 + c1 + c2 + c3) + 64 * (4 * ((c1 + c2 + c3) + 256 * ((c2 + c3) + 256 * c3))) := by rw [e2]; omega
  refine ⟨?_, by omega⟩
  rw [e4, Nat.add_mul_mod_self_left, Nat.mod_eq_of_lt (by omega)]
