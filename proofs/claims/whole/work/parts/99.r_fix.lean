/-! a fixed row: sides don't meet -/
/-- alike in the wanted of side s -/
def sim (n : Nat) (S : Nat → Nat) (s a b : Nat) : Prop := ∀ k, k < n → S k = s → a.testBit k = b.testBit k
theorem sim_el {n : Nat} {S : Nat → Nat} {s a b k : Nat} (q : sim n S s a b) (hk : k < n) : el S a s k = el S b s k := by
  rw [el, el]
  by_cases z : S k = s
  · rw [q k hk z]
  · rw [decide_eq_false z, Bool.and_false, Bool.and_false]
theorem sim_dn {n c : Nat} {p S W : Nat → Nat} (O : wnO n p S W) {s a b : Nat} (q : sim n S s a b) : dnM n p S c a s = dnM n p S c b s := by
  have e1 : ∀ i, i < n → el S a s (p i) = el S b s (p i) := fun i hi => sim_el q (O.2.2.1 i hi)
  have e2 : ∀ i, i ≤ n → rk p S a s i = rk p S b s i := fun i hi => fct_cg i (fun j hj => e1 j (by omega))
  apply Nat.eq_of_testBit_eq
  intro k
  rw [dnM_b, dnM_b]
  exact anyN_cg _ _ (fun i _ hi => by rw [e1 i (by omega), e2 i (by omega)])
theorem dn_side {n c : Nat} {p S : Nat → Nat} {lf s k : Nat} (q : (dnM n p S c lf s).testBit k = true) : S k = s := by
  rw [dnM_b, anyN_iff] at q
  obtain ⟨i, -, -, y⟩ := q
  rw [Bool.and_eq_true, Bool.and_eq_true, decide_eq_true_eq, el, Bool.and_eq_true, decide_eq_true_eq] at y
  rw [← y.1]
  exact y.2.1.2
theorem sim_nd {n c : Nat} {p S W : Nat → Nat} (O : wnO n p S W) {s s' a b : Nat} (q : sim n S s' a b) (d : Nat) (hd : ∀ k, d.testBit k = true → S k = s) (ne : s' ≠ s) : sim n S s' (nd a d) b := fun k hk z => by
  rw [nd_bit, q k hk z]
  cases y : d.testBit k with
  | false => rw [Bool.not_false, Bool.and_true]
  | true => exact absurd ((hd k y).symm.trans z) (fun u => ne u.symm)
/-- what is left of side s after j workings, from A -/
def Ls (n c : Nat) (p S : Nat → Nat) (A s : Nat) : Nat → Nat
  | 0 => A
  | j + 1 => nd (Ls n c p S A s j) (dnM n p S c (Ls n c p S A s j) s)
def wj (n c : Nat) (p S W : Nat → Nat) (A s j : Nat) : Nat := wsN n W (dnM n p S c (Ls n c p S A s j) s)
/-- the worth of j workings -/
def wtN (n c : Nat) (p S W : Nat → Nat) (A s j : Nat) : Nat := sN (wj n c p S W A s) j
def dgN (row e : Nat) : Nat := row / 5 ^ (4 - e) % 5
def rF (n c : Nat) (p S W : Nat → Nat) (ch : Nat → Nat → Nat) (row : Nat) : Nat → Nat → Nat
  | 0, _ => 0
  | r + 1, lf => if dgN row (4 - r) = 4 then 10 * rF n c p S W ch row r lf else bwV n c p S W ch (rF n c p S W ch row r) r lf (dgN row (4 - r))
/-- the chance that counts for side s on a day of the row -/
def tS (ch : Nat → Nat → Nat) (row s e : Nat) : Nat := if dgN row e = s then ch e s else 0
/-- the worth by how many workings come, over r days more -/
def gE (t : Nat → Nat) (w : Nat → Nat) : Nat → Nat → Nat
  | 0, k => w k
  | r + 1, k => t (4 - r) * gE t w r (k + 1) + (10 - t (4 - r)) * gE t w r k
theorem four {g : Nat → Nat} : sN g 4 = g 0 + g 1 + g 2 + g 3 := by
  simp only [sN]
  omega
theorem gE_ge {t w : Nat → Nat} (ht : ∀ e, t e ≤ 10) (hw : ∀ k, w k ≤ w (k + 1)) : ∀ r k, 10 ^ r * w k ≤ gE t w r k
  | 0, k => by rw [gE]; omega
  | r + 1, k => by
    have h1 := gE_ge ht hw r k
    have h2 := gE_ge ht hw r (k + 1)
    have h3 := hw k
    have h4 : 10 ^ r * w k ≤ 10 ^ r * w (k + 1) := Nat.mul_le_mul_left _ h3
    have h5 := ht (4 - r)
    rw [gE]
    generalize t (4 - r) = u at h5
    have h6 : u * (10 ^ r * w k) ≤ u * gE t w r (k + 1) := Nat.mul_le_mul_left _ (by omega)
    have h7 : (10 - u) * (10 ^ r * w k) ≤ (10 - u) * gE t w r k := Nat.mul_le_mul_left _ h1
    have h8 : u * (10 ^ r * w k) + (10 - u) * (10 ^ r * w k) = 10 * (10 ^ r * w k) := by rw [← Nat.add_mul, show u + (10 - u) = 10 by omega]
    have h9 : 10 ^ (r + 1) * w k = 10 * (10 ^ r * w k) := by rw [Nat.pow_succ, Nat.mul_comm (10 ^ r) 10, Nat.mul_assoc]
    omega
/-- what side s adds over r days more, k workings done -/
def eS (t w : Nat → Nat) (r k : Nat) : Nat := gE t w r k - 10 ^ r * w k
theorem eS_no {t w : Nat → Nat} (ht : ∀ e, t e ≤ 10) (hw : ∀ k, w k ≤ w (k + 1)) {r k : Nat} (z : t (4 - r) = 0) : eS t w (r + 1) k = 10 * eS t w r k := by
  have h1 := gE_ge ht hw r k
  have h9 : 10 ^ (r + 1) * w k = 10 * (10 ^ r * w k) := by rw [Nat.pow_succ, Nat.mul_comm (10 ^ r) 10, Nat.mul_assoc]
  rw [eS, eS, gE, z, h9]
  omega
theorem eS_yes {t w : Nat → Nat} (ht : ∀ e, t e ≤ 10) (hw : ∀ k, w k ≤ w (k + 1)) {r k : Nat} : eS t w (r + 1) k = t (4 - r) * ((w (k + 1) - w k) * 10 ^ r + eS t w r (k + 1)) + (10 - t (4 - r)) * eS t w r k := by
  have h1 := gE_ge ht hw r k
  have h2 := gE_ge ht hw r (k + 1)
  have h3 := hw k
  have h5 := ht (4 - r)
  have h9 : 10 ^ (r + 1) * w k = 10 * (10 ^ r * w k) := by rw [Nat.pow_succ, Nat.mul_comm (10 ^ r) 10, Nat.mul_assoc]
  have h4 : (w (k + 1) - w k) * 10 ^ r + 10 ^ r * w k = 10 ^ r * w (k + 1) := by
    rw [Nat.mul_comm _ (10 ^ r), ← Nat.mul_add, show w (k + 1) - w k + w k = w (k + 1) by omega]
  rw [eS, eS, eS, gE, h9]
  generalize t (4 - r) = u at h5
  have a1 : (w (k + 1) - w k) * 10 ^ r + (gE t w r (k + 1) - 10 ^ r * w (k + 1)) = gE t w r (k + 1) - 10 ^ r * w k := by omega
  have h6 : 10 ^ r * w k ≤ 10 ^ r * w (k + 1) := Nat.mul_le_mul_left _ h3
  rw [a1, Nat.mul_sub, Nat.mul_sub]
  have h7 : u * (10 ^ r * w k) ≤ u * gE t w r (k + 1) := Nat.mul_le_mul_left _ (by omega)
  have h7' : (10 - u) * (10 ^ r * w k) ≤ (10 - u) * gE t w r k := Nat.mul_le_mul_left _ h1
  have h8 : u * (10 ^ r * w k) + (10 - u) * (10 ^ r * w k) = 10 * (10 ^ r * w k) := by rw [← Nat.add_mul, show u + (10 - u) = 10 by omega]
  omega
section
variable {n c : Nat} {p S W : Nat → Nat} {ch : Nat → Nat → Nat} {A row : Nat}
theorem wt_s {s j : Nat} : wtN n c p S W A s (j + 1) = wtN n c p S W A s j + wj n c p S W A s j := rfl
theorem tS_le (hch : ∀ e s, e < 5 → s < 4 → ch e s ≤ 10) {s : Nat} (hs : s < 4) (e : Nat) : (if e < 5 then tS ch row s e else 0) ≤ 10 := by
  by_cases z : e < 5
  · rw [if_pos z, tS]
    by_cases y : dgN row e = s
    · rw [if_pos y]; exact hch e s z hs
    · rw [if_neg y]; omega
  · rw [if_neg z]; omega
/-- the row is worth what each side's own days are -/
theorem rF_e (O : wnO n p S W) (hch : ∀ e s, e < 5 → s < 4 → ch e s ≤ 10) : ∀ r, r ≤ 5 → ∀ lf (k : Nat → Nat), (∀ s, s < 4 → sim n S s lf (Ls n c p S A s (k s))) → rF n c p S W ch row r lf = sN (fun s => eS (fun e => if e < 5 then tS ch row s e else 0) (wtN n c p S W A s) r (k s)) 4
  | 0, _, lf, k, _ => by
    rw [rF, four]
    simp [eS, gE]
  | r + 1, hr, lf, k, q => by
    have mono : ∀ s k, wtN n c p S W A s k ≤ wtN n c p S W A s (k + 1) := fun s k => by rw [wt_s]; omega
    have e5 : 4 - r < 5 := by omega
    have tv : ∀ s, (if 4 - r < 5 then tS ch row s (4 - r) else 0) = tS ch row s (4 - r) := fun s => if_pos e5
    have no : ∀ s k, s < 4 → dgN row (4 - r) ≠ s → eS (fun e => if e < 5 then tS ch row s e else 0) (wtN n c p S W A s) (r + 1) k = 10 * eS (fun e => if e < 5 then tS ch row s e else 0) (wtN n c p S W A s) r k := fun s k hs y => eS_no (fun e => tS_le hch hs e) (mono s) (by rw [tv, tS, if_neg y])
    rw [rF]
    by_cases z : dgN row (4 - r) = 4
    · rw [if_pos z, rF_e O hch r (by omega) lf k q, four, four, no 0 _ (by decide) (by omega), no 1 _ (by decide) (by omega), no 2 _ (by decide) (by omega), no 3 _ (by decide) (by omega)]
      omega
    · rw [if_neg z]
      have s4 : dgN row (4 - r) < 4 := by
        have : dgN row (4 - r) < 5 := Nat.mod_lt _ (by decide)
        omega
      generalize hs : dgN row (4 - r) = s0 at s4 z no
      have dl : dnM n p S c lf s0 = dnM n p S c (Ls n c p S A s0 (k s0)) s0 := sim_dn O (q s0 s4)
      have q' : ∀ s, s < 4 → sim n S s (nd lf (dnM n p S c lf s0)) (Ls n c p S A s (if s = s0 then k s + 1 else k s)) := fun s hs4 => by
        by_cases y : s = s0
        · rw [if_pos y, y, Ls, ← dl]
          intro j hj u
          rw [nd_bit, nd_bit, q s0 s4 j hj u]
        · rw [if_neg y]
          exact sim_nd O (c := c) (q s hs4) _ (fun k y => dn_side y) y
      have i1 := rF_e O hch r (by omega) lf k q
      have i2 := rF_e O hch r (by omega) (nd lf (dnM n p S c lf s0)) (fun s => if s = s0 then k s + 1 else k s) q'
      have ws : wsN n W (dnM n p S c lf s0) = wtN n c p S W A s0 (k s0 + 1) - wtN n c p S W A s0 (k s0) := by
        rw [wt_s, wj, ← dl]
        omega
      have yes := eS_yes (t := fun e => if e < 5 then tS ch row s0 e else 0) (w := wtN n c p S W A s0) (fun e => tS_le hch s4 e) (mono s0) (r := r) (k := k s0)
      rw [tv, tS, hs, if_pos rfl] at yes
      have c10 := hch (4 - r) s0 e5 s4
      rw [bwV, i1, i2, ws]
      generalize ch (4 - r) s0 = t at yes c10
      have dist : ∀ x, t * x + (10 - t) * x = 10 * x := fun x => by rw [← Nat.add_mul, show t + (10 - t) = 10 by omega]
      rw [four, four, four]
      match s0, s4 with
      | 0, _ =>
        rw [if_pos rfl, if_neg (by decide), if_neg (by decide), if_neg (by decide), yes, no 1 _ (by decide) (by decide), no 2 _ (by decide) (by decide), no 3 _ (by decide) (by decide)]
        simp only [Nat.mul_add]
        have d1 := dist (eS (fun e => if e < 5 then tS ch row 1 e else 0) (wtN n c p S W A 1) r (k 1))
        have d2 := dist (eS (fun e => if e < 5 then tS ch row 2 e else 0) (wtN n c p S W A 2) r (k 2))
        have d3 := dist (eS (fun e => if e < 5 then tS ch row 3 e else 0) (wtN n c p S W A 3) r (k 3))
        omega
      | 1, _ =>
        rw [if_neg (by decide), if_pos rfl, if_neg (by decide), if_neg (by decide), yes, no 0 _ (by decide) (by decide), no 2 _ (by decide) (by decide), no 3 _ (by decide) (by decide)]
        simp only [Nat.mul_add]
        have d1 := dist (eS (fun e => if e < 5 then tS ch row 0 e else 0) (wtN n c p S W A 0) r (k 0))
        have d2 := dist (eS (fun e => if e < 5 then tS ch row 2 e else 0) (wtN n c p S W A 2) r (k 2))
        have d3 := dist (eS (fun e => if e < 5 then tS ch row 3 e else 0) (wtN n c p S W A 3) r (k 3))
        omega
      | 2, _ =>
        rw [if_neg (by decide), if_neg (by decide), if_pos rfl, if_neg (by decide), yes, no 0 _ (by decide) (by decide), no 1 _ (by decide) (by decide), no 3 _ (by decide) (by decide)]
        simp only [Nat.mul_add]
        have d1 := dist (eS (fun e => if e < 5 then tS ch row 0 e else 0) (wtN n c p S W A 0) r (k 0))
        have d2 := dist (eS (fun e => if e < 5 then tS ch row 1 e else 0) (wtN n c p S W A 1) r (k 1))
        have d3 := dist (eS (fun e => if e < 5 then tS ch row 3 e else 0) (wtN n c p S W A 3) r (k 3))
        omega
      | 3, _ =>
        rw [if_neg (by decide), if_neg (by decide), if_neg (by decide), if_pos rfl, yes, no 0 _ (by decide) (by decide), no 1 _ (by decide) (by decide), no 2 _ (by decide) (by decide)]
        simp only [Nat.mul_add]
        have d1 := dist (eS (fun e => if e < 5 then tS ch row 0 e else 0) (wtN n c p S W A 0) r (k 0))
        have d2 := dist (eS (fun e => if e < 5 then tS ch row 1 e else 0) (wtN n c p S W A 1) r (k 1))
        have d3 := dist (eS (fun e => if e < 5 then tS ch row 2 e else 0) (wtN n c p S W A 2) r (k 2))
        omega
      | _ + 4, s4 => exact absurd s4 (by omega)
end
/-! the odds -/
def od (t : Nat → Nat) : Nat → Nat → Nat
  | 0, k => if k = 0 then 1 else 0
  | d + 1, 0 => od t d 0 * (10 - t d)
  | d + 1, k + 1 => od t d (k + 1) * (10 - t d) + od t d k * t d
theorem od_0 {t : Nat → Nat} : ∀ d k, d < k → od t d k = 0
  | 0, k, h => by rw [od, if_neg (by omega)]
  | d + 1, 0, h => absurd h (by omega)
  | d + 1, k + 1, h => by rw [od, od_0 d (k + 1) (by omega), od_0 d k (by omega)]; omega
theorem sN_mul {g : Nat → Nat} {a : Nat} : ∀ n, sN (fun k => a * g k) n = a * sN g n
  | 0 => rfl
  | n + 1 => by rw [sN, sN, sN_mul n, Nat.mul_add]
theorem od_s {t : Nat → Nat} {d : Nat} {g : Nat → Nat} : ∀ n, sN (fun k => od t (d + 1) k * g k) (n + 1) = (10 - t d) * sN (fun k => od t d k * g k) (n + 1) + t d * sN (fun k => od t d k * g (k + 1)) n
  | 0 => by
    simp only [sN, od, Nat.zero_add, Nat.mul_zero, Nat.add_zero]
    rw [Nat.mul_comm (od t d 0) (10 - t d), Nat.mul_assoc]
  | n + 1 => by
    have ih := od_s (t := t) (d := d) (g := g) n
    rw [sN, ih, sN, sN, od]
    have e1 : (od t d (n + 1) * (10 - t d) + od t d n * t d) * g (n + 1) = (10 - t d) * (od t d (n + 1) * g (n + 1)) + t d * (od t d n * g (n + 1)) := by
      rw [Nat.add_mul, Nat.mul_comm (od t d (n + 1)) (10 - t d), Nat.mul_comm (od t d n) (t d), Nat.mul_assoc, Nat.mul_assoc]
    have e2 : sN (fun k => od t d k * g (k + 1)) (n + 1) = sN (fun k => od t d k * g (k + 1)) n + od t d n * g (n + 1) := rfl
    have e3 : sN (fun k => od t d k * g k) (n + 1 + 1) = sN (fun k => od t d k * g k) (n + 1) + od t d (n + 1) * g (n + 1) := rfl
    rw [e1, e2]
    simp only [Nat.mul_add]
    have e4 : sN (fun k => od t d k * g k) (n + 1) = sN (fun k => od t d k * g k) n + od t d n * g n := rfl
    rw [e4]
    simp only [Nat.mul_add]
    omega
theorem od_g {t w : Nat → Nat} : ∀ d, d ≤ 5 → sN (fun k => od t d k * gE t w (5 - d) k) 6 = gE t w 5 0
  | 0, _ => by
    simp [sN, od]
  | d + 1, hd => by
    have ih := od_g (t := t) (w := w) d (by omega)
    rw [od_s 5]
    have e : sN (fun k => od t d k * gE t w (5 - d) k) 6 = t d * sN (fun k => od t d k * gE t w (5 - (d + 1)) (k + 1)) 6 + (10 - t d) * sN (fun k => od t d k * gE t w (5 - (d + 1)) k) 6 := by
      rw [← sN_mul, ← sN_mul, ← sN_add]
      refine sN_cg 6 (fun k _ => ?_)
      rw [show 5 - d = (5 - (d + 1)) + 1 by omega, gE, show 4 - (5 - (d + 1)) = d by omega, Nat.mul_add, Nat.mul_left_comm, Nat.mul_left_comm (od t d k) (10 - t d)]
    have z : od t d 5 = 0 := od_0 d 5 (by omega)
    have e6 : sN (fun k => od t d k * gE t w (5 - (d + 1)) (k + 1)) 6 = sN (fun k => od t d k * gE t w (5 - (d + 1)) (k + 1)) 5 + od t d 5 * gE t w (5 - (d + 1)) 6 := rfl
    simp only [z, Nat.zero_mul, Nat.add_zero] at e6
    have e7 : sN (fun k => od t d k * gE t w (5 - (d + 1)) k) (5 + 1) = sN (fun k => od t d k * gE t w (5 - (d + 1)) k) 6 := rfl
    rw [← ih, e, e6, e7]
    omega
theorem od_w {t w : Nat → Nat} : sN (fun k => od t 5 k * w k) 6 = gE t w 5 0 := od_g 5 (Nat.le_refl _)
