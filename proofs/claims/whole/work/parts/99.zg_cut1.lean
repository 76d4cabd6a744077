/-! the reader: tokens cut, as a plain function -/
def lzB (x : Nat) : Bool := decide (97 ≤ x ∧ x ≤ 122)
def dgB (x : Nat) : Bool := decide (48 ≤ x ∧ x ≤ 57)
def sgB (x : Nat) : Bool := [40, 41, 60, 61, 43, 45, 42, 59].elem x
/-- where a run ends -/
def rnE (p : Nat → Bool) (b : Nat → Nat) : Nat → Nat → Nat
  | 0, k => k
  | m + 1, k => if p (b k) = true then rnE p b m (k + 1) else k
theorem rnE_le {p : Nat → Bool} {b : Nat → Nat} : ∀ m k, k ≤ rnE p b m k ∧ rnE p b m k ≤ k + m
  | 0, k => ⟨Nat.le_refl _, Nat.le_refl _⟩
  | m + 1, k => by
    have := rnE_le (p := p) (b := b) m (k + 1)
    unfold rnE
    split <;> omega
theorem rnE_in {p : Nat → Bool} {b : Nat → Nat} : ∀ m k i, k ≤ i → i < rnE p b m k → p (b i) = true
  | 0, k, i, h1, h2 => by rw [rnE] at h2; omega
  | m + 1, k, i, h1, h2 => by
    rw [rnE] at h2
    by_cases z : p (b k) = true
    · rw [if_pos z] at h2
      by_cases y : i = k
      · rw [y]; exact z
      · exact rnE_in m (k + 1) i (by omega) h2
    · rw [if_neg z] at h2
      omega
theorem rnE_1 {p : Nat → Bool} {b : Nat → Nat} {m k : Nat} (hm : 0 < m) (z : p (b k) = true) : k < rnE p b m k := by
  obtain ⟨m, rfl⟩ : ∃ q, m = q + 1 := ⟨m - 1, by omega⟩
  rw [rnE, if_pos z]
  have := rnE_le (p := p) (b := b) m (k + 1)
  omega
/-- the letters of a run, the last first -/
def rvL (b : Nat → Nat) (k : Nat) : Nat → List Nat
  | 0 => []
  | m + 1 => (b (k + m) - 96) :: rvL b k m
def hvL : List Nat → Nat
  | [] => 0
  | x :: t => 37 * hvL t + x
theorem hv_inj : ∀ l l' : List Nat, (∀ x, x ∈ l → 1 ≤ x ∧ x ≤ 26) → (∀ x, x ∈ l' → 1 ≤ x ∧ x ≤ 26) → hvL l = hvL l' → l = l'
  | [], [], _, _, _ => rfl
  | [], y :: s, _, h2, e => by
    have := h2 y (List.mem_cons_self ..)
    rw [hvL, hvL] at e
    omega
  | x :: t, [], h1, _, e => by
    have := h1 x (List.mem_cons_self ..)
    rw [hvL, hvL] at e
    omega
  | x :: t, y :: s, h1, h2, e => by
    have a := h1 x (List.mem_cons_self ..)
    have b := h2 y (List.mem_cons_self ..)
    rw [hvL, hvL] at e
    have e1 : x = y := by omega
    have e2 : hvL t = hvL s := by omega
    rw [e1, hv_inj t s (fun z hz => h1 z (List.mem_cons_of_mem _ hz)) (fun z hz => h2 z (List.mem_cons_of_mem _ hz)) e2]
theorem rvL_len {b : Nat → Nat} {k : Nat} : ∀ m, (rvL b k m).length = m
  | 0 => rfl
  | m + 1 => by rw [rvL, List.length_cons, rvL_len m]
theorem rvL_cg {b b' : Nat → Nat} {k k' : Nat} : ∀ m, (∀ i, i < m → b (k + i) = b' (k' + i)) → rvL b k m = rvL b' k' m
  | 0, _ => rfl
  | m + 1, e => by rw [rvL, rvL, e m (by omega), rvL_cg m (fun i hi => e i (by omega))]
theorem rvL_el {b b' : Nat → Nat} {k k' : Nat} : ∀ m, rvL b k m = rvL b' k' m → ∀ i, i < m → b (k + i) - 96 = b' (k' + i) - 96
  | 0, _, i, hi => absurd hi (Nat.not_lt_zero i)
  | m + 1, e, i, hi => by
    rw [rvL, rvL] at e
    obtain ⟨e1, e2⟩ := List.cons.inj e
    by_cases z : i = m
    · rw [z]; exact e1
    · exact rvL_el m e2 i (by omega)
theorem rvL_mem {b : Nat → Nat} {k : Nat} : ∀ m, (∀ i, i < m → 97 ≤ b (k + i) ∧ b (k + i) ≤ 122) → ∀ x, x ∈ rvL b k m → 1 ≤ x ∧ x ≤ 26
  | 0, _, x, hx => absurd hx (List.not_mem_nil)
  | m + 1, e, x, hx => by
    rw [rvL, List.mem_cons] at hx
    rcases hx with rfl | hx
    · have := e m (by omega)
      omega
    · exact rvL_mem m (fun i hi => e i (by omega)) x hx
theorem hv_lt {b : Nat → Nat} {k : Nat} : ∀ m, (∀ i, i < m → 97 ≤ b (k + i) ∧ b (k + i) ≤ 122) → hvL (rvL b k m) < 37 ^ m
  | 0, _ => by show (0 : Nat) < 37 ^ 0; decide
  | m + 1, e => by
    have ih := hv_lt m (fun i hi => e i (by omega))
    have := e m (by omega)
    rw [rvL, hvL, Nat.pow_succ]
    omega
/-- the words: their signs, filled up with blanks -/
def wdT : List (List Nat) := [[115, 116, 111, 112, 32, 32, 32, 32], [113, 117, 105, 101, 116, 32, 32, 32], [119, 101, 97, 114, 32, 32, 32, 32], [112, 114, 105, 99, 101, 32, 32, 32], [119, 97, 116, 101, 114, 32, 32, 32], [114, 97, 116, 101, 32, 32, 32, 32], [100, 114, 105, 108, 108, 32, 32, 32], [107, 101, 121, 115, 32, 32, 32, 32], [119, 104, 101, 110, 32, 32, 32, 32], [97, 110, 100, 32, 32, 32, 32, 32], [111, 114, 32, 32, 32, 32, 32, 32], [110, 111, 116, 32, 32, 32, 32, 32], [116, 111, 119, 101, 114, 32, 32, 32], [115, 105, 100, 101, 32, 32, 32, 32], [102, 108, 111, 111, 114, 115, 32, 32], [100, 97, 121, 32, 32, 32, 32, 32], [119, 101, 101, 107, 32, 32, 32, 32], [104, 111, 117, 114, 32, 32, 32, 32], [119, 105, 110, 100, 32, 32, 32, 32], [112, 97, 110, 101, 115, 32, 32, 32], [104, 111, 117, 114, 115, 32, 32, 32], [119, 111, 114, 110, 32, 32, 32, 32], [97, 103, 101, 32, 32, 32, 32, 32]]
def wdC (J i : Nat) : Nat := (wdT.getD J []).getD i 32
def wdN : List Nat := [4, 5, 4, 5, 5, 4, 5, 4, 4, 3, 2, 3, 5, 4, 6, 3, 4, 4, 4, 5, 5, 4, 3]
def wdL (J : Nat) : Nat := wdN.getD J 0
/-- the value of the reference's word w -/
def wdH : List Nat := [990358, 32936976, 1171919, 30910767, 43183939, 913868, 8421175, 1176170, 1891, 573, 19741, 38274705, 974881, 439334689, 5538, 1172060, 426554, 1177862, 30056599, 15782517, 1186234, 1633, 564972]
theorem wd_ok : ∀ J, J < 23 → wdL J ≤ 8 ∧ ∀ i, i < 8 → (i < wdL J → 97 ≤ wdC J i ∧ wdC J i ≤ 122) ∧ (wdL J ≤ i → wdC J i = 32) := by decide +kernel
theorem wd_ne : ∀ J, J < 23 → ∀ I, I < 23 → rvL (wdC J) 0 (wdL J) = rvL (wdC I) 0 (wdL I) → J = I := by decide +kernel
theorem wd_hv : ∀ w, w < 23 → hvL (rvL (wdC (wcN w - 10000)) 0 (wdL (wcN w - 10000))) = wdH.getD w 0 ∧ wdH.getD w 0 < 2 ^ 40 ∧ 10000 ≤ wcN w ∧ wcN w < 10023 := by decide +kernel
/-- the run from k, m long, is word J -/
def wdM (b : Nat → Nat) (k m J : Nat) : Bool := decide (rvL b k m = rvL (wdC J) 0 (wdL J))
def padB (b : Nat → Nat) (k m i : Nat) : Nat := if i < m then b (k + i) else 32
theorem pad_iff {b : Nat → Nat} {k m J : Nat} (hJ : J < 23) (hm : m ≤ 8) (hl : ∀ i, i < m → 97 ≤ b (k + i) ∧ b (k + i) ≤ 122) : (∀ i, i < 8 → padB b k m i = wdC J i) ↔ wdM b k m J = true := by
  obtain ⟨w1, w2⟩ := wd_ok J hJ
  rw [wdM, decide_eq_true_eq]
  constructor
  · intro h
    have e : m = wdL J := by
      rcases Nat.lt_trichotomy m (wdL J) with z | z | z
      · have a := h m (by omega)
        rw [padB, if_neg (Nat.lt_irrefl m)] at a
        have := (w2 m (by omega)).1 z
        omega
      · exact z
      · have a := h (wdL J) (by omega)
        rw [padB, if_pos z, (w2 (wdL J) (by omega)).2 (Nat.le_refl _)] at a
        have := hl (wdL J) z
        omega
    rw [← e]
    refine rvL_cg m (fun i hi => ?_)
    have a := h i (by omega)
    rw [padB, if_pos hi] at a
    rw [Nat.zero_add]
    exact a
  · intro h i hi
    have e : m = wdL J := by
      have := congrArg List.length h
      rw [rvL_len, rvL_len] at this
      exact this
    rw [← e] at h
    unfold padB
    by_cases z : i < m
    · rw [if_pos z]
      have a := rvL_el m h i z
      rw [Nat.zero_add] at a
      have := hl i z
      have := (w2 i hi).1 (by omega)
      omega
    · rw [if_neg z, (w2 i hi).2 (by omega)]
/-- the first of n from i on -/
def fdN (q : Nat → Bool) : Nat → Nat → Option Nat
  | 0, _ => none
  | n + 1, i => if q i = true then some i else fdN q n (i + 1)
theorem fdN_some {q : Nat → Bool} : ∀ n i J, fdN q n i = some J → i ≤ J ∧ J < i + n ∧ q J = true
  | 0, i, J, h => by cases h
  | n + 1, i, J, h => by
    rw [fdN] at h
    by_cases z : q i = true
    · rw [if_pos z] at h
      cases h
      exact ⟨Nat.le_refl _, by omega, z⟩
    · rw [if_neg z] at h
      obtain ⟨a, b, c⟩ := fdN_some n (i + 1) J h
      exact ⟨by omega, by omega, c⟩
theorem fdN_none {q : Nat → Bool} : ∀ n i, fdN q n i = none → ∀ J, i ≤ J → J < i + n → ¬ q J = true
  | 0, i, _, J, h1, h2 => by omega
  | n + 1, i, h, J, h1, h2 => by
    rw [fdN] at h
    by_cases z : q i = true
    · rw [if_pos z] at h
      cases h
    · rw [if_neg z] at h
      by_cases y : J = i
      · rw [y]; exact z
      · exact fdN_none n (i + 1) h J (by omega) (by omega)
theorem fdN_split {q : Nat → Bool} : ∀ n m i, fdN q (n + m) i = match fdN q n i with | some J => some J | none => fdN q m (i + n)
  | 0, m, i => by rw [Nat.zero_add]; rfl
  | n + 1, m, i => by
    rw [show n + 1 + m = (n + m) + 1 by omega, fdN, fdN]
    by_cases z : q i = true
    · rw [if_pos z, if_pos z]
    · rw [if_neg z, if_neg z, fdN_split n m (i + 1), show i + 1 + n = i + (n + 1) by omega]
/-- the token of a run of letters, of digits, of one sign -/
def wTok (b : Nat → Nat) (k m : Nat) : Nat := if 8 < m then 30000 else match fdN (wdM b k m) 23 0 with | some J => 10000 + J | none => 30000
def nTv (b : Nat → Nat) (k : Nat) : Nat → Nat
  | 0 => 0
  | m + 1 => nTv b k m * 10 + (b (k + m) - 48)
def nTok (b : Nat → Nat) (k m : Nat) : Nat := if 4 < m then 30000 else nTv b k m
def sTok (x : Nat) : Nat := if sgB x = true then 20000 + x else 30000
def tkE (b : Nat → Nat) (N k : Nat) : Nat := if lzB (b k) = true then rnE lzB b (N - k) k else if dgB (b k) = true then rnE dgB b (N - k) k else k + 1
def tkT (b : Nat → Nat) (N k : Nat) : Nat := if lzB (b k) = true then wTok b k (tkE b N k - k) else if dgB (b k) = true then nTok b k (tkE b N k - k) else sTok (b k)
def blB (x : Nat) : Bool := decide (x = 10) || decide (x = 32)
def cuts (b : Nat → Nat) (N : Nat) : Nat → Nat → List (Nat × Nat)
  | 0, _ => []
  | f + 1, k => if k < N then (if blB (b k) = true then cuts b N f (k + 1) else (tkT b N k, k) :: cuts b N f (tkE b N k)) else []
theorem tkE_le {b : Nat → Nat} {N k : Nat} (hk : k < N) : k < tkE b N k ∧ tkE b N k ≤ N := by
  unfold tkE
  split
  · rename_i z
    have := rnE_1 (m := N - k) (by omega) z
    have := rnE_le (p := lzB) (b := b) (N - k) k
    omega
  · split
    · rename_i z
      have := rnE_1 (m := N - k) (by omega) z
      have := rnE_le (p := dgB) (b := b) (N - k) k
      omega
    · omega
theorem cuts_len {b : Nat → Nat} {N : Nat} : ∀ f k, k ≤ N → k + (cuts b N f k).length ≤ N
  | 0, k, hk => hk
  | f + 1, k, hk => by
    rw [cuts]
    by_cases z : k < N
    · rw [if_pos z]
      by_cases y : blB (b k) = true
      · rw [if_pos y]
        have := cuts_len (b := b) f (k + 1) z
        omega
      · rw [if_neg y, List.length_cons]
        obtain ⟨e1, e2⟩ := tkE_le (b := b) z
        have := cuts_len (b := b) f (tkE b N k) e2
        omega
    · rw [if_neg z]
      exact hk
theorem nTv_lt {b : Nat → Nat} {k : Nat} : ∀ m, (∀ i, i < m → 48 ≤ b (k + i) ∧ b (k + i) ≤ 57) → nTv b k m < 10 ^ m
  | 0, _ => by show (0 : Nat) < 10 ^ 0; decide
  | m + 1, e => by
    have ih := nTv_lt m (fun i hi => e i (by omega))
    have := e m (by omega)
    rw [nTv, Nat.pow_succ]
    omega
theorem wTok_le {b : Nat → Nat} {k m : Nat} : (10000 ≤ wTok b k m ∧ wTok b k m < 10023) ∨ wTok b k m = 30000 := by
  unfold wTok
  split
  · exact Or.inr rfl
  · split
    · rename_i J h
      have := fdN_some 23 0 J h
      exact Or.inl ⟨by omega, by omega⟩
    · exact Or.inr rfl
theorem nTok_le {b : Nat → Nat} {k m : Nat} (e : ∀ i, i < m → 48 ≤ b (k + i) ∧ b (k + i) ≤ 57) : nTok b k m < 10000 ∨ nTok b k m = 30000 := by
  unfold nTok
  split
  · exact Or.inr rfl
  · have := nTv_lt m e
    have h2 : 10 ^ m ≤ 10 ^ 4 := Nat.pow_le_pow_right (by decide) (by omega)
    have h3 : 10 ^ 4 = 10000 := by decide
    exact Or.inl (by omega)
theorem sTok_le {x : Nat} (hx : x < 127) : (20000 ≤ sTok x ∧ sTok x < 20127) ∨ sTok x = 30000 := by
  unfold sTok
  split
  · exact Or.inl ⟨by omega, by omega⟩
  · exact Or.inr rfl
theorem lzB_i {x : Nat} (h : lzB x = true) : 97 ≤ x ∧ x ≤ 122 := by rwa [lzB, decide_eq_true_eq] at h
theorem dgB_i {x : Nat} (h : dgB x = true) : 48 ≤ x ∧ x ≤ 57 := by rwa [dgB, decide_eq_true_eq] at h
theorem tkT_le {b : Nat → Nat} {N k : Nat} (hb : b k < 127) : tkT b N k ≤ 30000 ∧ (tkT b N k < 20000 → tkT b N k < 10023) := by
  unfold tkT
  split
  · have := wTok_le (b := b) (k := k) (m := tkE b N k - k)
    omega
  · split
    · rename_i y z
      have := nTok_le (b := b) (k := k) (m := tkE b N k - k) (fun i hi => by
        have e : tkE b N k = rnE dgB b (N - k) k := by rw [tkE, if_neg y, if_pos z]
        exact dgB_i (rnE_in (N - k) k (k + i) (by omega) (by omega)))
      omega
    · have := sTok_le hb
      omega
/-- all tokens: no larger than 30000, and placed within the tape -/
theorem cuts_in {b : Nat → Nat} {N : Nat} (hb : ∀ i, i < N → b i < 127) : ∀ f k, ∀ x, x ∈ cuts b N f k → x.1 ≤ 30000 ∧ (x.1 < 20000 → x.1 < 10023) ∧ x.2 < N
  | 0, k, x, hx => absurd hx (List.not_mem_nil)
  | f + 1, k, x, hx => by
    rw [cuts] at hx
    by_cases z : k < N
    · rw [if_pos z] at hx
      by_cases y : blB (b k) = true
      · rw [if_pos y] at hx
        exact cuts_in hb f (k + 1) x hx
      · rw [if_neg y, List.mem_cons] at hx
        rcases hx with rfl | hx
        · have := tkT_le (N := N) (hb k z)
          exact ⟨this.1, this.2, z⟩
        · exact cuts_in hb f _ x hx
    · rw [if_neg z] at hx
      exact absurd hx (List.not_mem_nil)
