/-! numbers and ranges; the small tests on both sides -/
/-- v lies from a to b -/
def rg (v : Int32) (a b : Int) : Bool := decide (a ≤ v.toInt ∧ v.toInt ≤ b)
theorem toI_nI {n : Nat} (h : n < 2147483648) : (nI n).toInt = n := nI_toInt h
theorem nI_lit (n : Nat) : (OfNat.ofNat n : Int32) = nI n := rfl
theorem rg_nI {v : Int32} {b : Nat} (hb : b < 2147483647) (h : rg v 0 b = true) : ∃ t : Nat, t < b + 1 ∧ v = nI t := by
  simp only [rg, decide_eq_true_eq] at h
  obtain ⟨j, hj, rfl⟩ := nI_of (x := v) (fun q => by
    have := Int32.lt_iff_toInt_lt.mp q
    simp at this
    omega)
  rw [nI_toInt hj] at h
  exact ⟨j, by omega, rfl⟩
theorem rg_of {t a b : Nat} (ht : t < 2147483648) : rg (nI t) a b = decide (a ≤ t ∧ t ≤ b) := by
  simp only [rg, nI_toInt ht]
  congr 1
  simp only [eq_iff_iff]
  omega
theorem i_lt {a b : Int32} : a < b ↔ a.toInt < b.toInt := Int32.lt_iff_toInt_lt
theorem i_le {a b : Int32} : a ≤ b ↔ a.toInt ≤ b.toInt := Int32.le_iff_toInt_le
theorem zb_0 {β : Type} (K : Int32 → Option β) : (av_bz 0).bind K = K 0 := rfl
theorem zb_1 {β : Type} (K : Int32 → Option β) : (av_bz 1).bind K = K 1 := rfl
theorem zb_b {β : Type} (b : Bool) (K : Int32 → Option β) : (av_bz (bI b)).bind K = K (bI b) := by cases b <;> rfl
section
variable {X : av_X} {d : Nat} {h : av_H}
theorem s_within (v a b : Int32) : ev X (d + 1) 252 [vi v, vi a, vi b] h = av_rI (bI (rg v a.toInt b.toInt)) h := by
  simp only [e_252, b_252_0, av_cI_r, av_cL_r, av_cV_r, Option.bind_some, ↓zb_0, ↓zb_1, ↓zb_b]
  by_cases h1 : v < a
  · rw [if_pos h1, show rg v a.toInt b.toInt = false from by simp only [rg, decide_eq_false_iff_not]; have := i_lt.mp h1; omega]; rfl
  · by_cases h2 : b < v
    · rw [if_neg h1, if_pos h2, show rg v a.toInt b.toInt = false from by simp only [rg, decide_eq_false_iff_not]; have := i_lt.mp h2; omega]; rfl
    · rw [if_neg h1, if_neg h2, show rg v a.toInt b.toInt = true from by simp only [rg, decide_eq_true_eq]; rw [i_lt] at h1 h2; omega]; rfl
theorem s_within' (v a b : Int32) {β : Type} (Kc : Int32 × av_H → Option β) : (av_cI (ev X (d + 1) 252 [vi v, vi a, vi b] h)).bind Kc = Kc (bI (rg v a.toInt b.toInt), h) := by rw [s_within v a b]; rfl
theorem c_within (v a b : Int32) : ev X (d + 1) 183 [vi v, vi a, vi b] h = av_rI (bI (rg v a.toInt b.toInt)) h := by
  simp only [e_183, b_183_0, av_cI_r, av_cL_r, av_cV_r, Option.bind_some, ↓zb_0, ↓zb_1, ↓zb_b]
  by_cases h1 : v < a
  · rw [if_pos h1, show rg v a.toInt b.toInt = false from by simp only [rg, decide_eq_false_iff_not]; have := i_lt.mp h1; omega]; rfl
  · by_cases h2 : b < v
    · rw [if_neg h1, if_pos h2, show rg v a.toInt b.toInt = false from by simp only [rg, decide_eq_false_iff_not]; have := i_lt.mp h2; omega]; rfl
    · rw [if_neg h1, if_neg h2, show rg v a.toInt b.toInt = true from by simp only [rg, decide_eq_true_eq]; rw [i_lt] at h1 h2; omega]; rfl
theorem c_within' (v a b : Int32) {β : Type} (Kc : Int32 × av_H → Option β) : (av_cI (ev X (d + 1) 183 [vi v, vi a, vi b] h)).bind Kc = Kc (bI (rg v a.toInt b.toInt), h) := by rw [c_within v a b]; rfl
theorem c_below (v b : Int32) : ev X (d + 1) 184 [vi v, vi b] h = av_rI (bI (rg v 0 (b.toInt - 1))) h := by
  simp only [e_184, b_184_0, av_cI_r, av_cL_r, av_cV_r, Option.bind_some, ↓zb_0, ↓zb_1, ↓zb_b]
  by_cases h1 : v < 0
  · rw [if_pos h1, show rg v 0 (b.toInt - 1) = false from by simp only [rg, decide_eq_false_iff_not]; have := i_lt.mp h1; simp at this; omega]; rfl
  · by_cases h2 : v < b
    · rw [if_neg h1, if_pos h2, show rg v 0 (b.toInt - 1) = true from by simp only [rg, decide_eq_true_eq]; rw [i_lt] at h1 h2; simp at h1; omega]; rfl
    · rw [if_neg h1, if_neg h2, show rg v 0 (b.toInt - 1) = false from by simp only [rg, decide_eq_false_iff_not]; rw [i_lt] at h1 h2; omega]; rfl
theorem c_below' (v b : Int32) {β : Type} (Kc : Int32 × av_H → Option β) : (av_cI (ev X (d + 1) 184 [vi v, vi b] h)).bind Kc = Kc (bI (rg v 0 (b.toInt - 1)), h) := by rw [c_below v b]; rfl
end
