/-! what there is: both sides' tests -/
theorem tI_0 : (0 : Int32).toInt = 0 := rfl
theorem tI_1 : (1 : Int32).toInt = 1 := rfl
theorem tI_2 : (2 : Int32).toInt = 2 := rfl
theorem tI_3 : (3 : Int32).toInt = 3 := rfl
theorem tI_4 : (4 : Int32).toInt = 4 := rfl
theorem tI_5 : (5 : Int32).toInt = 5 := rfl
theorem tI_6 : (6 : Int32).toInt = 6 := rfl
theorem tI_7 : (7 : Int32).toInt = 7 := rfl
theorem tI_8 : (8 : Int32).toInt = 8 := rfl
theorem tI_9 : (9 : Int32).toInt = 9 := rfl
theorem tI_10 : (10 : Int32).toInt = 10 := rfl
theorem tI_11 : (11 : Int32).toInt = 11 := rfl
theorem tI_12 : (12 : Int32).toInt = 12 := rfl
theorem tI_19 : (19 : Int32).toInt = 19 := rfl
theorem tI_20 : (20 : Int32).toInt = 20 := rfl
theorem tI_23 : (23 : Int32).toInt = 23 := rfl
theorem tI_24 : (24 : Int32).toInt = 24 := rfl
theorem tI_63 : (63 : Int32).toInt = 63 := rfl
theorem tI_64 : (64 : Int32).toInt = 64 := rfl
theorem tI_99 : (99 : Int32).toInt = 99 := rfl
theorem tI_100 : (100 : Int32).toInt = 100 := rfl
theorem tI_999 : (999 : Int32).toInt = 999 := rfl
theorem tI_9999 : (9999 : Int32).toInt = 9999 := rfl
theorem rI_ite {c : Prop} [Decidable c] {h : av_H} : (if c then av_rI 1 h else av_rI 0 h) = av_rI (bI (decide c)) h := by by_cases q : c <;> simp [q, bI]
theorem rI_iten {c : Prop} [Decidable c] {h : av_H} : (if c then av_rI 0 h else av_rI 1 h) = av_rI (bI (!decide c)) h := by by_cases q : c <;> simp [q, bI]
theorem nlt_le (a b : Int32) : (!decide (b < a)) = decide (a ≤ b) := by
  rw [← decide_not]
  exact decide_eq_decide.mpr Int32.not_lt
theorem bI_and (a b : Bool) : (if bI a = 0 then bI false else bI b) = bI (a && b) := by cases a <;> cases b <;> rfl
section
variable {X : av_X} {d : Nat} {h : av_H}
theorem s_isDay (v : Int32) : ev X (d + 2) 253 [vi v] h = av_rI (bI (rg v 0 99)) h := by
  simp only [e_253, b_253_0, ↓s_within', av_cI_r, av_cL_r, av_cV_r, Option.bind_some, ↓zb_0, ↓zb_1, ↓zb_b, tI_0, tI_99]
theorem s_isDay' (v : Int32) {β : Type} (Kc : Int32 × av_H → Option β) : (av_cI (ev X (d + 2) 253 [vi v] h)).bind Kc = Kc (bI (rg v 0 99), h) := by rw [s_isDay v]; rfl
theorem s_isHour (v : Int32) : ev X (d + 2) 254 [vi v] h = av_rI (bI (rg v 0 23)) h := by
  simp only [e_254, b_254_0, ↓s_within', av_cI_r, av_cL_r, av_cV_r, Option.bind_some, ↓zb_0, ↓zb_1, ↓zb_b, tI_0, tI_23]
theorem s_isHour' (v : Int32) {β : Type} (Kc : Int32 × av_H → Option β) : (av_cI (ev X (d + 2) 254 [vi v] h)).bind Kc = Kc (bI (rg v 0 23), h) := by rw [s_isHour v]; rfl
theorem s_isSide (v : Int32) : ev X (d + 2) 255 [vi v] h = av_rI (bI (rg v 0 3)) h := by
  simp only [e_255, b_255_0, ↓s_within', av_cI_r, av_cL_r, av_cV_r, Option.bind_some, ↓zb_0, ↓zb_1, ↓zb_b, tI_0, tI_3]
theorem s_isSide' (v : Int32) {β : Type} (Kc : Int32 × av_H → Option β) : (av_cI (ev X (d + 2) 255 [vi v] h)).bind Kc = Kc (bI (rg v 0 3), h) := by rw [s_isSide v]; rfl
theorem s_isPerson (v : Int32) : ev X (d + 2) 256 [vi v] h = av_rI (bI (rg v 0 9)) h := by
  simp only [e_256, b_256_0, ↓s_within', av_cI_r, av_cL_r, av_cV_r, Option.bind_some, ↓zb_0, ↓zb_1, ↓zb_b, tI_0, tI_9]
theorem s_isPerson' (v : Int32) {β : Type} (Kc : Int32 × av_H → Option β) : (av_cI (ev X (d + 2) 256 [vi v] h)).bind Kc = Kc (bI (rg v 0 9), h) := by rw [s_isPerson v]; rfl
theorem s_isPromise (v : Int32) : ev X (d + 2) 309 [vi v] h = av_rI (bI (rg v 1 99)) h := by
  simp only [e_309, b_309_0, ↓s_within', av_cI_r, av_cL_r, av_cV_r, Option.bind_some, ↓zb_0, ↓zb_1, ↓zb_b, tI_1, tI_99]
theorem s_isPromise' (v : Int32) {β : Type} (Kc : Int32 × av_H → Option β) : (av_cI (ev X (d + 2) 309 [vi v] h)).bind Kc = Kc (bI (rg v 1 99), h) := by rw [s_isPromise v]; rfl
theorem c_isDay (v : Int32) : ev X (d + 2) 187 [vi v] h = av_rI (bI (rg v 0 99)) h := by
  simp only [e_187, b_187_0, ↓c_below', av_cI_r, av_cL_r, av_cV_r, Option.bind_some, ↓zb_0, ↓zb_1, ↓zb_b, tI_100]; rfl
theorem c_isDay' (v : Int32) {β : Type} (Kc : Int32 × av_H → Option β) : (av_cI (ev X (d + 2) 187 [vi v] h)).bind Kc = Kc (bI (rg v 0 99), h) := by rw [c_isDay v]; rfl
theorem c_isHour (v : Int32) : ev X (d + 2) 189 [vi v] h = av_rI (bI (rg v 0 23)) h := by
  simp only [e_189, b_189_0, ↓c_below', av_cI_r, av_cL_r, av_cV_r, Option.bind_some, ↓zb_0, ↓zb_1, ↓zb_b, tI_24]; rfl
theorem c_isHour' (v : Int32) {β : Type} (Kc : Int32 × av_H → Option β) : (av_cI (ev X (d + 2) 189 [vi v] h)).bind Kc = Kc (bI (rg v 0 23), h) := by rw [c_isHour v]; rfl
theorem c_isSide (v : Int32) : ev X (d + 2) 186 [vi v] h = av_rI (bI (rg v 0 3)) h := by
  simp only [e_186, b_186_0, ↓c_below', av_cI_r, av_cL_r, av_cV_r, Option.bind_some, ↓zb_0, ↓zb_1, ↓zb_b, tI_4]; rfl
theorem c_isSide' (v : Int32) {β : Type} (Kc : Int32 × av_H → Option β) : (av_cI (ev X (d + 2) 186 [vi v] h)).bind Kc = Kc (bI (rg v 0 3), h) := by rw [c_isSide v]; rfl
theorem c_isPerson (v : Int32) : ev X (d + 2) 191 [vi v] h = av_rI (bI (rg v 0 9)) h := by
  simp only [e_191, b_191_0, ↓c_below', av_cI_r, av_cL_r, av_cV_r, Option.bind_some, ↓zb_0, ↓zb_1, ↓zb_b, tI_10]; rfl
theorem c_isPerson' (v : Int32) {β : Type} (Kc : Int32 × av_H → Option β) : (av_cI (ev X (d + 2) 191 [vi v] h)).bind Kc = Kc (bI (rg v 0 9), h) := by rw [c_isPerson v]; rfl
theorem c_areDays (a b : Int32) : ev X (d + 3) 188 [vi a, vi b] h = av_rI (bI (rg a 0 99 && rg b 0 99 && decide (a ≤ b))) h := by
  simp only [e_188, b_188_0, ↓c_isDay', av_cI_r, av_cL_r, av_cV_r, Option.bind_some, ↓zb_0, ↓zb_1, ↓zb_b, bI_0]
  cases rg a 0 99 <;> cases rg b 0 99 <;> simp only [Bool.false_and, Bool.and_false, Bool.true_and, if_true, Bool.true_eq_false, if_false, bI_f, rI_iten, nlt_le]
theorem c_areDays' (a b : Int32) {β : Type} (Kc : Int32 × av_H → Option β) : (av_cI (ev X (d + 3) 188 [vi a, vi b] h)).bind Kc = Kc (bI (rg a 0 99 && rg b 0 99 && decide (a ≤ b)), h) := by rw [c_areDays a b]; rfl
theorem c_areHours (a b : Int32) : ev X (d + 3) 190 [vi a, vi b] h = av_rI (bI (rg a 0 23 && rg b 0 23 && decide (a ≤ b))) h := by
  simp only [e_190, b_190_0, ↓c_isHour', av_cI_r, av_cL_r, av_cV_r, Option.bind_some, ↓zb_0, ↓zb_1, ↓zb_b, bI_0]
  cases rg a 0 23 <;> cases rg b 0 23 <;> simp only [Bool.false_and, Bool.and_false, Bool.true_and, if_true, Bool.true_eq_false, if_false, bI_f, rI_iten, nlt_le]
theorem c_areHours' (a b : Int32) {β : Type} (Kc : Int32 × av_H → Option β) : (av_cI (ev X (d + 3) 190 [vi a, vi b] h)).bind Kc = Kc (bI (rg a 0 23 && rg b 0 23 && decide (a ≤ b)), h) := by rw [c_areHours a b]; rfl
/-- a tower is told -/
def told (h : av_H) (t : Int32) : Bool := rg t 0 5 && decide (0 < h.2.1 143 t.toNatClampNeg)
theorem s_isTower (w : WF h) (t : Int32) : ev X (d + 2) 257 [vr (some 137), vi t] h = av_rI (bI (told h t)) h := by
  simp only [e_257, b_257_0, ↓s_within', av_cI_r, av_cL_r, av_cV_r, Option.bind_some, ↓zb_0, ↓zb_1, ↓zb_b, bI_0, tI_0, tI_5]
  by_cases hr : rg t 0 5 = true
  · obtain ⟨j, hj, rfl⟩ := rg_nI (b := 5) (by decide) hr
    simp (disch := first | assumption | omega) only [hr, ↓gR_137_10, ↓ld_143, ↓st_143, ↓ln_143, told, nI_clamp, Bool.true_and, Bool.true_eq_false, if_false, rI_ite]
  · simp [hr, told, bI]
theorem s_isTower' (w : WF h) (t : Int32) {β : Type} (Kc : Int32 × av_H → Option β) : (av_cI (ev X (d + 2) 257 [vr (some 137), vi t] h)).bind Kc = Kc (bI (told h t), h) := by rw [s_isTower w t]; rfl
end
