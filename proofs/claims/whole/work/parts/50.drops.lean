/-! the drops on both sides -/
theorem sar_c : ∀ k, k < 64 → ((nI k).toInt64 &&& 63) = lN k := by decide +kernel
theorem sar_s : ∀ k, k < 64 → ((lN k).toBitVec.smod 64).toNat = k := by decide +kernel
theorem sar64 {n k : Nat} (hn : n < 2 ^ 62) (hk : k < 64) : lN n >>> ((nI k).toInt64 &&& 63) = lN (n / 2 ^ k) := by
  rw [sar_c k hk]
  have hd : n / 2 ^ k ≤ n := Nat.div_le_self _ _
  apply Int64.toInt_inj.mp
  have e : (lN n >>> lN k).toInt = (lN n).toInt >>> k := by
    have z := sar_s k hk
    conv => rhs; rw [← z]
    exact BitVec.toInt_sshiftRight ..
  rw [e, Int.shiftRight_eq_div_pow, pk_lT (by omega), pk_lT (by omega)]
  rfl
theorem and1L (n : Nat) : lN n &&& 1 = lN (n % 2) := by
  show lN n &&& lN (2 ^ 1 - 1) = _
  rw [fb_maskL]
theorem bitL {n k : Nat} (hn : n < 2 ^ 62) (hk : k < 64) : (lg_cmp ((lN n >>> ((nI k).toInt64 &&& 63)) &&& 1) 1 = 0) = (n.testBit k = true) := by
  rw [sar64 hn hk, and1L, lg_cmp_eq, eq_iff_iff, Nat.testBit_eq_decide_div_mod_eq, decide_eq_true_eq]
  show lN (n / 2 ^ k % 2) = lN 1 ↔ _
  exact pk_lEQ (by omega) (by omega)
theorem nb_4095 (n : Nat) : nI n &&& 4095 = nI (n % 4096) := by
  show nI n &&& nI (2 ^ 12 - 1) = _
  rw [nb_and, Nat.and_two_pow_sub_one_eq_mod]
theorem rg_sub {c x n : Nat} (hc : c < 1000000) (hx : x < 1000000) : rg (nI c - nI x) 0 n = decide (x ≤ c ∧ c ≤ x + n) := by
  rw [rg, pk_sub_toInt (by omega) (by omega)]
  congr 1
  simp only [eq_iff_iff]
  omega
/-- a drop: its numbers by the class's fields, its panes by the class's bits and by the reference's -/
def dpb (D : Nat → Nat) (M N : Nat) : Prop := D 0 < 6 ∧ D 1 < 4 ∧ D 2 < 10 ∧ (1 ≤ D 3 ∧ D 3 ≤ 12) ∧ D 4 < 100 ∧ D 5 < 24 ∧ (1 ≤ D 6 ∧ D 5 + D 6 ≤ 24) ∧ (1 ≤ D 7 ∧ D 7 ≤ 12) ∧ D 6 = (D 3 + D 7 - 1) / D 7 ∧ D 8 < 10 ∧ D 9 < 10 ∧ D 8 ≠ D 9 ∧
  (D 10 ≤ D 4 ∧ D 11 ≤ D 4) ∧ D 12 = bct M ∧ 1 ≤ D 12 ∧ D 13 ≤ 9999 ∧ D 14 ≤ 99 ∧ D 15 ≤ 9999 ∧ D 16 < 2147483648 ∧ D 17 < 2147483648 ∧ M < 2 ^ 48 ∧ N < 2 ^ 48 ∧
  (∀ c, c < 4 → ∀ f, f < 12 → M.testBit (12 * c + f) = N.testBit (4 * f + c)) ∧ (∀ c, c < 4 → ∀ f, f < 12 → N.testBit (4 * f + c) = true → f < D 3 ∧ D 2 + c < 10)
def dpc (h : av_H) (i : Nat) (D : Nat → Nat) (M : Nat) : Prop := (∀ j, j < 18 → h.2.1 (77 + i) j = nI (D j)) ∧ h.2.2.1 (77 + i) 18 = lN M
def dpr (h : av_H) (i : Nat) (D : Nat → Nat) (N : Nat) : Prop := h.2.1 168 i = nI (D 0) ∧ h.2.1 169 i = nI (D 1) ∧ h.2.1 170 i = nI (D 2) ∧ h.2.1 171 i = nI (D 4) ∧ h.2.1 172 i = nI (D 5) ∧ h.2.1 173 i = nI (D 6) ∧ h.2.1 174 i = nI (D 7) ∧ h.2.1 175 i = nI (D 8) ∧ h.2.1 176 i = nI (D 9) ∧
  h.2.1 177 i = nI (D 12) ∧ h.2.1 178 i = nI (D 15) ∧ h.2.1 179 i = nI (D 16) ∧ h.2.1 180 i = nI (D 17) ∧ h.2.1 181 i = nI (D 13) ∧ h.2.1 182 i = nI (D 14) ∧ h.2.1 183 i = nI (D 4 - D 10) ∧ h.2.1 184 i = nI (D 4 - D 11) ∧ h.2.2.1 185 i = lN N
/-- a drop reached a pane -/
def rch (D : Nat → Nat) (M t s f c : Nat) : Bool := decide (D 0 = t) && (decide (D 1 = s) && (decide (D 2 ≤ c ∧ c ≤ D 2 + 3) && M.testBit (12 * (c - D 2) + f)))
/-- the day on which a pane was washed last, by the first n drops -/
def wsh (D : Nat → Nat → Nat) (M : Nat → Nat) (t s f c : Nat) : Nat → Option Nat
  | 0 => none
  | n + 1 => if rch (D n) (M n) t s f c = true then some (D n 4) else wsh D M t s f c n
def DC (h : av_H) (m : Nat) (D : Nat → Nat → Nat) (M : Nat → Nat) : Prop := h.2.1 0 17 = nI m ∧ ∀ i, i < m → dpc h i (D i) (M i)
def DR (h : av_H) (m : Nat) (D : Nat → Nat → Nat) (N : Nat → Nat) : Prop := h.2.1 137 45 = nI m ∧ ∀ i, i < m → dpr h i (D i) (N i)
/-- what holds of the drops by themselves -/
def DB (m : Nat) (D : Nat → Nat → Nat) (M N : Nat → Nat) : Prop := m ≤ 60 ∧ (∀ i, i < m → dpb (D i) (M i) (N i)) ∧ ∀ i j, i < j → j < m → D i 4 ≤ D j 4
/-- what the panes were washed on, and the floors -/
def DW (h : av_H) (m : Nat) (D : Nat → Nat → Nat) (M : Nat → Nat) : Prop := (∀ t, t < 6 → ∀ s, s < 4 → ∀ f, f < 12 → ∀ c, c < 10 → h.2.1 146 (((4 * t + s) * 12 + f) * 10 + c) = oI (wsh D M t s f c m)) ∧ ∀ i, i < m → h.2.1 143 (D i 0) = nI (D i 3)
def J_dp (h : av_H) : Prop := ∃ (m : Nat) (D : Nat → Nat → Nat) (M N : Nat → Nat), DB m D M N ∧ DC h m D M ∧ DR h m D N ∧ DW h m D M
def dCells : List Nat := [77, 78, 79, 80, 81, 82, 83, 84, 85, 86, 87, 88, 89, 90, 91, 92, 93, 94, 95, 96, 97, 98, 99, 100, 101, 102, 103, 104, 105, 106, 107, 108, 109, 110, 111, 112, 113, 114, 115, 116, 117, 118, 119, 120, 121, 122, 123, 124, 125, 126, 127, 128, 129, 130, 131, 132, 133, 134, 135, 136]
def rCells : List Nat := [168, 169, 170, 171, 172, 173, 174, 175, 176, 177, 178, 179, 180, 181, 182, 183, 184, 185]
theorem dCells_in : ∀ i, i < 60 → dCells.elem (77 + i) = true := by decide +kernel
theorem DC.fr {h h' : av_H} {m : Nat} {D : Nat → Nat → Nat} {M : Nat → Nat} (J : DC h m D M) (hm : m ≤ 60) (A : agr (FP false dCells [(0, 17)]) h h') : DC h' m D M := by
  refine ⟨(A.I rfl).trans J.1, fun i hi => ?_⟩
  have e : ∀ k, FP false dCells [(0, 17)] (77 + i) k = true := fun k => by simp only [FP, dCells_in i (by omega), Bool.false_and, Bool.false_or, Bool.true_or]
  exact ⟨fun j hj => (A.I (e j)).trans ((J.2 i hi).1 j hj), (A.L (e 18)).trans (J.2 i hi).2⟩
theorem DR.fr {h h' : av_H} {m : Nat} {D : Nat → Nat → Nat} {N : Nat → Nat} (J : DR h m D N) (A : agr (FP false rCells [(137, 45)]) h h') : DR h' m D N := by
  refine ⟨(A.I rfl).trans J.1, fun i hi => ?_⟩
  have z := J.2 i hi
  unfold dpr at z ⊢
  rw [A.I rfl, A.I rfl, A.I rfl, A.I rfl, A.I rfl, A.I rfl, A.I rfl, A.I rfl, A.I rfl, A.I rfl, A.I rfl, A.I rfl, A.I rfl, A.I rfl, A.I rfl, A.I rfl, A.I rfl, A.L rfl]
  exact z
theorem DW.fr {h h' : av_H} {m : Nat} {D : Nat → Nat → Nat} {M : Nat → Nat} (J : DW h m D M) (A : agr (FP false [143, 146] []) h h') : DW h' m D M :=
  ⟨fun t ht s hs f hf c hc => (A.I rfl).trans (J.1 t ht s hs f hf c hc), fun i hi => (A.I rfl).trans (J.2 i hi)⟩
def J_dpF : List Nat := [143, 146] ++ dCells ++ rCells
theorem J_dp.fr {h h' : av_H} (J : J_dp h) (A : agr (FP false J_dpF [(0, 17), (137, 45)]) h h') : J_dp h' := by
  obtain ⟨m, D, M, N, h1, h2, h3, h4⟩ := J
  exact ⟨m, D, M, N, h1, h2.fr h1.1 (A.sub (by decide +kernel)), h3.fr (A.sub (by decide +kernel)), h4.fr (A.sub (by decide +kernel))⟩
theorem dr_kk : ∀ i, i < 60 → gK[77 + i]? = some (0, 0) := by decide +kernel
theorem dr_k {h : av_H} (w : WF h) {i : Nat} (hi : i < 60) : h.1[77 + i]? = some (0, 0) := w.k (dr_kk i hi)
theorem dr_l {β : Type} {h : av_H} {i : Nat} (w : WF h) (hi : i < 60) (K : Option Nat → Option β) : (av_lR h (some 65) 105 (nI i)).bind K = K (some (77 + i)) := by rw [ld_65 w hi, w.2.2.1 i hi]
theorem dr_g {β : Type} {h : av_H} {i j : Nat} {D : Nat → Nat} (w : WF h) (hi : i < 60) (hD : ∀ j, j < 18 → h.2.1 (77 + i) j = nI (D j)) (hj : j < 18) (K : Int32 → Option β) : (av_gI h (some (77 + i)) 0 j).bind K = K (nI (D j)) := by rw [bS (k_gI (dr_k w hi) j), hD j hj]
theorem dr_L {β : Type} {h : av_H} {i : Nat} {M : Nat} (w : WF h) (hi : i < 60) (hM : h.2.2.1 (77 + i) 18 = lN M) (K : Int64 → Option β) : (av_gL h (some (77 + i)) 0 18).bind K = K (lN M) := by rw [bS (k_gL (dr_k w hi) 18), hM]
theorem dr_is {α : Type} {h : av_H} {i : Nat} (w : WF h) (hi : i < 60) (A B : α) : (if av_is h (some (77 + i)) 0 = true then A else B) = A := if_pos (av_is_k (dr_k w hi))
/-- the floors reached in a column -/
def rfl_ (D : Nat → Nat) (M c : Nat) : Nat := if D 2 ≤ c ∧ c ≤ D 2 + 3 then M / 2 ^ ((c - D 2) * 12) % 4096 else 0
theorem rfl_lt (D : Nat → Nat) (M c : Nat) : rfl_ D M c < 4096 := by
  unfold rfl_
  split
  · exact Nat.mod_lt _ (by decide)
  · decide
theorem rfl_bit (D : Nat → Nat) (M c f : Nat) : (rfl_ D M c).testBit f = (decide (D 2 ≤ c ∧ c ≤ D 2 + 3) && (decide (f < 12) && M.testBit (12 * (c - D 2) + f))) := by
  unfold rfl_
  by_cases e : D 2 ≤ c ∧ c ≤ D 2 + 3
  · rw [if_pos e, show (4096 : Nat) = 2 ^ 12 from rfl, Nat.testBit_mod_two_pow, Nat.testBit_div_two_pow, decide_eq_true e, Bool.true_and, Nat.mul_comm 12, Nat.add_comm f]
  · rw [if_neg e, decide_eq_false e, Bool.false_and, Nat.zero_testBit]
section
variable {X : av_X} {d : Nat} {h : av_H}
theorem c_rFl {i c M : Nat} {D : Nat → Nat} (w : WF h) (hi : i < 60) (P : dpc h i D M) (hc : c < 1000) (hx : D 2 < 10) (hM : M < 2 ^ 48) : ev X (d + 2) 6 [vr (some (77 + i)), vi (nI c)] h = av_rI (nI (rfl_ D M c)) h := by
  obtain ⟨hD, hL⟩ := P
  have q := rg_sub (c := c) (x := D 2) (n := 3) (by omega) (by omega)
  simp (disch := first | ((repeat (first | with_reducible apply WF_uI | with_reducible apply WF_uL | with_reducible apply WF_th | with_reducible apply WF_fillL | with_reducible apply WF_fgt)); with_reducible assumption) | omega | (simp only [uI_1, uL_1, th_1, uI_R, uL_R]; with_reducible assumption)) only [e_6, b_6_0, ↓dr_g (D := D), ↓c_below', tI_4, show ((4 : Int) - 1) = ((3 : Nat) : Int) from rfl, q, bI_0, ↓reduceIte, i10, av_cI_r, av_cL_r, av_cV_r, Option.bind_some, ↓zb_0, ↓zb_1, ↓zb_b, ↓dr_L (M := M)]
  by_cases z : D 2 ≤ c ∧ c ≤ D 2 + 3
  · rw [rfl_, if_pos z, decide_eq_true z, if_neg (by decide), pk_sub z.1, lit_12, pk_mul, sl64 (by omega) (by omega), lN_t, nb_4095]
  · rw [rfl_, if_neg z, decide_eq_false z, if_pos rfl]
    rfl
theorem c_rFl' {i c M : Nat} {D : Nat → Nat} (w : WF h) (hi : i < 60) (P : dpc h i D M) (hc : c < 1000) (hx : D 2 < 10) (hM : M < 2 ^ 48) {β : Type} (Kc : Int32 × av_H → Option β) : (av_cI (ev X (d + 2) 6 [vr (some (77 + i)), vi (nI c)] h)).bind Kc = Kc (nI (rfl_ D M c), h) := by rw [c_rFl w hi P hc hx hM]; rfl
theorem c_hasR {i t s f c M : Nat} {D : Nat → Nat} (w : WF h) (hi : i < 60) (P : dpc h i D M) (ht : t < 6) (hs : s < 4) (hf : f < 12) (hc : c < 10) (ht' : D 0 < 6) (hs' : D 1 < 4) (hx : D 2 < 10) (hM : M < 2 ^ 48) : ev X (d + 3) 7 [vr (some (77 + i)), vi (nI t), vi (nI s), vi (nI f), vi (nI c)] h = av_rI (bI (rch D M t s f c)) h := by
  have hD := P.1
  have lt := rfl_lt D M c
  rw [e_7, b_7_0, dr_g w hi hD (by decide), rch]
  by_cases q1 : D 0 = t
  · rw [if_pos (congrArg nI q1), dr_g w hi hD (by decide), decide_eq_true q1, Bool.true_and]
    by_cases q2 : D 1 = s
    · rw [if_pos (congrArg nI q2), dr_is w hi, c_rFl' w hi P (by omega) hx hM, c_hasBit' (by omega) (by omega), rfl_bit, decide_eq_true q2, Bool.true_and, decide_eq_true hf, Bool.true_and]
      simp only [↓reduceIte, i10, av_cI_r, av_cL_r, av_cV_r, Option.bind_some, ↓zb_0, ↓zb_1, ↓zb_b]
      cases (decide (D 2 ≤ c ∧ c ≤ D 2 + 3) && M.testBit (12 * (c - D 2) + f)) <;> rfl
    · rw [if_neg (fun z => q2 ((nI_eq (by omega) (by omega)).mp z)), decide_eq_false q2, Bool.false_and]
      rfl
  · rw [if_neg (fun z => q1 ((nI_eq (by omega) (by omega)).mp z)), decide_eq_false q1, Bool.false_and]
    rfl
theorem c_hasR' {i t s f c M : Nat} {D : Nat → Nat} (w : WF h) (hi : i < 60) (P : dpc h i D M) (ht : t < 6) (hs : s < 4) (hf : f < 12) (hc : c < 10) (ht' : D 0 < 6) (hs' : D 1 < 4) (hx : D 2 < 10) (hM : M < 2 ^ 48) {β : Type} (Kc : Int32 × av_H → Option β) : (av_cI (ev X (d + 3) 7 [vr (some (77 + i)), vi (nI t), vi (nI s), vi (nI f), vi (nI c)] h)).bind Kc = Kc (bI (rch D M t s f c), h) := by rw [c_hasR w hi P ht hs hf hc ht' hs' hx hM]; rfl
theorem s_didR {i t s f c M N : Nat} {D : Nat → Nat} (w : WF h) (hi : i < 60) (P : dpr h i D N) (B : dpb D M N) (ht : t < 6) (hs : s < 4) (hf : f < 12) (hc : c < 10) : ev X (d + 1) 307 [vr (some 137), vi (nI i), vi (nI t), vi (nI s), vi (nI f), vi (nI c)] h = av_rI (bI (rch D M t s f c)) h := by
  obtain ⟨p0, p1, p2, -, -, -, -, -, -, -, -, -, -, -, -, -, -, p18⟩ := P
  obtain ⟨b0, b1, b2, -, -, -, -, -, -, -, -, -, -, -, -, -, -, -, -, -, bM, bN, bb, -⟩ := B
  rw [e_307, b_307_0, gR_137_48 w, ld_170 w hi, gR_137_46 w, ld_168 w hi, p0, p2, rch]
  by_cases q1 : D 0 = t
  · rw [if_pos (congrArg nI q1), gR_137_47 w, ld_169 w hi, p1, decide_eq_true q1, Bool.true_and]
    by_cases q2 : D 1 = s
    · rw [if_pos (congrArg nI q2), decide_eq_true q2, Bool.true_and]
      by_cases q3 : c < D 2
      · rw [if_pos (pk_sneg (by omega) q3), decide_eq_false (by omega), Bool.false_and]
        rfl
      · rw [pk_sub (by omega), if_neg (nI_pos (by omega))]
        by_cases q4 : c < D 2 + 4
        · rw [if_pos (show nI (c - D 2) < (4 : Int32) from nI_lt (b := 4) (by omega) (by omega)), gR_137_63 w, ld_185 w hi, p18, lit_4, pk_mul, nI_add, decide_eq_true (by omega), Bool.true_and, bb (c - D 2) (by omega) f hf]
          have e := bitL (n := N) (k := 4 * f + (c - D 2)) (by omega) (by omega)
          by_cases q5 : N.testBit (4 * f + (c - D 2)) = true
          · rw [if_pos (e.mpr q5), q5]
            rfl
          · rw [if_neg (fun z => q5 (e.mp z)), Bool.eq_false_iff.mpr q5]
            rfl
        · rw [if_neg (show ¬ nI (c - D 2) < (4 : Int32) from nI_nlt (b := 4) (by omega) (by omega)), decide_eq_false (by omega), Bool.false_and]
          rfl
    · rw [if_neg (fun z => q2 ((nI_eq (by omega) (by omega)).mp z)), decide_eq_false q2, Bool.false_and]
      rfl
  · rw [if_neg (fun z => q1 ((nI_eq (by omega) (by omega)).mp z)), decide_eq_false q1, Bool.false_and]
    rfl
theorem s_didR' {i t s f c M N : Nat} {D : Nat → Nat} (w : WF h) (hi : i < 60) (P : dpr h i D N) (B : dpb D M N) (ht : t < 6) (hs : s < 4) (hf : f < 12) (hc : c < 10) {β : Type} (Kc : Int32 × av_H → Option β) : (av_cI (ev X (d + 1) 307 [vr (some 137), vi (nI i), vi (nI t), vi (nI s), vi (nI f), vi (nI c)] h)).bind Kc = Kc (bI (rch D M t s f c), h) := by rw [s_didR w hi P B ht hs hf hc]; rfl
end
