/-! the wind -/
/-- a bit of an int -/
def nbt (x : Int32) (i : Nat) : Bool := x.toBitVec.getLsbD i
theorem nbt_ext {x y : Int32} (h : ∀ i, i < 32 → nbt x i = nbt y i) : x = y := Int32.toBitVec_inj.mp (BitVec.eq_of_getLsbD_eq (fun i hi => h i hi))
theorem nbt_or (x y : Int32) (i : Nat) : nbt (x ||| y) i = (nbt x i || nbt y i) := by unfold nbt; rw [Int32.toBitVec_or, BitVec.getLsbD_or]
theorem nbt_and (x y : Int32) (i : Nat) : nbt (x &&& y) i = (nbt x i && nbt y i) := by unfold nbt; rw [Int32.toBitVec_and, BitVec.getLsbD_and]
theorem nbt_not (x : Int32) {i : Nat} (hi : i < 32) : nbt (x ^^^ (-1)) i = !nbt x i := by
  unfold nbt
  rw [Int32.toBitVec_xor, BitVec.getLsbD_xor, nb_m1, BitVec.getLsbD_allOnes]
  simp [hi]
theorem nbt_shl (n : Nat) (hn : n < 32) (x : Int32) {i : Nat} (hi : i < 32) : nbt (x <<< (nI n &&& 31)) i = (decide (n ≤ i) && nbt x (i - n)) := by
  unfold nbt
  rw [Int32.toBitVec_shiftLeft]
  show (x.toBitVec <<< ((nI n &&& 31).toBitVec.smod 32).toNat).getLsbD i = _
  rw [nb_sl n hn, BitVec.getLsbD_shiftLeft]
  rcases Nat.lt_or_ge i n with h | h
  · simp [h, Nat.not_le.mpr h]
  · simp [hi, h, Nat.not_lt.mpr h]
theorem nbt_shr (n : Nat) (hn : n < 32) (x : Int32) {i : Nat} (hi : i < 32) : nbt (x >>> (nI n &&& 31)) i = if n + i < 32 then nbt x (n + i) else nbt x 31 := by
  unfold nbt
  rw [Int32.toBitVec_shiftRight]
  show (x.toBitVec.sshiftRight ((nI n &&& 31).toBitVec.smod 32).toNat).getLsbD i = _
  rw [nb_sl n hn, BitVec.getLsbD_sshiftRight, BitVec.msb_eq_getLsbD_last]
  simp [hi]
theorem nbt_nI {n i : Nat} (hi : i < 32) : nbt (nI n) i = n.testBit i := by
  unfold nbt
  show (BitVec.ofNat 32 n).getLsbD i = _
  rw [BitVec.getLsbD_ofNat]
  simp [hi]
theorem nbt_127 : ∀ i, i < 32 → nbt 127 i = decide (i < 7) := by decide +kernel
/-- a side's speed laid among the four -/
def windW (x : Int32) (s v : Nat) : Int32 := (x &&& (((127 : Int32) <<< (nI (s * 8) &&& 31)) ^^^ (-1))) ||| (nI v <<< (nI (s * 8) &&& 31))
theorem windW_get {x : Int32} {s s' v : Nat} (hs : s < 4) (hs' : s' < 4) (hv : v ≤ 99) : (windW x s v >>> (nI (s' * 8) &&& 31)) &&& 127 = if s' = s then nI v else (x >>> (nI (s' * 8) &&& 31)) &&& 127 := by
  have big : ∀ j, 7 ≤ j → v.testBit j = false := fun j hj => Nat.testBit_lt_two_pow (Nat.lt_of_lt_of_le (show v < 2 ^ 7 by omega) (Nat.pow_le_pow_right (by decide) hj))
  apply nbt_ext
  intro i hi
  rw [nbt_and, nbt_127 i hi, nbt_shr _ (by omega) _ hi]
  rcases Nat.lt_or_ge i 7 with h7 | h7
  · rw [if_pos (by omega), windW, nbt_or, nbt_and, nbt_not _ (by omega), nbt_shl _ (by omega) _ (by omega), nbt_shl _ (by omega) _ (by omega)]
    simp only [h7, decide_true, Bool.and_true]
    by_cases e : s' = s
    · subst e
      rw [show s' * 8 + i - s' * 8 = i by omega, nbt_127 i hi, if_pos rfl, nbt_nI hi]
      simp [h7]
    · rw [if_neg e, nbt_and, nbt_127 i hi, nbt_shr _ (by omega) _ hi, if_pos (by omega)]
      simp only [h7, decide_true, Bool.and_true]
      by_cases le : s * 8 ≤ s' * 8 + i
      · rw [nbt_127 _ (by omega), nbt_nI (by omega), big _ (by omega), show decide (s' * 8 + i - s * 8 < 7) = false from decide_eq_false (by omega)]
        simp
      · simp [le]
  · have z : decide (i < 7) = false := decide_eq_false (by omega)
    rw [z, Bool.and_false]
    by_cases e : s' = s
    · rw [if_pos e, nbt_nI hi, big i h7]
    · rw [if_neg e, nbt_and, nbt_127 i hi, z, Bool.and_false]
/-- the winds on both sides -/
def J_wi (h : av_H) : Prop := ∀ s, s < 4 → ∀ e, e < 100 → ∀ k, k < 24 → ∃ n, n ≤ 99 ∧ h.2.1 154 ((100 * s + e) * 24 + k) = nI n ∧ (h.2.1 2 (e * 24 + k) >>> (nI (s * 8) &&& 31)) &&& 127 = nI n
theorem J_wi.fr {h h' : av_H} (J : J_wi h) (A : agr (FP false [2, 154] []) h h') : J_wi h' := fun s hs e he k hk => by
  obtain ⟨n, h1, h2, h3⟩ := J s hs e he k hk
  exact ⟨n, h1, (A.I rfl).trans h2, by rw [A.I rfl]; exact h3⟩
section
variable {X : av_X} {d : Nat} {h : av_H}
def okW (s e k v : Int32) : Bool := rg s 0 3 && rg e 0 99 && rg k 0 23 && rg v 0 99
theorem C_wind0 (w : WF h) (s e k v : Int32) (ok : okW s e k v = false) : ev X (d + 3) 132 [vr (some 0), vi s, vi e, vi k, vi v] h = av_rI 0 h := by
  simp (disch := first | ((repeat (first | with_reducible apply WF_uI | with_reducible apply WF_uL | with_reducible apply WF_th)); with_reducible assumption) | omega | (simp only [uI_1, uL_1, th_1, uI_R, uL_R]; with_reducible assumption)) only [e_132, b_132_0, ↓c_isSide', ↓c_isDay', ↓c_isHour', ↓c_within', ↓reduceIte, i10, av_cI_r, av_cL_r, av_cV_r, Option.bind_some, ↓zb_0, ↓zb_1, ↓zb_b, bI_0, tI_0, tI_99]
  cases q1 : rg s 0 3 <;> cases q2 : rg e 0 99 <;> cases q3 : rg k 0 23 <;> cases q4 : rg v 0 99 <;> simp only [if_true, if_false, Bool.true_eq_false]
  simp [okW, q1, q2, q3, q4] at ok
theorem C_wind1 (w : WF h) {s e k v : Nat} (hs : s < 4) (he : e < 100) (hk : k < 24) (ok : okW (nI s) (nI e) (nI k) (nI v) = true) : ev X (d + 3) 132 [vr (some 0), vi (nI s), vi (nI e), vi (nI k), vi (nI v)] h = av_rI 1 (av_uI h 2 (e * 24 + k) (windW (h.2.1 2 (e * 24 + k)) s v)) := by
  simp only [okW, Bool.and_eq_true] at ok
  obtain ⟨⟨⟨q1, q2⟩, q3⟩, q4⟩ := ok
  simp (disch := first | ((repeat (first | with_reducible apply WF_uI | with_reducible apply WF_uL | with_reducible apply WF_th)); with_reducible assumption) | omega | (simp only [uI_1, uL_1, th_1, uI_R, uL_R]; with_reducible assumption)) only [e_132, b_132_0, ↓c_isSide', ↓c_isDay', ↓c_isHour', ↓c_within', ↓reduceIte, i10, av_cI_r, av_cL_r, av_cV_r, Option.bind_some, ↓zb_0, ↓zb_1, ↓zb_b, bI_0, tI_0, tI_99, q1, q2, q3, q4, Bool.true_eq_false, if_false]
  simp only [lit_24, lit_8, pk_mul, nI_add]
  simp (disch := first | ((repeat (first | with_reducible apply WF_uI | with_reducible apply WF_uL | with_reducible apply WF_th)); with_reducible assumption) | omega | (simp only [uI_1, uL_1, th_1, uI_R, uL_R]; with_reducible assumption)) only [↓gR_0_1, ↓ld_2, ↓st_2, ↓ln_2, ↓reduceIte, i10, av_cI_r, av_cL_r, av_cV_r, Option.bind_some, ↓zb_0, ↓zb_1, ↓zb_b, windW]
theorem R_wind0 (w : WF h) (s e k v : Int32) (ok : okW s e k v = false) : ev X (d + 3) 267 [vr (some 137), vi s, vi e, vi k, vi v] h = av_rI 0 (th h) := by
  simp (disch := first | ((repeat (first | with_reducible apply WF_uI | with_reducible apply WF_uL | with_reducible apply WF_th)); with_reducible assumption) | omega | (simp only [uI_1, uL_1, th_1, uI_R, uL_R]; with_reducible assumption)) only [e_267, b_267_0, ↓pI_137, th_e, ↓s_isSide', ↓s_isDay', ↓s_isHour', ↓s_within', ↓reduceIte, i10, av_cI_r, av_cL_r, av_cV_r, Option.bind_some, ↓zb_0, ↓zb_1, ↓zb_b, bI_0, tI_0, tI_99]
  cases q1 : rg s 0 3 <;> cases q2 : rg e 0 99 <;> cases q3 : rg k 0 23 <;> cases q4 : rg v 0 99 <;> simp only [if_true, if_false, Bool.true_eq_false]
  simp [okW, q1, q2, q3, q4] at ok
theorem R_wind1 (w : WF h) {s e k v : Nat} (hs : s < 4) (he : e < 100) (hk : k < 24) (ok : okW (nI s) (nI e) (nI k) (nI v) = true) : ev X (d + 3) 267 [vr (some 137), vi (nI s), vi (nI e), vi (nI k), vi (nI v)] h = av_rI 1 (av_uI (th h) 154 ((100 * s + e) * 24 + k) (nI v)) := by
  simp only [okW, Bool.and_eq_true] at ok
  obtain ⟨⟨⟨q1, q2⟩, q3⟩, q4⟩ := ok
  simp (disch := first | ((repeat (first | with_reducible apply WF_uI | with_reducible apply WF_uL | with_reducible apply WF_th)); with_reducible assumption) | omega | (simp only [uI_1, uL_1, th_1, uI_R, uL_R]; with_reducible assumption)) only [e_267, b_267_0, ↓pI_137, th_e, ↓s_isSide', ↓s_isDay', ↓s_isHour', ↓s_within', ↓reduceIte, i10, av_cI_r, av_cL_r, av_cV_r, Option.bind_some, ↓zb_0, ↓zb_1, ↓zb_b, bI_0, tI_0, tI_99, q1, q2, q3, q4, Bool.true_eq_false, if_false]
  simp only [lit_100, lit_24, pk_mul, nI_add]
  simp (disch := first | ((repeat (first | with_reducible apply WF_uI | with_reducible apply WF_uL | with_reducible apply WF_th)); with_reducible assumption) | omega | (simp only [uI_1, uL_1, th_1, uI_R, uL_R]; with_reducible assumption)) only [↓pI_137, ↓gR_137_22, ↓ld_154, ↓st_154, ↓ln_154, ↓reduceIte, i10, av_cI_r, av_cL_r, av_cV_r, Option.bind_some, ↓zb_0, ↓zb_1, ↓zb_b]
theorem wind_ok (w : WF h) (J : J_wi h) (s e k v : Int32) : ∃ z h1 h2, ev X (d + 3) 132 [vr (some 0), vi s, vi e, vi k, vi v] h = av_rI z h1 ∧ ev X (d + 3) 267 [vr (some 137), vi s, vi e, vi k, vi v] h1 = av_rI z h2 ∧ WF h2 ∧ J_wi h2 ∧ off false [2, 154] [(137, 0)] h h2 := by
  cases ok : okW s e k v with
  | false => exact ⟨0, h, th h, C_wind0 w s e k v ok, R_wind0 w s e k v ok, w, J.fr (agr.uI rfl agr.rfl), agr.uI rfl agr.rfl⟩
  | true =>
    obtain ⟨⟨⟨q1, q2⟩, q3⟩, q4⟩ : ((rg s 0 3 = true ∧ rg e 0 99 = true) ∧ rg k 0 23 = true) ∧ rg v 0 99 = true := by simpa only [okW, Bool.and_eq_true] using ok
    obtain ⟨s, hs, rfl⟩ := rg_nI (b := 3) (by decide) q1
    obtain ⟨e, he, rfl⟩ := rg_nI (b := 99) (by decide) q2
    obtain ⟨k, hk, rfl⟩ := rg_nI (b := 23) (by decide) q3
    obtain ⟨v, hv, rfl⟩ := rg_nI (b := 99) (by decide) q4
    refine ⟨1, _, _, C_wind1 w (by omega) (by omega) (by omega) ok, R_wind1 (h := av_uI h 2 (e * 24 + k) (windW (h.2.1 2 (e * 24 + k)) s v)) w (by omega) (by omega) (by omega) ok, w, fun s' hs' e' he' k' hk' => ?_, agr.uI rfl (agr.uI rfl (agr.uI rfl agr.rfl))⟩
    obtain ⟨n, n1, n2, n3⟩ := J s' hs' e' he' k' hk'
    by_cases z : e' * 24 + k' = e * 24 + k
    · obtain ⟨rfl, rfl⟩ : e' = e ∧ k' = k := by omega
      by_cases z2 : s' = s
      · subst z2
        refine ⟨v, by omega, uI_eq, ?_⟩
        simp (disch := omega) only [th, uI_ne, uI_eq]
        rw [windW_get hs' hs' (by omega), if_pos rfl]
      · refine ⟨n, n1, ?_, ?_⟩
        · rw [uI_nk (by omega)]
          simp (disch := omega) only [th, uI_ne]
          exact n2
        · simp (disch := omega) only [th, uI_ne, uI_eq]
          rw [windW_get (by omega) hs' (by omega), if_neg z2]
          exact n3
    · refine ⟨n, n1, ?_, ?_⟩
      · rw [uI_nk (by omega)]
        simp (disch := omega) only [th, uI_ne]
        exact n2
      · simp (disch := omega) only [th, uI_ne, uI_nk]
        exact n3
end
