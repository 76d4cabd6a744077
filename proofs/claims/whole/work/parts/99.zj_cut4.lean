/-! the reader: the reference cuts -/
def tpR (b : Nat → Nat) (N : Nat) (h : av_H) : Prop := h.2.1 137 3 = nI N ∧ ∀ i, i < N → h.2.1 138 i = nI (b i)
/-- the reference's words -/
def J_wd (h : av_H) : Prop := ∀ w, w < 23 → h.2.2.1 142 w = lN (wdH.getD w 0)
theorem J_wd.fr {h h' : av_H} (J : J_wd h) (A : agr (FP false [142] []) h h') : J_wd h' := fun w hw => (A.L rfl).trans (J w hw)
def offT (h h' : av_H) : Prop := off false [139, 140, 141] [(137, 7), (137, 8)] h h'
theorem tpR.fr {b : Nat → Nat} {N : Nat} {h h' : av_H} (C : tpR b N h) (A : offT h h') : tpR b N h' := by
  have A' : agr (FP false [138] [(137, 3)]) h h' := off.fr A (by decide)
  exact ⟨(A'.I rfl).trans C.1, fun i hi => (A'.I rfl).trans (C.2 i hi)⟩
section
variable {wd : Nat → Int64}
theorem tkR_bad {t : Nat} {v : Int64} (ht : t = 30000) : tkR wd t 4 v := by
  subst ht
  refine ⟨fun w hw => ⟨fun q => absurd q.1 (by decide), fun q => ?_⟩, fun c hc => ⟨fun q => absurd q.1 (by decide), fun q => by omega⟩, ⟨fun q => absurd q (by decide), fun q => by omega⟩, fun q => by omega, ⟨fun q => absurd q (by decide), fun q => by omega⟩⟩
  have := wd_hv w hw
  omega
theorem tkR_end {v : Int64} : tkR wd 30001 0 v := by
  refine ⟨fun w hw => ⟨fun q => absurd q.1 (by decide), fun q => ?_⟩, fun c hc => ⟨fun q => absurd q.1 (by decide), fun q => by omega⟩, ⟨fun q => absurd q (by decide), fun q => by omega⟩, fun q => by omega, ⟨fun _ => rfl, fun _ => rfl⟩⟩
  have := wd_hv w hw
  omega
theorem tkR_num {t : Nat} {v : Int64} (ht : t < 10000) (hv : v = (nI t).toInt64) : tkR wd t 2 v := by
  refine ⟨fun w hw => ⟨fun q => absurd q.1 (by decide), fun q => ?_⟩, fun c hc => ⟨fun q => absurd q.1 (by decide), fun q => by omega⟩, ⟨fun _ => ht, fun _ => rfl⟩, fun _ => hv, ⟨fun q => absurd q (by decide), fun q => by omega⟩⟩
  have := wd_hv w hw
  omega
theorem tkR_sign {x : Nat} (hx : x < 127) : tkR wd (20000 + x) 3 (nI x).toInt64 := by
  refine ⟨fun w hw => ⟨fun q => absurd q.1 (by decide), fun q => ?_⟩, fun c hc => ⟨fun q => ?_, fun q => ⟨rfl, by rw [show x = c by omega]⟩⟩, ⟨fun q => absurd q (by decide), fun q => by omega⟩, fun q => by omega, ⟨fun q => absurd q (by decide), fun q => by omega⟩⟩
  · have := wd_hv w hw
    omega
  · have e := q.2
    rw [nI_l (by omega), nI_l (by omega), lN_eq (by omega) (by omega)] at e
    omega
theorem tkR_word (hw : ∀ w, w < 23 → wd w = lN (wdH.getD w 0)) {b : Nat → Nat} {k m : Nat} (hm : m ≤ 8) (hl : ∀ i, i < m → 97 ≤ b (k + i) ∧ b (k + i) ≤ 122) : tkR wd (wTok b k m) 1 (lN (hvL (rvL b k m))) := by
  have wl := wTok_le (b := b) (k := k) (m := m)
  have hb : hvL (rvL b k m) < 2 ^ 62 := by
    have a := hv_lt m hl
    have h2 : 37 ^ m ≤ 37 ^ 8 := Nat.pow_le_pow_right (by decide) hm
    have h3 : 37 ^ 8 < 2 ^ 62 := by decide
    omega
  have mem := rvL_mem m hl
  have memJ : ∀ J, J < 23 → ∀ x, x ∈ rvL (wdC J) 0 (wdL J) → 1 ≤ x ∧ x ≤ 26 := fun J hJ => by
    obtain ⟨w1, w2⟩ := wd_ok J hJ
    refine rvL_mem _ (fun i hi => ?_)
    rw [Nat.zero_add]
    exact (w2 i (by omega)).1 hi
  refine ⟨fun w hw' => ?_, fun c hc => ⟨fun q => absurd q.1 (by decide), fun q => by omega⟩, ⟨fun q => absurd q (by decide), fun q => by omega⟩, fun q => by omega, ⟨fun q => absurd q (by decide), fun q => by omega⟩⟩
  obtain ⟨v1, v2, v3, v4⟩ := wd_hv w hw'
  have e : (lN (hvL (rvL b k m)) = wd w) ↔ wdM b k m (wcN w - 10000) = true := by
    rw [hw w hw', lN_eq' hb (by omega), ← v1, wdM, decide_eq_true_eq]
    exact ⟨fun q => hv_inj _ _ mem (memJ _ (by omega)) q, fun q => by rw [q]⟩
  constructor
  · intro q
    have qm := e.mp q.2
    unfold wTok
    rw [if_neg (by omega)]
    cases f : fdN (wdM b k m) 23 0 with
    | none => exact absurd qm (fdN_none 23 0 f _ (by omega) (by omega))
    | some J =>
      obtain ⟨_, j2, j3⟩ := fdN_some 23 0 J f
      dsimp only
      rw [wdM, decide_eq_true_eq] at qm j3
      have := wd_ne J (by omega) (wcN w - 10000) (by omega) (j3.symm.trans qm)
      omega
  · intro q
    refine ⟨rfl, e.mpr ?_⟩
    unfold wTok at q
    rw [if_neg (by omega)] at q
    cases f : fdN (wdM b k m) 23 0 with
    | none =>
      rw [f] at q
      dsimp only at q
      omega
    | some J =>
      rw [f] at q
      dsimp only at q
      obtain ⟨_, j2, j3⟩ := fdN_some 23 0 J f
      rw [show wcN w - 10000 = J by omega]
      exact j3
end
theorem sg_ch : ∀ x, x < 127 → (if nI x = 40 then (1 : Int32) else if nI x = 41 then 1 else if nI x = 59 then 1 else if nI x = 61 then 1 else if nI x = 60 then 1 else if nI x = 43 then 1 else if nI x = 45 then 1 else if nI x = 42 then 1 else 0) = bI (sgB x) := by decide +kernel
section
variable {X : av_X} {d : Nat} {b : Nat → Nat} {N : Nat}
theorem s_letter {h : av_H} {x : Nat} (hx : x < 127) : ev X (d + 1) 240 [vi (nI x)] h = av_rI (bI (lzB x)) h := by
  rw [e_240, b_240_0, lzB]
  by_cases z1 : x < 97
  · rw [if_pos (show nI x < 97 from nI_lt (b := 97) z1 (by omega)), zb_0, decide_eq_false (by omega)]
    rfl
  · rw [if_neg (show ¬ nI x < 97 from nI_nlt (b := 97) (by omega) (by omega))]
    by_cases z2 : 122 < x
    · rw [if_pos (show (122 : Int32) < nI x from nI_lt (a := 122) z2 (by omega)), zb_0, decide_eq_false (by omega)]
      rfl
    · rw [if_neg (show ¬ (122 : Int32) < nI x from nI_nlt (a := 122) (by omega) (by omega)), zb_1, decide_eq_true (by omega)]
      rfl
theorem s_dgt {h : av_H} {x : Nat} (hx : x < 127) : ev X (d + 1) 241 [vi (nI x)] h = av_rI (bI (dgB x)) h := by
  rw [e_241, b_241_0, dgB]
  by_cases z1 : x < 48
  · rw [if_pos (show nI x < 48 from nI_lt (b := 48) z1 (by omega)), zb_0, decide_eq_false (by omega)]
    rfl
  · rw [if_neg (show ¬ nI x < 48 from nI_nlt (b := 48) (by omega) (by omega))]
    by_cases z2 : 57 < x
    · rw [if_pos (show (57 : Int32) < nI x from nI_lt (a := 57) z2 (by omega)), zb_0, decide_eq_false (by omega)]
      rfl
    · rw [if_neg (show ¬ (57 : Int32) < nI x from nI_nlt (a := 57) (by omega) (by omega)), zb_1, decide_eq_true (by omega)]
      rfl
theorem s_rank {h : av_H} {x : Nat} (hx : x < 127) (z : lzB x = true) : ev X (d + 2) 242 [vi (nI x)] h = av_rI (nI (x - 96)) h := by
  have zz := lzB_i z
  rw [e_242, b_242_0, s_letter hx, av_cI_r, Option.bind_some, z]
  dsimp only
  rw [if_neg (show ¬ bI true = 0 by decide), show (96 : Int32) = nI 96 from rfl, pk_sub (by omega)]
theorem s_sign {h : av_H} {x : Nat} (hx : x < 127) : ev X (d + 1) 243 [vi (nI x)] h = av_rI (bI (sgB x)) h := by
  have pu : ∀ (c : Prop) [Decidable c] (p q : Int32), av_rI (if c then p else q) h = if c then av_rI p h else av_rI q h := fun c _ p q => by split <;> rfl
  rw [e_243, b_243_0, ← sg_ch x hx, pu, pu, pu, pu, pu, pu, pu, pu]
  rfl
end
