/-! the reader: the class cuts -/
/-- the class's tape -/
def tpC (b : Nat → Nat) (N : Nat) (h : av_H) : Prop := h.2.1 37 0 = nI N ∧ ∀ i, i < N → h.2.1 38 i = nI (b i)
def gdT (b : Nat → Nat) (N : Nat) : Prop := N ≤ 1000 ∧ ∀ i, i < N → b i < 127
/-- what the class's cutting leaves -/
def cT (a k : Nat) : Bool := !((a == 37 && (k == 4 || k == 5)) || a == 39 || a == 40)
theorem tpC.fr {b : Nat → Nat} {N : Nat} {h h' : av_H} (C : tpC b N h) (A : agr cT h h') : tpC b N h' := ⟨(A.I rfl).trans C.1, fun i hi => (A.I rfl).trans (C.2 i hi)⟩
def tx0 : List Int32 := (av_tx[0]?).getD []
def tx1 : List Int32 := (av_tx[1]?).getD []
theorem tx_0 : ∀ J, J < 12 → ∀ i, i < 8 → ((av_tx[0]?).getD [])[8 * J + i]? = some (nI (wdC J i)) := by decide +kernel
theorem tx_1 : ∀ J, J < 11 → ∀ i, i < 8 → ((av_tx[1]?).getD [])[8 * J + i]? = some (nI (wdC (12 + J) i)) := by decide +kernel
theorem sg_ix : ∀ x, x < 127 → ((match av_ix (nI x) ((av_tx[2]?).getD []) 0 with | none => (-1 : Int32) | some k => Int32.ofNat k) < 0 ↔ sgB x = false) := by decide +kernel
theorem dv8 : ∀ w, w < 13 → nI (8 * w) / 8 = nI w := by decide +kernel
def alN (p q : Nat → Nat) : Nat → Nat
  | 0 => 0
  | i + 1 => alN p q i + (if p i = q i then 1 else 0)
theorem alN_le {p q : Nat → Nat} : ∀ i, alN p q i ≤ i
  | 0 => Nat.le_refl _
  | i + 1 => by
    have := alN_le (p := p) (q := q) i
    rw [alN]
    split <;> omega
theorem alN_eq {p q : Nat → Nat} : ∀ i, alN p q i = i ↔ ∀ j, j < i → p j = q j
  | 0 => ⟨fun _ j hj => absurd hj (Nat.not_lt_zero j), fun _ => rfl⟩
  | i + 1 => by
    have l := alN_le (p := p) (q := q) i
    rw [alN]
    constructor
    · intro h j hj
      have z : p i = q i := by
        by_cases z : p i = q i
        · exact z
        · rw [if_neg z] at h; omega
      rw [if_pos z] at h
      by_cases y : j = i
      · rw [y]; exact z
      · exact (alN_eq i).mp (by omega) j (by omega)
    · intro h
      rw [if_pos (h i (by omega)), (alN_eq i).mpr (fun j hj => h j (by omega))]
section
variable {X : av_X} {d : Nat} {h : av_H} {b : Nat → Nat} {N : Nat}
theorem e_len (r : Nat) (s : List Int32) (hs : av_st r = some s) : ev X (d + 1) 9001 [vr (some r)] h = av_rI (Int32.ofNat s.length) h := by
  refine (av_ev_sp av_Sg rfl d _ h).trans ?_
  show (av_st r).bind _ = _
  rw [hs]
  rfl
theorem e_at (r : Nat) (s : List Int32) (hs : av_st r = some s) {i : Nat} (hi : i < 1000) {v : Int32} (hv : s[i]? = some v) : ev X (d + 1) 9002 [vr (some r), vi (nI i)] h = av_rI v h := by
  refine (av_ev_sp av_Sg rfl d _ h).trans ?_
  show (av_st r).bind _ = _
  rw [hs, Option.bind_some, if_neg (nI_pos (by omega)), show (nI i).toNatClampNeg = i by rw [Int32.toNatClampNeg, toI_nI (by omega)]; rfl, hv]
  rfl
theorem e_ix (r : Nat) (s : List Int32) (hs : av_st r = some s) {v : Int32} : ev X (d + 1) 9003 [vr (some r), vi v] h = av_rI (match av_ix v s 0 with | none => -1 | some k => Int32.ofNat k) h := by
  refine (av_ev_sp av_Sg rfl d _ h).trans ?_
  show (av_st r).bind _ = _
  rw [hs]
  rfl
theorem c_nxt (w : WF h) (C : tpC b N h) (G : gdT b N) {k lo hi : Nat} (hk : k ≤ N) (e4 : h.2.1 37 4 = nI k) (hl : lo < 127) (hh : hi < 127) : ev X (d + 1) 73 [vr (some 37), vi (nI lo), vi (nI hi)] h = av_rI (bI (decide (k < N ∧ lo ≤ b k ∧ b k ≤ hi))) h := by
  have n1 := G.1
  rw [e_73, b_73_0, gI_37_4 w, e4, gI_37_0 w, C.1]
  by_cases z : k < N
  · have bk := G.2 k z
    rw [if_pos (nI_lt z (by omega)), gI_37_4 w, e4, if_pos (show nI k < 1000 from nI_lt (b := 1000) (by omega) (by omega)), gR_37_1 w, gI_37_4 w, e4, ld_38 w (by omega), C.2 k z]
    by_cases z1 : b k < lo
    · rw [if_pos (nI_lt z1 (by omega)), zb_0, decide_eq_false (by omega)]
      rfl
    · rw [if_neg (nI_nlt (by omega) (by omega)), gR_37_1 w, gI_37_4 w, e4, ld_38 w (by omega), C.2 k z]
      by_cases z2 : hi < b k
      · rw [if_pos (nI_lt z2 (by omega)), zb_0, decide_eq_false (by omega)]
        rfl
      · rw [if_neg (nI_nlt (by omega) (by omega)), zb_1, decide_eq_true (by omega)]
        rfl
  · rw [if_neg (nI_nlt (by omega) (by omega)), zb_0, decide_eq_false (by omega)]
    rfl
theorem c_ltN {k : Nat} : decide (k < N ∧ 97 ≤ b k ∧ b k ≤ 122) = (decide (k < N) && lzB (b k)) := by
  by_cases z : k < N
  · rw [decide_eq_true z, Bool.true_and, lzB]
    exact decide_eq_decide.mpr ⟨fun q => q.2, fun q => ⟨z, q⟩⟩
  · rw [decide_eq_false (fun q => z q.1), decide_eq_false z, Bool.false_and]
theorem c_dgN {k : Nat} : decide (k < N ∧ 48 ≤ b k ∧ b k ≤ 57) = (decide (k < N) && dgB (b k)) := by
  by_cases z : k < N
  · rw [decide_eq_true z, Bool.true_and, dgB]
    exact decide_eq_decide.mpr ⟨fun q => q.2, fun q => ⟨z, q⟩⟩
  · rw [decide_eq_false (fun q => z q.1), decide_eq_false z, Bool.false_and]
/-- signs alike with a word -/
theorem c_wI12 (w : WF h) (C : tpC b N h) (G : gdT b N) {k m r J w8 : Nat} {s : List Int32} (hs : av_st r = some s) (hw : w8 < 13) (hm : m ≤ 8) (hk : k + m ≤ N) (e4 : h.2.1 37 4 = nI (k + m)) (hJ : ∀ i, i < 8 → s[8 * w8 + i]? = some (nI (wdC J i)) ∧ wdC J i < 127) : ∀ q i, i + q = 8 → bd X (d + 1) 75 12 [(0, vr (some 37)), (1, vr (some r)), (2, vi (nI k)), (3, vi (nI (8 * w8))), (4, vi (nI (alN (padB b k m) (wdC J) i))), (5, vi (nI i))] [] h = if alN (padB b k m) (wdC J) 8 = 8 then av_rI (nI w8) h else bd X (d + 1) 75 2 [(0, vr (some 37)), (1, vr (some r)), (2, vi (nI k)), (3, vi (nI (8 * (w8 + 1))))] [] h
  | 0, i, hi => by
    obtain rfl : i = 8 := by omega
    have al := alN_le (p := padB b k m) (q := wdC J) 8
    rw [b_75_12, if_neg (show ¬ nI 8 < 8 by decide)]
    by_cases z : alN (padB b k m) (wdC J) 8 = 8
    · rw [if_pos z, if_pos (show nI (alN (padB b k m) (wdC J) 8) = 8 by rw [z]; rfl), if_neg (show ¬ (8 : Int32) = 0 by decide), dv8 w8 hw]
    · rw [if_neg z, if_neg (show ¬ nI (alN (padB b k m) (wdC J) 8) = 8 from fun q => z ((nI_eq (b := 8) (by omega) (by omega)).mp q)), show (8 : Int32) = nI 8 from rfl, nI_add, show 8 * w8 + 8 = 8 * (w8 + 1) by omega]
  | q + 1, i, hi => by
    have ih := c_wI12 w C G hs hw hm hk e4 hJ q (i + 1) (by omega)
    have n1 := G.1
    obtain ⟨j1, j2⟩ := hJ i (by omega)
    have st : ∀ x, x < 127 → x = padB b k m i → bd X (d + 1) 75 34 [(0, vr (some 37)), (1, vr (some r)), (2, vi (nI k)), (3, vi (nI (8 * w8))), (4, vi (nI (alN (padB b k m) (wdC J) i))), (5, vi (nI i))] [vi (nI x)] h = bd X (d + 1) 75 12 [(0, vr (some 37)), (1, vr (some r)), (2, vi (nI k)), (3, vi (nI (8 * w8))), (4, vi (nI (alN (padB b k m) (wdC J) (i + 1)))), (5, vi (nI (i + 1)))] [] h := fun x hx e => by
      rw [b_75_34, nI_add, e_at r s hs (by omega) j1, av_cI_r, Option.bind_some, alN, ← e]
      dsimp only
      by_cases z : x = wdC J i
      · rw [if_pos (congrArg nI z), if_pos z, nI_1, nI_1]
      · rw [if_neg (fun u => z ((nI_eq (by omega) (by omega)).mp u)), if_neg z, nI_1, show (0 : Int32) = nI 0 from rfl, nI_add]
    rw [← ih, b_75_12, if_pos (show nI i < 8 from nI_lt (b := 8) (by omega) (by omega)), gI_37_4 w, e4, nI_add]
    by_cases z : i < m
    · have bk := G.2 (k + i) (by omega)
      rw [if_pos (nI_lt (by omega) (by omega)), if_pos (show nI (k + i) < 1000 from nI_lt (b := 1000) (by omega) (by omega)), gR_37_1 w, ld_38 w (by omega), C.2 (k + i) (by omega)]
      exact st _ bk (by rw [padB, if_pos z])
    · rw [if_neg (nI_nlt (by omega) (by omega)), b_75_33]
      exact st 32 (by omega) (by rw [padB, if_neg z])
/-- the first word alike -/
theorem c_wI2 (w : WF h) (C : tpC b N h) (G : gdT b N) {k m r o cn : Nat} {s : List Int32} (hs : av_st r = some s) (hl : s.length = 8 * cn) (hcn : cn ≤ 12) (ho : o + cn ≤ 23) (hm : m ≤ 8) (hk : k + m ≤ N) (hlt : ∀ i, i < m → 97 ≤ b (k + i) ∧ b (k + i) ≤ 122) (e4 : h.2.1 37 4 = nI (k + m)) (hJ : ∀ J, J < cn → ∀ i, i < 8 → s[8 * J + i]? = some (nI (wdC (o + J) i))) : ∀ q w8, w8 + q = cn → bd X (d + 1) 75 2 [(0, vr (some 37)), (1, vr (some r)), (2, vi (nI k)), (3, vi (nI (8 * w8)))] [] h = av_rI (match fdN (wdM b k m) q (o + w8) with | some J => nI (J - o) | none => -1) h
  | 0, w8, hw => by
    rw [b_75_2, e_len r s hs, av_cI_r, Option.bind_some]
    dsimp only
    rw [hl, show (8 : Int32) = nI 8 from rfl, nI_add, if_pos (show Int32.ofNat (8 * cn) < nI (8 * w8 + 8) from nI_lt (by omega) (by omega)), fdN]
  | q + 1, w8, hw => by
    have ih := c_wI2 w C G hs hl hcn ho hm hk hlt e4 hJ q (w8 + 1) (by omega)
    have wk : ∀ i, i < 8 → wdC (o + w8) i < 127 := fun i hi => by
      obtain ⟨_, w2⟩ := wd_ok (o + w8) (by omega)
      have := w2 i hi
      omega
    have I := c_wI12 (X := X) (d := d) (J := o + w8) w C G hs (show w8 < 13 by omega) hm hk e4 (fun i hi => ⟨hJ w8 (by omega) i hi, wk i hi⟩) 8 0 (by omega)
    rw [b_75_2, e_len r s hs, av_cI_r, Option.bind_some]
    dsimp only
    rw [hl, show (8 : Int32) = nI 8 from rfl, nI_add, if_neg (show ¬ Int32.ofNat (8 * cn) < nI (8 * w8 + 8) from nI_nlt (by omega) (by omega))]
    have I' := I
    rw [show alN (padB b k m) (wdC (o + w8)) 0 = 0 from rfl] at I'
    rw [show (0 : Int32) = nI 0 from rfl, I', fdN]
    have pi := pad_iff (b := b) (k := k) (J := o + w8) (by omega) hm hlt
    by_cases z : wdM b k m (o + w8) = true
    · rw [if_pos ((alN_eq 8).mpr (pi.mpr z)), if_pos z]
      dsimp only
      rw [Nat.add_sub_cancel_left]
    · rw [if_neg (fun u => z (pi.mp ((alN_eq 8).mp u))), if_neg z, ih, Nat.add_assoc]
theorem c_word (w : WF h) (C : tpC b N h) (G : gdT b N) {k m : Nat} (hk : k + m ≤ N) (hlt : ∀ i, i < m → 97 ≤ b (k + i) ∧ b (k + i) ≤ 122) (e4 : h.2.1 37 4 = nI (k + m)) : bd X (d + 2) 74 21 [(0, vr (some 37)), (1, vi (nI k))] [] h = av_rI (nI (wTok b k m)) h := by
  have n1 := G.1
  rw [b_74_21, gI_37_4 w, e4, pk_sub (by omega), Nat.add_sub_cancel_left, wTok]
  by_cases z : 8 < m
  · rw [if_pos (show (8 : Int32) < nI m from nI_lt (a := 8) z (by omega)), if_pos z]
    rfl
  · have I0 := c_wI2 (X := X) (d := d) (r := 1000010) (o := 0) (cn := 12) (s := (av_tx[0]?).getD []) w C G rfl rfl (by omega) (by omega) (show m ≤ 8 by omega) hk hlt e4 (fun J hJ i hi => by rw [Nat.zero_add]; exact tx_0 J hJ i hi) 12 0 (by omega)
    have I1 := c_wI2 (X := X) (d := d) (r := 1000011) (o := 12) (cn := 11) (s := (av_tx[1]?).getD []) w C G rfl rfl (by omega) (by omega) (show m ≤ 8 by omega) hk hlt e4 (fun J hJ i hi => tx_1 J hJ i hi) 11 0 (by omega)
    have fs := fdN_split (q := wdM b k m) 12 11 0
    rw [if_neg (show ¬ (8 : Int32) < nI m from nI_nlt (a := 8) (by omega) (by omega)), if_neg z, is_37 w, e_75, b_75_0, show (0 : Int32) = nI (8 * 0) from rfl, I0, av_cI_r, Option.bind_some, fs]
    dsimp only
    cases f0 : fdN (wdM b k m) 12 (0 + 0) with
    | some J =>
      have := fdN_some _ _ _ f0
      dsimp only
      rw [if_neg (show ¬ nI (J - 0) = -1 from fun u => by
        have := congrArg Int32.toInt u
        rw [toI_nI (by omega)] at this
        exact absurd this (by simp only [show (-1 : Int32).toInt = -1 from rfl]; omega)), show (10000 : Int32) = nI 10000 from rfl, nI_add, Nat.sub_zero]
    | none =>
      dsimp only
      rw [if_pos rfl, is_37 w, e_75, b_75_0, show (0 : Int32) = nI (8 * 0) from rfl, I1, av_cI_r, Option.bind_some]
      dsimp only
      cases f1 : fdN (wdM b k m) 11 (12 + 0) with
      | some J =>
        have := fdN_some _ _ _ f1
        dsimp only
        rw [if_neg (show ¬ nI (J - 12) = -1 from fun u => by
          have := congrArg Int32.toInt u
          rw [toI_nI (by omega)] at this
          exact absurd this (by simp only [show (-1 : Int32).toInt = -1 from rfl]; omega)), show (10012 : Int32) = nI 10012 from rfl, nI_add, show 10012 + (J - 12) = 10000 + J by omega]
      | none =>
        dsimp only
        rw [if_pos rfl]
        rfl
end
