/-! the reader: tokens, and the small steps on both sides -/
/-- a joint of level l -/
def jtB (l t : Nat) : Bool := if l = 0 then decide (t = 10009) || decide (t = 10010) else if l = 1 then decide (t = 20060) || decide (t = 20061) else if l = 2 then decide (t = 20043) || decide (t = 20045) else decide (t = 20042)
/-- the class's number of the reference's word w -/
def wcN (w : Nat) : Nat := if w < 7 then 10000 + w else if w < 22 then 10001 + w else 10007
/-- a token, and how the reference keeps it -/
def tkR (wd : Nat → Int64) (t : Nat) (s : Int32) (v : Int64) : Prop := (∀ w, w < 23 → ((s = 1 ∧ v = wd w) ↔ t = wcN w)) ∧ (∀ c, c < 127 → ((s = 3 ∧ v = (nI c).toInt64) ↔ t = 20000 + c)) ∧ (s = 2 ↔ t < 10000) ∧ (t < 10000 → v = (nI t).toInt64) ∧ (s = 0 ↔ t = 30001)
def TK (T P : Nat → Nat) (n : Nat) : Prop := n ≤ 1000 ∧ T n = 30001 ∧ (∀ i, i < n → T i ≤ 30000) ∧ ∀ i, i ≤ n → P i ≤ 1000
def TC (T P : Nat → Nat) (n : Nat) (h : av_H) : Prop := h.2.1 37 5 = nI n ∧ ∀ i, i ≤ n → h.2.1 39 i = nI (T i) ∧ h.2.1 40 i = nI (P i)
def TR (T P : Nat → Nat) (n : Nat) (h : av_H) : Prop := ∀ i, i ≤ n → tkR (h.2.2.1 142) (T i) (h.2.1 139 i) (h.2.2.1 141 i) ∧ h.2.1 140 i = nI (P i)
/-- what a reading of an E leaves as it is -/
def cF (R a k : Nat) : Bool := !((a == 37 && (k == 6 || k == 7 || k == 8)) || (a == R && k == 9) || a == R + 1)
theorem TK.le {T P : Nat → Nat} {n i : Nat} (K : TK T P n) (hi : i ≤ n) : T i ≤ 30001 := by
  by_cases z : i = n
  · rw [z, K.2.1]; omega
  · have := K.2.2.1 i (by omega)
    omega
theorem TK.lt {T P : Nat → Nat} {n i : Nat} (K : TK T P n) (hi : i ≤ n) (z : T i ≠ 30001) : i < n := by
  rcases Nat.lt_or_eq_of_le hi with y | y
  · exact y
  · rw [y] at z
    exact absurd K.2.1 z
def CS (T : Nat → Nat) (R : Nat) (h0 h : av_H) (a len : Nat) : Prop := WF h ∧ agr (cF R) h0 h ∧ h.2.1 37 6 = nI a ∧ h.2.1 37 7 = nI (T a) ∧ h.2.1 37 8 = 0 ∧ h.2.1 R 9 = nI len
def CB (R : Nat) (h0 h : av_H) (F : Nat) : Prop := WF h ∧ agr (cF R) h0 h ∧ h.2.1 37 8 = nI F ∧ ∃ l, l ≤ 1000 ∧ h.2.1 R 9 = nI l
section
variable {X : av_X} {d : Nat} {h h0 : av_H} {T P : Nat → Nat} {n R a len : Nat}
theorem TC.fr {h h' : av_H} (hR : R = 67 ∨ R = 72) (C : TC T P n h) (A : agr (cF R) h h') : TC T P n h' := by
  rcases hR with rfl | rfl
  · exact ⟨(A.I rfl).trans C.1, fun i hi => ⟨(A.I rfl).trans (C.2 i hi).1, (A.I rfl).trans (C.2 i hi).2⟩⟩
  · exact ⟨(A.I rfl).trans C.1, fun i hi => ⟨(A.I rfl).trans (C.2 i hi).1, (A.I rfl).trans (C.2 i hi).2⟩⟩
theorem is_Rg {α : Type} (hR : R = 67 ∨ R = 72) (w : WF h) (A B : α) : (if av_is h (some R) 6 = true then A else B) = A := by
  rcases hR with rfl | rfl
  · exact is_67 w A B
  · exact is_72 w A B
theorem cF_37 {k : Nat} (hk : k = 6 ∨ k = 7 ∨ k = 8) : cF R 37 k = false := by
  rcases hk with rfl | rfl | rfl <;> rfl
theorem cF_9 : cF R R 9 = false := by simp [cF]
theorem cF_s {k : Nat} : cF R (R + 1) k = false := by simp [cF]
theorem c_tkT (hR : R = 67 ∨ R = 72) (K : TK T P n) (C : TC T P n h0) (S : CS T R h0 h a len) (ha : a < n) : ∃ h', ev X (d + 1) 77 [vr (some 37)] h = av_rV h' ∧ CS T R h0 h' (a + 1) len ∧ h'.2.1 (R + 1) = h.2.1 (R + 1) := by
  obtain ⟨w, A, s1, s2, s3, s4⟩ := S
  have C' := C.fr hR A
  have k := K.1
  have w1 : WF (av_uI h 37 6 (nI (a + 1))) := WF_uI w
  refine ⟨av_uI (av_uI h 37 6 (nI (a + 1))) 37 7 (nI (T (a + 1))), ?_, ⟨WF_uI w1, agr.uI (cF_37 (by omega)) (agr.uI (cF_37 (by omega)) A), ?_, uI_eq, ?_, ?_⟩, ?_⟩
  · rw [e_77, b_77_0, gI_37_6 w, s1, gI_37_5 w, C'.1, if_pos (nI_lt ha (by omega)), gI_37_6 w, s1, nI_1, pI_37 w, gR_37_2 w1, gI_37_6 w1, uI_eq, ld_39 w1 (by omega), uI_ne (by decide), (C'.2 (a + 1) (by omega)).1, pI_37 w1]
  · rw [uI_nk (by decide), uI_eq]
  · rw [uI_nk (by decide), uI_nk (by decide)]
    exact s3
  · rw [uI_ne (by omega), uI_ne (by omega)]
    exact s4
  · rw [uI_ne (by omega), uI_ne (by omega)]
theorem c_rfs (hR : R = 67 ∨ R = 72) (K : TK T P n) (C : TC T P n h0) (S : CS T R h0 h a len) (ha : a ≤ n) (hl : len ≤ 1000) {k : Nat} : ∃ h', ev X (d + 1) 80 [vr (some 37), vi (nI k)] h = av_rI (bI false) h' ∧ CB R h0 h' (k + 16 * P a) := by
  obtain ⟨w, A, s1, s2, s3, s4⟩ := S
  have C' := C.fr hR A
  have kk := K.1
  refine ⟨av_uI h 37 8 (nI (k + 16 * P a)), ?_, ⟨WF_uI w, agr.uI (cF_37 (by omega)) A, uI_eq, len, hl, ?_⟩⟩
  · rw [e_80, b_80_0, gR_37_3 w, gI_37_6 w, s1, ld_40 w (by omega), (C'.2 a ha).2, show (16 : Int32) = nI 16 from rfl, pk_mul, nI_add, pI_37 w, zb_0]
    rfl
  · rw [uI_ne (by omega)]
    exact s4
theorem c_isN (K : TK T P n) (S : CS T R h0 h a len) (ha : a ≤ n) : ev X (d + 1) 78 [vr (some 37)] h = av_rI (bI (decide (T a < 10000))) h := by
  obtain ⟨w, A, s1, s2, s3, s4⟩ := S
  have t := K.le ha
  rw [e_78, b_78_0, gI_37_7 w, s2]
  by_cases z : T a < 10000
  · rw [if_pos (show nI (T a) < 10000 from nI_lt (b := 10000) z (by omega)), zb_1, decide_eq_true z]
    rfl
  · rw [if_neg (show ¬ nI (T a) < 10000 from nI_nlt (b := 10000) (by omega) (by omega)), zb_0, decide_eq_false z]
    rfl
theorem c_isFa (K : TK T P n) (S : CS T R h0 h a len) (ha : a ≤ n) : ev X (d + 1) 79 [vr (some 37)] h = av_rI (bI (decide (10012 ≤ T a ∧ T a < 20000))) h := by
  obtain ⟨w, A, s1, s2, s3, s4⟩ := S
  have t := K.le ha
  rw [e_79, b_79_0, gI_37_7 w, s2]
  by_cases z : T a < 10012
  · rw [if_pos (show nI (T a) < 10012 from nI_lt (b := 10012) z (by omega)), zb_0, decide_eq_false (by omega)]
    rfl
  · rw [if_neg (show ¬ nI (T a) < 10012 from nI_nlt (b := 10012) (by omega) (by omega)), gI_37_7 w, s2]
    by_cases y : T a < 20000
    · rw [if_pos (show nI (T a) < 20000 from nI_lt (b := 20000) y (by omega)), zb_1, decide_eq_true (by omega)]
      rfl
    · rw [if_neg (show ¬ nI (T a) < 20000 from nI_nlt (b := 20000) (by omega) (by omega)), zb_0, decide_eq_false (by omega)]
      rfl
theorem c_pass (hR : R = 67 ∨ R = 72) (K : TK T P n) (C : TC T P n h0) (S : CS T R h0 h a len) (ha : a ≤ n) (hl : len ≤ 1000) {t : Nat} (ht : t ≤ 30000) : (T a = t → ∃ h', ev X (d + 2) 81 [vr (some 37), vi (nI t)] h = av_rI (bI true) h' ∧ CS T R h0 h' (a + 1) len ∧ h'.2.1 (R + 1) = h.2.1 (R + 1)) ∧ (T a ≠ t → ∃ h', ev X (d + 2) 81 [vr (some 37), vi (nI t)] h = av_rI (bI false) h' ∧ CB R h0 h' (1 + 16 * P a)) := by
  have tl := K.le ha
  obtain ⟨w, A, s1, s2, s3, s4⟩ := id S
  refine ⟨fun z => ?_, fun z => ?_⟩
  · obtain ⟨h', e, S', o⟩ := c_tkT (X := X) (d := d) hR K C S (K.lt ha (by omega))
    refine ⟨h', ?_, S', o⟩
    rw [e_81, b_81_0, gI_37_7 w, s2, if_pos (congrArg nI z), is_37 w, e, av_cV_r, Option.bind_some, zb_1]
    rfl
  · obtain ⟨h', e, B⟩ := c_rfs (X := X) (d := d) hR K C S ha hl (k := 1)
    refine ⟨h', ?_, B⟩
    rw [e_81, b_81_0, gI_37_7 w, s2, if_neg (fun q => z ((nI_eq (by omega) (by omega)).mp q)), is_37 w, show (1 : Int32) = nI 1 from rfl, e, av_cI_r, Option.bind_some, zb_b]
theorem nI_dec {x y : Nat} (hx : x < 2147483648) (hy : y < 2147483648) : (nI x = nI y) = (x = y) := propext (nI_eq hx hy)
theorem c_joint (K : TK T P n) (S : CS T R h0 h a len) (ha : a ≤ n) {l : Nat} (hl : l ≤ 3) : ev X (d + 1) 92 [vr (some 37), vi (nI l)] h = av_rI (bI (jtB l (T a))) h := by
  obtain ⟨w, A, s1, s2, s3, s4⟩ := S
  have t := K.le ha
  have q : ∀ y, y ≤ 30000 → (nI (T a) = nI y) = (T a = y) := fun y hy => nI_dec (by omega) (by omega)
  have two : ∀ x y, x ≤ 30000 → y ≤ 30000 → (if nI (T a) = nI x then (av_bz 1).bind fun w => av_rI w h else (av_gI h (some 37) 5 7).bind fun x2 => if x2 = nI y then (av_bz 1).bind fun w => av_rI w h else (av_bz 0).bind fun w => av_rI w h) = av_rI (bI (decide (T a = x) || decide (T a = y))) h := fun x y hx hy => by
    rw [gI_37_7 w, s2]
    by_cases z : T a = x
    · rw [if_pos (congrArg nI z), decide_eq_true z, Bool.true_or]
      rfl
    · rw [if_neg (fun u => z ((nI_eq (by omega) (by omega)).mp u)), decide_eq_false z, Bool.false_or]
      by_cases z2 : T a = y
      · rw [if_pos (congrArg nI z2), decide_eq_true z2]
        rfl
      · rw [if_neg (fun u => z2 ((nI_eq (by omega) (by omega)).mp u)), decide_eq_false z2]
        rfl
  rw [e_92, b_92_0]
  by_cases l0 : l = 0
  · rw [l0, if_pos (show nI 0 = 0 from rfl), gI_37_7 w, s2]
    exact two 10009 10010 (by omega) (by omega)
  · rw [if_neg (show ¬ nI l = 0 from fun u => l0 ((nI_eq (b := 0) (by omega) (by omega)).mp u))]
    by_cases l1 : l = 1
    · rw [l1, if_pos (show nI 1 = 1 from rfl), gI_37_7 w, s2]
      exact two 20060 20061 (by omega) (by omega)
    · rw [if_neg (show ¬ nI l = 1 from fun u => l1 ((nI_eq (b := 1) (by omega) (by omega)).mp u))]
      by_cases l2 : l = 2
      · rw [l2, if_pos (show nI 2 = 2 from rfl), gI_37_7 w, s2]
        exact two 20043 20045 (by omega) (by omega)
      · rw [if_neg (show ¬ nI l = 2 from fun u => l2 ((nI_eq (b := 2) (by omega) (by omega)).mp u)), gI_37_7 w, s2, jtB, if_neg l0, if_neg l1, if_neg l2]
        by_cases z : T a = 20042
        · rw [if_pos (show nI (T a) = 20042 from congrArg nI z), decide_eq_true z]
          rfl
        · rw [if_neg (show ¬ nI (T a) = 20042 from fun u => z ((nI_eq (b := 20042) (by omega) (by omega)).mp u)), decide_eq_false z]
          rfl
theorem c_addg (hR : R = 67 ∨ R = 72) (S : CS T R h0 h a len) (hl : len < 1000) {v : Nat} : ∃ h', ev X (d + 1) 98 [vr (some R), vi (nI v)] h = av_rV h' ∧ CS T R h0 h' a (len + 1) ∧ h'.2.1 (R + 1) len = nI v ∧ ∀ j, j ≠ len → h'.2.1 (R + 1) j = h.2.1 (R + 1) j := by
  obtain ⟨w, A, s1, s2, s3, s4⟩ := S
  have w1 : WF (av_uI h (R + 1) len (nI v)) := WF_uI w
  refine ⟨av_uI (av_uI h (R + 1) len (nI v)) R 9 (nI (len + 1)), ?_, ⟨WF_uI w1, agr.uI cF_9 (agr.uI cF_s A), ?_, ?_, ?_, uI_eq⟩, ?_, fun j hj => ?_⟩
  · rcases hR with rfl | rfl
    · rw [e_98, b_98_0, gI_67_9 w, s4, gR_67_5 w, ln_68 w, if_pos (nI_lt hl (by omega)), gR_67_5 w, gI_67_9 w, s4, st_68 w hl, gI_67_9 w1, uI_ne (by decide), s4, nI_1, pI_67 w1]
    · rw [e_98, b_98_0, gI_72_9 w, s4, gR_72_5 w, ln_73 w, if_pos (nI_lt hl (by omega)), gR_72_5 w, gI_72_9 w, s4, st_73 w hl, gI_72_9 w1, uI_ne (by decide), s4, nI_1, pI_72 w1]
  · rw [uI_ne (by omega), uI_ne (by omega)]
    exact s1
  · rw [uI_ne (by omega), uI_ne (by omega)]
    exact s2
  · rw [uI_ne (by omega), uI_ne (by omega)]
    exact s3
  · rw [uI_ne (by omega), uI_eq]
  · rw [uI_ne (by omega), uI_nk hj]
theorem c_addb (hR : R = 67 ∨ R = 72) {F : Nat} (S : CB R h0 h F) {v : Nat} : ∃ h', ev X (d + 1) 98 [vr (some R), vi (nI v)] h = av_rV h' ∧ CB R h0 h' F := by
  obtain ⟨w, A, s1, l, l1, s2⟩ := S
  by_cases hl : l < 1000
  · have w1 : WF (av_uI h (R + 1) l (nI v)) := WF_uI w
    refine ⟨av_uI (av_uI h (R + 1) l (nI v)) R 9 (nI (l + 1)), ?_, ⟨WF_uI w1, agr.uI cF_9 (agr.uI cF_s A), ?_, l + 1, by omega, uI_eq⟩⟩
    · rcases hR with rfl | rfl
      · rw [e_98, b_98_0, gI_67_9 w, s2, gR_67_5 w, ln_68 w, if_pos (nI_lt hl (by omega)), gR_67_5 w, gI_67_9 w, s2, st_68 w hl, gI_67_9 w1, uI_ne (by decide), s2, nI_1, pI_67 w1]
      · rw [e_98, b_98_0, gI_72_9 w, s2, gR_72_5 w, ln_73 w, if_pos (nI_lt hl (by omega)), gR_72_5 w, gI_72_9 w, s2, st_73 w hl, gI_72_9 w1, uI_ne (by decide), s2, nI_1, pI_72 w1]
    · rw [uI_ne (by omega), uI_ne (by omega)]
      exact s1
  · refine ⟨h, ?_, w, A, s1, l, l1, s2⟩
    rcases hR with rfl | rfl
    · rw [e_98, b_98_0, gI_67_9 w, s2, gR_67_5 w, ln_68 w, if_neg (nI_nlt (by omega) (by omega))]
    · rw [e_98, b_98_0, gI_72_9 w, s2, gR_72_5 w, ln_73 w, if_neg (nI_nlt (by omega) (by omega))]
end
