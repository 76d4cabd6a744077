/-! feed -/
theorem nb_255 (n : Nat) : nI n &&& 255 = nI (n % 256) := by
  show nI n &&& nI (2 ^ 8 - 1) = _
  rw [nb_and, Nat.and_two_pow_sub_one_eq_mod]
/-- a byte of a long -/
def byt (x : Int64) (k : Nat) : Nat := x.toBitVec.toNat / 2 ^ k % 256
theorem byt_lt (x : Int64) (k : Nat) : byt x k < 256 := Nat.mod_lt _ (by decide)
theorem lN_of (x : Int64) : x = lN x.toBitVec.toNat := Int64.toBitVec_inj.mp (by rw [lN_tb]; simp)
theorem byt_c (x : Int64) {k : Nat} (hk : k < 64) : (((x.toUInt64 >>> ((nI k).toInt64.toUInt64 &&& Int64.toUInt64 63)).toInt64).toInt32) &&& 255 = nI (byt x k) := by
  conv => lhs; rw [lN_of x]
  rw [sl64 x.toBitVec.isLt hk, lN_t, nb_255, byt]
theorem nbt_255 : ∀ i, i < 32 → nbt 255 i = decide (i < 8) := by decide +kernel
theorem byt_s (x : Int64) {k : Nat} (hk : k ≤ 56) : ((x >>> ((nI k).toInt64 &&& 63)).toInt32) &&& 255 = nI (byt x k) := by
  apply nbt_ext
  intro i hi
  rw [nbt_and, nbt_255 i hi, nbt_nI hi, byt, show (256 : Nat) = 2 ^ 8 from rfl, Nat.testBit_mod_two_pow, Nat.testBit_div_two_pow]
  by_cases z : i < 8
  · rw [decide_eq_true z, Bool.and_true, Bool.true_and]
    have e : (x >>> ((nI k).toInt64 &&& 63)).toBitVec = x.toBitVec.sshiftRight k := by
      rw [Int64.toBitVec_shiftRight]
      show x.toBitVec.sshiftRight (((nI k).toInt64 &&& 63).toBitVec.smod 64).toNat = _
      rw [sar_c k (by omega), sar_s k (by omega)]
    unfold nbt
    rw [Int64.toBitVec_toInt32, e, BitVec.getLsbD_signExtend, if_pos (show i < 64 by omega), BitVec.getLsbD_sshiftRight]
    simp only [hi, decide_true, Bool.true_and, show ¬ 64 ≤ i by omega, decide_false, Bool.not_false, show k + i < 64 by omega, if_true]
    rw [Nat.add_comm i k]
    rfl
  · rw [decide_eq_false z, Bool.and_false, Bool.false_and]
/-- a sign that the tape takes -/
def gdS (b : Nat) : Bool := decide (b = 10) || decide (32 ≤ b ∧ b ≤ 126)
def tpS (st : Nat × (Nat → Int32)) (b : Nat) : Nat × (Nat → Int32) := if gdS b = true ∧ st.1 < 1000 then (st.1 + 1, upd st.2 st.1 (nI b)) else st
def tpL (x : Int64) : Nat → Nat × (Nat → Int32) → Nat × (Nat → Int32)
  | 0, st => st
  | k + 1, st => tpL x k (tpS st (byt x (8 * k)))
/-- a cell, all of it -/
def setC (h : av_H) (a : Nat) (f : Nat → Int32) : av_H := (h.1, va_up h.2.1 a f, h.2.2.1, h.2.2.2)
theorem WF_setC {h : av_H} {a : Nat} {f : Nat → Int32} (w : WF h) : WF (setC h a f) := w
/-- cell a is f, and field k of cell b is v -/
def tpW (h : av_H) (a b k : Nat) (st : Nat × (Nat → Int32)) : av_H := av_uI (setC h a st.2) b k (nI st.1)
theorem tpW_s {h : av_H} {a b k n : Nat} {f : Nat → Int32} {v : Int32} (hab : b ≠ a) : av_uI (av_uI (tpW h a b k (n, f)) a n v) b k (nI (n + 1)) = tpW h a b k (n + 1, upd f n v) := by
  have e : va_up (va_up (va_up (va_up h.2.1 a f) b (upd (va_up h.2.1 a f b) k (nI n))) a (upd (va_up (va_up h.2.1 a f) b (upd (va_up h.2.1 a f b) k (nI n)) a) n v)) b (upd (va_up (va_up (va_up h.2.1 a f) b (upd (va_up h.2.1 a f b) k (nI n))) a (upd (va_up (va_up h.2.1 a f) b (upd (va_up h.2.1 a f b) k (nI n)) a) n v) b) k (nI (n + 1))) = va_up (va_up h.2.1 a (upd f n v)) b (upd (va_up h.2.1 a (upd f n v) b) k (nI (n + 1))) := by
    funext c j
    by_cases e1 : c = b
    · subst e1
      rw [va_up_self, va_up_self, va_up_ne _ _ hab, va_up_self, va_up_ne _ _ hab, va_up_ne _ _ hab]
      by_cases e2 : j = k
      · subst e2
        rw [pk_us, pk_us]
      · rw [pk_un e2, pk_un e2, pk_un e2]
    · rw [va_up_ne _ _ e1, va_up_ne _ _ e1]
      by_cases e2 : c = a
      · subst e2
        rw [va_up_self, va_up_self, va_up_ne _ _ (Ne.symm hab), va_up_self]
      · rw [va_up_ne _ _ e2, va_up_ne _ _ e2, va_up_ne _ _ e1, va_up_ne _ _ e2]
  simp only [tpW, setC, av_uI] at e ⊢
  rw [e]
theorem tpW_0 {h : av_H} {a b k n : Nat} (hab : b ≠ a) (e : h.2.1 b k = nI n) : tpW h a b k (n, h.2.1 a) = h := by
  have e2 : va_up (va_up h.2.1 a (h.2.1 a)) b (upd (va_up h.2.1 a (h.2.1 a) b) k (nI n)) = h.2.1 := by
    funext c j
    by_cases e1 : c = b
    · subst e1
      rw [va_up_self, va_up_ne _ _ hab]
      by_cases e2 : j = k
      · subst e2
        rw [pk_us, e]
      · rw [pk_un e2]
    · rw [va_up_ne _ _ e1]
      by_cases e2 : c = a
      · subst e2
        rw [va_up_self]
      · rw [va_up_ne _ _ e2]
  simp only [tpW, setC, av_uI, e2]
theorem setC_ne {h : av_H} {a b : Nat} {f : Nat → Int32} (e : b ≠ a) : (setC h a f).2.1 b = h.2.1 b := va_up_ne _ _ e
theorem setC_eq {h : av_H} {a : Nat} {f : Nat → Int32} : (setC h a f).2.1 a = f := va_up_self _ _ _
theorem tpW_ne {h : av_H} {a b k c : Nat} {st : Nat × (Nat → Int32)} (e : c ≠ a) (e2 : c ≠ b) : (tpW h a b k st).2.1 c = h.2.1 c := by rw [tpW, uI_ne e2, setC_ne e]
theorem tpW_a {h : av_H} {a b k : Nat} {st : Nat × (Nat → Int32)} (e : a ≠ b) : (tpW h a b k st).2.1 a = st.2 := by rw [tpW, uI_ne e, setC_eq]
theorem tpW_k {h : av_H} {a b k : Nat} {st : Nat × (Nat → Int32)} : (tpW h a b k st).2.1 b k = nI st.1 := uI_eq
theorem tpS_le {st : Nat × (Nat → Int32)} {b : Nat} (h : st.1 ≤ 1000) : (tpS st b).1 ≤ 1000 := by
  unfold tpS
  split
  · rename_i z
    exact z.2
  · exact h
theorem tpL_le {x : Int64} : ∀ k (st : Nat × (Nat → Int32)), st.1 ≤ 1000 → (tpL x k st).1 ≤ 1000
  | 0, _, h => h
  | k + 1, st, h => tpL_le k _ (tpS_le h)
/-- two tapes alike as far as they are filled, and with signs alone -/
def tpE (p q : Nat × (Nat → Int32)) : Prop := p.1 = q.1 ∧ ∀ i, i < p.1 → p.2 i = q.2 i ∧ ∃ b, b < 256 ∧ gdS b = true ∧ p.2 i = nI b
theorem tpS_E {p q : Nat × (Nat → Int32)} {b : Nat} (hb : b < 256) (h : tpE p q) : tpE (tpS p b) (tpS q b) := by
  obtain ⟨h1, h2⟩ := h
  unfold tpS
  rw [← h1]
  split
  · rename_i z
    refine ⟨rfl, fun i hi => ?_⟩
    have hi : i < p.1 + 1 := hi
    by_cases e : i = p.1
    · subst e
      show upd p.2 p.1 (nI b) p.1 = upd q.2 p.1 (nI b) p.1 ∧ ∃ b', b' < 256 ∧ gdS b' = true ∧ upd p.2 p.1 (nI b) p.1 = nI b'
      rw [pk_us, pk_us]
      exact ⟨rfl, b, hb, z.1, rfl⟩
    · show upd p.2 p.1 (nI b) i = upd q.2 p.1 (nI b) i ∧ ∃ b', b' < 256 ∧ gdS b' = true ∧ upd p.2 p.1 (nI b) i = nI b'
      rw [pk_un e, pk_un e]
      exact h2 i (by omega)
  · exact ⟨h1, h2⟩
theorem tpL_E {x : Int64} : ∀ k {p q : Nat × (Nat → Int32)}, tpE p q → tpE (tpL x k p) (tpL x k q)
  | 0, _, _, h => h
  | k + 1, _, _, h => tpL_E k (tpS_E (byt_lt _ _) h)
theorem m8s (k : Nat) : nI (8 * (k + 1)) + (-8) = nI (8 * k) := by
  rw [show 8 * (k + 1) = 8 * k + 8 by omega, ← nI_add, Int32.add_assoc]
  show nI (8 * k) + 0 = _
  rw [Int32.add_zero]
theorem nar_c {b : Nat} (hb : b < 256) : vp_nar .char (((nI b).toUInt32 % 65536).toInt32) = nI b := by rw [pk_vc, pk_char, pk_tn (by omega), Nat.mod_eq_of_lt (by omega)]
/-- the tapes on both sides -/
def J_tp (h : av_H) : Prop := ∃ n, n ≤ 1000 ∧ h.2.1 37 0 = nI n ∧ h.2.1 137 2 = nI n ∧ tpE (n, h.2.1 38) (n, h.2.1 138)
theorem J_tp.fr {h h' : av_H} (J : J_tp h) (A : agr (FP false [38, 138] [(37, 0), (137, 2)]) h h') : J_tp h' := by
  obtain ⟨n, h1, h2, h3, h4, h5⟩ := J
  refine ⟨n, h1, (A.I rfl).trans h2, (A.I rfl).trans h3, rfl, fun i hi => ?_⟩
  have z := h5 i hi
  show h'.2.1 38 i = h'.2.1 138 i ∧ ∃ b, b < 256 ∧ gdS b = true ∧ h'.2.1 38 i = nI b
  rw [A.I rfl, A.I rfl]
  exact z
theorem gIv_37_0 {β : Type} {g : av_H} (w : WF g) {v : Int32} (e : g.2.1 37 0 = v) (K : Int32 → Option β) : (av_gI g (some 37) 5 0).bind K = K v := by rw [gI_37_0 w, e]
theorem gIv_137_2 {β : Type} {g : av_H} (w : WF g) {v : Int32} (e : g.2.1 137 2 = v) (K : Int32 → Option β) : (av_gI g (some 137) 11 2).bind K = K v := by rw [gI_137_2 w, e]
section
variable {X : av_X} {d : Nat} {h : av_H}
theorem take_lp (w : WF h) (x : Int64) : ∀ k, k ≤ 8 → ∀ st : Nat × (Nat → Int32), st.1 ≤ 1000 → bd X (d + 1) 69 2 [(0, vr (some 37)), (1, vl x), (3, vi (nI (8 * k) + (-8)))] [] (tpW h 38 37 0 st) = av_rV (tpW h 38 37 0 (tpL x k st))
  | 0, _, st, _ => by
    rw [b_69_2, if_pos (by decide)]
    rfl
  | k + 1, hk, st, hs => by
    have ih := take_lp w x k (by omega) (tpS st (byt x (8 * k))) (tpS_le hs)
    have hb := byt_lt x (8 * k)
    have wt : WF (tpW h 38 37 0 st) := w
    have e0 : (tpW h 38 37 0 st).2.1 37 0 = nI st.1 := uI_eq
    have e19 : bd X (d + 1) 69 19 [(0, vr (some 37)), (1, vl x), (3, vi (nI (8 * k))), (4, vi (nI (byt x (8 * k))))] [] (tpW h 38 37 0 st) = bd X (d + 1) 69 2 [(0, vr (some 37)), (1, vl x), (3, vi (nI (8 * k) + (-8)))] [] (if st.1 < 1000 then tpW h 38 37 0 (st.1 + 1, upd st.2 st.1 (nI (byt x (8 * k)))) else tpW h 38 37 0 st) := by
      rw [b_69_19, gIv_37_0 wt e0]
      by_cases z : st.1 < 1000
      · rw [if_pos (show nI st.1 < (1000 : Int32) from nI_lt (b := 1000) z (by omega)), gR_37_1 wt, gIv_37_0 wt e0, st_38 wt z, nar_c hb, gIv_37_0 (v := nI st.1) (WF_uI wt) (by rw [uI_ne (by decide)]; exact e0), pI_37 (WF_uI wt), nI_1, if_pos z]
        exact congrArg _ (tpW_s (f := st.2) (n := st.1) (by decide))
      · rw [if_neg (show ¬ nI st.1 < (1000 : Int32) from nI_nlt (b := 1000) (by omega) (by omega)), if_neg z]
    rw [b_69_2, m8s, if_neg (nI_pos (by omega)), byt_c x (by omega), tpL]
    by_cases z1 : byt x (8 * k) = 10
    · rw [if_pos (show nI (byt x (8 * k)) = (10 : Int32) from congrArg nI z1), e19, ← ih, tpS]
      have g1 : gdS (byt x (8 * k)) = true := by rw [gdS, decide_eq_true z1, Bool.true_or]
      simp only [g1, true_and]
      congr 1
      split <;> rfl
    · rw [if_neg (show ¬ nI (byt x (8 * k)) = (10 : Int32) from fun y => z1 ((nI_eq (b := 10) (by omega) (by omega)).mp y)), c_within']
      have rr : rg (nI (byt x (8 * k))) (32 : Int32).toInt (126 : Int32).toInt = decide (32 ≤ byt x (8 * k) ∧ byt x (8 * k) ≤ 126) := rg_of (a := 32) (b := 126) (by omega)
      rw [rr]
      by_cases z2 : 32 ≤ byt x (8 * k) ∧ byt x (8 * k) ≤ 126
      · have g1 : gdS (byt x (8 * k)) = true := by rw [gdS, decide_eq_true z2, Bool.or_true]
        rw [decide_eq_true z2, if_neg (show ¬ bI true = 0 by decide), e19, ← ih, tpS]
        simp only [g1, true_and]
        congr 1
        split <;> rfl
      · have g1 : gdS (byt x (8 * k)) = false := by rw [gdS, decide_eq_false z1, decide_eq_false z2]; rfl
        rw [decide_eq_false z2, if_pos (show bI false = 0 from rfl), ← ih, tpS, g1, if_neg (by simp)]
theorem lay_lp (w : WF h) (x : Int64) : ∀ k, k ≤ 8 → ∀ st : Nat × (Nat → Int32), st.1 ≤ 1000 → bd X d 238 2 [(0, vr (some 137)), (1, vl x), (3, vi (nI (8 * k) + (-8)))] [] (tpW h 138 137 2 st) = av_rV (tpW h 138 137 2 (tpL x k st))
  | 0, _, st, _ => by
    rw [b_238_2, if_pos (by decide)]
    rfl
  | k + 1, hk, st, hs => by
    have ih := lay_lp w x k (by omega) (tpS st (byt x (8 * k))) (tpS_le hs)
    have hb := byt_lt x (8 * k)
    have wt : WF (tpW h 138 137 2 st) := w
    have e0 : (tpW h 138 137 2 st).2.1 137 2 = nI st.1 := uI_eq
    have e19 : bd X d 238 20 [(0, vr (some 137)), (1, vl x), (3, vi (nI (8 * k))), (4, vi (nI (byt x (8 * k))))] [] (tpW h 138 137 2 st) = bd X d 238 2 [(0, vr (some 137)), (1, vl x), (3, vi (nI (8 * k) + (-8)))] [] (if st.1 < 1000 then tpW h 138 137 2 (st.1 + 1, upd st.2 st.1 (nI (byt x (8 * k)))) else tpW h 138 137 2 st) := by
      rw [b_238_20, gIv_137_2 wt e0]
      by_cases z : st.1 < 1000
      · rw [if_pos (show nI st.1 < (1000 : Int32) from nI_lt (b := 1000) z (by omega)), gR_137_1 wt, gIv_137_2 wt e0, st_138 wt z, gIv_137_2 (v := nI st.1) (WF_uI wt) (by rw [uI_ne (by decide)]; exact e0), pI_137 (WF_uI wt), nI_1, if_pos z]
        exact congrArg _ (tpW_s (f := st.2) (n := st.1) (by decide))
      · rw [if_neg (show ¬ nI st.1 < (1000 : Int32) from nI_nlt (b := 1000) (by omega) (by omega)), if_neg z]
    rw [b_238_2, m8s, if_neg (nI_pos (by omega)), byt_s x (by omega), tpL]
    by_cases z1 : byt x (8 * k) = 10
    · rw [if_pos (show nI (byt x (8 * k)) = (10 : Int32) from congrArg nI z1), e19, ← ih, tpS]
      have g1 : gdS (byt x (8 * k)) = true := by rw [gdS, decide_eq_true z1, Bool.true_or]
      simp only [g1, true_and]
      congr 1
      split <;> rfl
    · rw [if_neg (show ¬ nI (byt x (8 * k)) = (10 : Int32) from fun y => z1 ((nI_eq (b := 10) (by omega) (by omega)).mp y))]
      by_cases z2 : byt x (8 * k) < 32
      · have g1 : gdS (byt x (8 * k)) = false := by rw [gdS, decide_eq_false z1, decide_eq_false (by omega)]; rfl
        rw [if_pos (show nI (byt x (8 * k)) < (32 : Int32) from nI_lt (b := 32) z2 (by omega)), ← ih, tpS, g1, if_neg (by simp)]
      · rw [if_neg (show ¬ nI (byt x (8 * k)) < (32 : Int32) from nI_nlt (b := 32) (by omega) (by omega))]
        by_cases z3 : 126 < byt x (8 * k)
        · have g1 : gdS (byt x (8 * k)) = false := by rw [gdS, decide_eq_false z1, decide_eq_false (by omega)]; rfl
          rw [if_pos (show (126 : Int32) < nI (byt x (8 * k)) from nI_lt (a := 126) z3 (by omega)), ← ih, tpS, g1, if_neg (by simp)]
        · have g1 : gdS (byt x (8 * k)) = true := by rw [gdS, decide_eq_true (show 32 ≤ byt x (8 * k) ∧ byt x (8 * k) ≤ 126 by omega), Bool.or_true]
          rw [if_neg (show ¬ (126 : Int32) < nI (byt x (8 * k)) from nI_nlt (a := 126) (by omega) (by omega)), e19, ← ih, tpS]
          simp only [g1, true_and]
          congr 1
          split <;> rfl
theorem c_take (w : WF h) (x : Int64) (st : Nat × (Nat → Int32)) (hs : st.1 ≤ 1000) : ev X (d + 2) 69 [vr (some 37), vl x] (tpW h 38 37 0 st) = av_rV (tpW h 38 37 0 (tpL x 8 st)) := by
  rw [e_69, b_69_0]
  exact take_lp w x 8 (by omega) st hs
theorem s_lay (w : WF h) (x : Int64) (st : Nat × (Nat → Int32)) (hs : st.1 ≤ 1000) : ev X (d + 1) 238 [vr (some 137), vl x] (tpW h 138 137 2 st) = av_rV (tpW h 138 137 2 (tpL x 8 st)) := by
  rw [e_238, b_238_0]
  exact lay_lp w x 8 (by omega) st hs
theorem agr.tpW {F : Nat → Nat → Bool} {h h' : av_H} {a b k : Nat} {st : Nat × (Nat → Int32)} (q : ∀ j, F a j = false) (q2 : F b k = false) (A : agr F h h') : agr F h (tpW h' a b k st) := by
  refine agr.uI q2 ⟨A.1, fun x y e => ⟨?_, (A.2 x y e).2⟩⟩
  show va_up h'.2.1 a st.2 x y = _
  rw [va_up_ne _ _ (fun z => by rw [z, q] at e; cases e)]
  exact (A.2 x y e).1
theorem feed_ok (w : WF h) (J : J_tp h) (x y z : Int64) : ∃ v h1 h2, ev X (d + 3) 136 [vr (some 0), vl x, vl y, vl z] h = av_rI v h1 ∧ ev X (d + 3) 237 [vr (some 137), vl x, vl y, vl z] h1 = av_rI v h2 ∧ WF h2 ∧ J_tp h2 ∧ off false [38, 138] [(37, 0), (137, 2), (137, 0)] h h2 := by
  obtain ⟨n, n1, n2, n3, n4⟩ := J
  have s1 := tpL_le (x := x) 8 (n, h.2.1 38) n1
  have s2 := tpL_le (x := y) 8 _ s1
  have s3 := tpL_le (x := z) 8 _ s2
  have c0 : h = tpW h 38 37 0 (n, h.2.1 38) := (tpW_0 (by decide) n2).symm
  have g0 : ∀ k st, WF (tpW h 38 37 k st) := fun k st => w
  have hr : (th (tpW h 38 37 0 (tpL z 8 (tpL y 8 (tpL x 8 (n, h.2.1 38)))))).2.1 137 2 = nI n := by
    rw [th_k (by decide), tpW_ne (by decide) (by decide)]
    exact n3
  have h138 : (th (tpW h 38 37 0 (tpL z 8 (tpL y 8 (tpL x 8 (n, h.2.1 38)))))).2.1 138 = h.2.1 138 := by
    rw [th_I (by decide), tpW_ne (by decide) (by decide)]
  have r1 := tpL_le (x := x) 8 (n, h.2.1 138) n1
  have r2 := tpL_le (x := y) 8 _ r1
  have r3 := tpL_le (x := z) 8 _ r2
  have E := tpL_E (x := z) 8 (tpL_E (x := y) 8 (tpL_E (x := x) 8 n4))
  have wT : WF (th (tpW h 38 37 0 (tpL z 8 (tpL y 8 (tpL x 8 (n, h.2.1 38)))))) := w
  have wU : ∀ st, WF (tpW (th (tpW h 38 37 0 (tpL z 8 (tpL y 8 (tpL x 8 (n, h.2.1 38)))))) 138 137 2 st) := fun st => w
  refine ⟨nI (tpL z 8 (tpL y 8 (tpL x 8 (n, h.2.1 38)))).1, tpW h 38 37 0 (tpL z 8 (tpL y 8 (tpL x 8 (n, h.2.1 38)))), tpW (th (tpW h 38 37 0 (tpL z 8 (tpL y 8 (tpL x 8 (n, h.2.1 38)))))) 138 137 2 (tpL z 8 (tpL y 8 (tpL x 8 (n, h.2.1 138)))), ?_, ?_, w, ?_, ?_⟩
  · rw [e_136, b_136_0, gR_0_7 w, is_37 w]
    conv => lhs; rw [c0]
    rw [c_take w x _ n1, av_cV_r, Option.bind_some, gR_0_7 (g0 0 _), is_37 (g0 0 _), c_take w y _ s1, av_cV_r, Option.bind_some, gR_0_7 (g0 0 _), is_37 (g0 0 _), c_take w z _ s2, av_cV_r, Option.bind_some, gR_0_7 (g0 0 _), gIv_37_0 (g0 0 _) uI_eq]
  · rw [e_237, b_237_0, pI_137 (g0 0 _), th_e, is_137 wT]
    have d0 : th (tpW h 38 37 0 (tpL z 8 (tpL y 8 (tpL x 8 (n, h.2.1 38))))) = tpW (th (tpW h 38 37 0 (tpL z 8 (tpL y 8 (tpL x 8 (n, h.2.1 38)))))) 138 137 2 (n, h.2.1 138) := by
      rw [← h138]
      exact (tpW_0 (by decide) hr).symm
    generalize hg : th (tpW h 38 37 0 (tpL z 8 (tpL y 8 (tpL x 8 (n, h.2.1 38))))) = g at d0 wT wU ⊢
    conv => lhs; rw [d0]
    rw [s_lay wT x _ n1, av_cV_r, Option.bind_some, is_137 (wU _), s_lay wT y _ r1, av_cV_r, Option.bind_some, is_137 (wU _), s_lay wT z _ r2, av_cV_r, Option.bind_some, gIv_137_2 (wU _) uI_eq, E.1]
  · refine ⟨(tpL z 8 (tpL y 8 (tpL x 8 (n, h.2.1 38)))).1, s3, ?_, ?_, rfl, fun i hi => ?_⟩
    · rw [tpW_ne (by decide) (by decide), th_I (by decide)]
      exact tpW_k
    · rw [E.1]
      exact tpW_k
    · have e1 : (tpW (th (tpW h 38 37 0 (tpL z 8 (tpL y 8 (tpL x 8 (n, h.2.1 38)))))) 138 137 2 (tpL z 8 (tpL y 8 (tpL x 8 (n, h.2.1 138))))).2.1 38 = (tpL z 8 (tpL y 8 (tpL x 8 (n, h.2.1 38)))).2 := by
        rw [tpW_ne (by decide) (by decide), th_I (by decide), tpW_a (by decide)]
      have e2 : (tpW (th (tpW h 38 37 0 (tpL z 8 (tpL y 8 (tpL x 8 (n, h.2.1 38)))))) 138 137 2 (tpL z 8 (tpL y 8 (tpL x 8 (n, h.2.1 138))))).2.1 138 = (tpL z 8 (tpL y 8 (tpL x 8 (n, h.2.1 138)))).2 := tpW_a (by decide)
      rw [e1, e2]
      exact E.2 i hi
  · exact agr.tpW (fun _ => rfl) rfl (agr.uI rfl (agr.tpW (fun _ => rfl) rfl agr.rfl))
end
