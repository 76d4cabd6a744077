/-! hindsight -/
/-- what came -/
def CD (cm : Nat → Nat → Bool) (h : av_H) : Prop := ∀ e s, e < 5 → s < 4 → h.2.1 51 (e * 4 + s) = nI (tC2 cm e s) ∧ h.2.1 220 (4 * e + s) = bI (!cm e s)
theorem CD.fr {cm : Nat → Nat → Bool} {h h' : av_H} (C : CD cm h) (A : agr (FP false [51, 220] []) h h') : CD cm h' := fun e s he hs => ⟨(A.I rfl).trans (C e s he hs).1, (A.I rfl).trans (C e s he hs).2⟩
theorem CD_ex {h : av_H} (J : J_cm h) : ∃ cm, CD cm h := by
  have K : ∀ e s, ∃ b : Bool, e < 5 → s < 4 → h.2.1 51 (e * 4 + s) = nI (if b = true then 10 else 0) ∧ h.2.1 220 (4 * e + s) = bI (!b) := fun e s => by
    by_cases he : e < 5
    · by_cases hs : s < 4
      · obtain ⟨b, hb⟩ := J e he s hs
        exact ⟨b, fun _ _ => hb⟩
      · exact ⟨true, fun _ y => absurd y hs⟩
    · exact ⟨true, fun y => absurd y he⟩
  exact ⟨fun e s => Classical.choose (K e s), fun e s he hs => Classical.choose_spec (K e s) he hs⟩
/-- the class's memory of the most that could be -/
def CMk (n c : Nat) (p S W : Nat → Nat) (cm : Nat → Nat → Bool) (h : av_H) : Prop := h.2.2.1 46 2 = -1 ∨ h.2.2.1 46 2 = lN (10 ^ 5 * mF n c p S W cm 5 (2 ^ n - 1))
def bhO (n c : Nat) (p S : Nat → Nat) (cm : Nat → Nat → Bool) (e lf : Nat) : Option Nat → Nat
  | none => lf
  | some s => bhN n c p S cm e lf s
/-- what is left, day by day -/
def lfS (n c : Nat) (p S : Nat → Nat) (cm : Nat → Nat → Bool) (o : Nat → Nat → Option Nat) : Nat → Nat
  | 0 => 2 ^ n - 1
  | e + 1 => bhO n c p S cm e (lfS n c p S cm o e) (o e (lfS n c p S cm o e))
theorem bhO_lt {n c m : Nat} {p S : Nat → Nat} {cm : Nat → Nat → Bool} {e lf : Nat} (hl : lf < 2 ^ m) (o : Option Nat) : bhO n c p S cm e lf o < 2 ^ m := by
  cases o with
  | none => exact hl
  | some s =>
    rw [bhO, bhN]
    split
    · exact nd_lt hl
    · exact hl
theorem lfS_lt {n c : Nat} {p S : Nat → Nat} {cm : Nat → Nat → Bool} {o : Nat → Nat → Option Nat} : ∀ e, lfS n c p S cm o e < 2 ^ n
  | 0 => by
    have := Nat.two_pow_pos n
    rw [lfS]
    omega
  | e + 1 => by
    rw [lfS]
    exact bhO_lt (lfS_lt e) _
theorem ws_nd {n lf : Nat} {W : Nat → Nat} : wsN n W (nd (2 ^ n - 1) lf) = sN (fun k => if (!lf.testBit k) = true then W k else 0) n := sN_cg n (fun k hk => by rw [nd_bit, Nat.testBit_two_pow_sub_one, decide_eq_true hk, Bool.true_and])
theorem not_bit : ∀ lf, lf < 256 → ∀ i, i < 8 → (nI lf ^^^ (-1)) >>> (nI i &&& 31) &&& 1 = bI (!lf.testBit i) := by decide +kernel
theorem lN_32 {m : Nat} : (lN m).toInt32 = nI m := by
  unfold lN nI
  exact Int64.toInt32_ofNat
theorem o_32 (x : Int32) : x.toInt64.toInt32 = x := Int32.toInt32_toInt64 x
def fsP (n c : Nat) (p S W : Nat → Nat) (ch : Nat → Nat → Nat) (e lf : Nat) : Option Nat := (fsS (10 * plN n c p S W ch (4 - e) lf) (bwV n c p S W ch (plN n c p S W ch (4 - e)) (4 - e) lf) 4).1
def fsF (row e _lf : Nat) : Option Nat := if dgN row e < 4 then some (dgN row e) else none
theorem fsP_lt {n c : Nat} {p S W : Nat → Nat} {ch : Nat → Nat → Nat} {e lf : Nat} : ∀ s, fsP n c p S W ch e lf = some s → s < 4 := fun s z => ((fsS_c 4).2 s z).1
theorem fsF_lt {row e lf : Nat} : ∀ s, fsF row e lf = some s → s < 4 := fun s z => by
  rw [fsF] at z
  by_cases y : dgN row e < 4
  · rw [if_pos y] at z
    injection z with z
    omega
  · rw [if_neg y] at z
    cases z
theorem fsF_o {row e lf : Nat} : oI (fsF row e lf) = if dgN row e < 4 then nI (dgN row e) else -1 := by
  rw [fsF]
  split <;> rfl
section
variable {X : av_X} {d : Nat} {n c : Nat} {p S W : Nat → Nat} {ch : Nat → Nat → Nat} {cm : Nat → Nat → Bool} {h : av_H}
theorem c_left (w : WF h) (O : wnO n p S W) (C : wnC h n p S W) (hc : h.2.1 46 4 = nI c) (c8 : c ≤ 8) (D : CD cm h) {e lf : Nat} (e5 : e < 5) (l8 : lf < 256) {o : Option Nat} (ho : ∀ s, o = some s → s < 4) : ev X (d + 3) 66 [vr (some 46), vi (nI e), vi (nI lf), vi (oI o)] h = av_rI (nI (bhO n c p S cm e lf o)) h := by
  cases o with
  | none => rw [e_66, b_66_0, if_pos (show oI none = -1 from rfl), b_66_11, b_66_12, if_pos rfl, bhO]
  | some s =>
    have s4 := ho s rfl
    have n1 : ¬ oI (some s) = -1 := fun z => by
      rw [oI_m1 (fun q y => by injection y with y; omega)] at z
      cases z
    rw [e_66, b_66_0, if_neg n1, gR_46_9 w, oI_s, c_tenA w (Or.inr rfl) e5 s4 (D e s e5 s4).1, av_cI_r, Option.bind_some, bhO, bhN, tC2]
    cases u : cm e s with
    | false => rw [if_neg (show ¬ false = true by decide), if_neg (show ¬ (0 : Int32) < nI 0 by decide), b_66_11, b_66_12, if_pos rfl, if_neg (show ¬ false = true by decide)]
    | true => rw [if_pos rfl, if_pos (show (0 : Int32) < nI 10 by decide), b_66_12, if_neg (show ¬ (1 : Int32) = 0 by decide), is_46 w, c_done w O C hc c8 l8 s4, av_cI_r, Option.bind_some, nb_andn, if_pos rfl]
theorem wn_lp (w : WF h) {lf : Nat} (O : wnO n p S W) (C : wnC h n p S W) (l8 : lf < 256) : ∀ k i, i + k = n → bd X (d + 1) 48 4 [(0, vr (some 46)), (1, vi (nI lf ^^^ (-1))), (2, vi (nI (sN (fun k => if (!lf.testBit k) = true then W k else 0) i))), (3, vi (nI i))] [] h = av_rI (nI (sN (fun k => if (!lf.testBit k) = true then W k else 0) n)) h
  | 0, i, hi => by
    obtain rfl : i = n := by omega
    have n8 := O.1
    rw [b_48_4, gIv_46_0 w C.1, if_neg (nI_nlt (by omega) (by omega))]
  | k + 1, i, hi => by
    have n8 := O.1
    have ih := wn_lp w O C l8 k (i + 1) (by omega)
    rw [sN] at ih
    rw [b_48_4, gIv_46_0 w C.1, if_pos (nI_lt (by omega) (by omega)), e_185, b_185_0, not_bit lf l8 i (by omega), nI_1]
    cases z : lf.testBit i with
    | true =>
      rw [z, Bool.not_true, if_neg (by decide)] at ih
      rw [Bool.not_true, if_pos (show bI false = 0 from rfl)]
      show (av_cI (av_rI 0 h)).bind _ = _
      rw [av_cI_r, Option.bind_some, if_pos rfl, add0I]
      exact ih
    | false =>
      rw [z, Bool.not_false, if_pos rfl] at ih
      rw [Bool.not_false, if_neg (show ¬ bI true = 0 by decide)]
      show (av_cI (av_rI 1 h)).bind _ = _
      rw [av_cI_r, Option.bind_some, if_neg (show ¬ (1 : Int32) = 0 by decide), gR_46_6 w, ld_48 w (by omega), (C.2.1 i (by omega)).2, nI_add]
      exact ih
theorem c_worthN (w : WF h) {lf : Nat} (O : wnO n p S W) (C : wnC h n p S W) (l8 : lf < 256) : ev X (d + 2) 48 [vr (some 46), vi (nI lf ^^^ (-1))] h = av_rI (nI (wsN n W (nd (2 ^ n - 1) lf))) h := by
  rw [e_48, b_48_0, ws_nd]
  exact wn_lp w O C l8 n 0 (by omega)
/-- by the plan: the class -/
theorem wp_lp {h0 : av_H} (T : XT X) (P : PC n c p S W ch h0) (D : CD cm h0) : ∀ m e h, e + m = 5 → PK n c p S W ch h0 h → ∃ h', PK n c p S W ch h0 h' ∧ bd X (d + 14) 64 9 [(0, vr (some 46)), (1, vi (nI (lfS n c p S cm (fsP n c p S W ch) e))), (2, vi (nI e))] [] h = av_rI (nI (wsN n W (nd (2 ^ n - 1) (lfS n c p S cm (fsP n c p S W ch) 5)))) h'
  | 0, e, h, he, K => by
    obtain rfl : e = 5 := by omega
    have pn : 2 ^ n ≤ 256 := Nat.pow_le_pow_right (n := 2) (by decide) P.1.1
    have ll := lfS_lt (n := n) (c := c) (p := p) (S := S) (cm := cm) (o := fsP n c p S W ch) 5
    refine ⟨h, K, ?_⟩
    rw [b_64_9, if_neg (show ¬ nI 5 < 5 by decide), is_46 K.1, c_worthN K.1 P.1 (P.2.1.fr (K.2.1.fr (by decide))) (by omega), av_cI_r, Option.bind_some]
  | m + 1, e, h, he, K => by
    have pn : 2 ^ n ≤ 256 := Nat.pow_le_pow_right (n := 2) (by decide) P.1.1
    have ll := lfS_lt (n := n) (c := c) (p := p) (S := S) (cm := cm) (o := fsP n c p S W ch) e
    obtain ⟨h1, K1, e1⟩ := c_first (X := X) (d := d + (8 - 2 * (4 - e))) T P (show 4 - e ≤ 4 by omega) (show lfS n c p S cm (fsP n c p S W ch) e < 256 by omega) K
    rw [show d + (8 - 2 * (4 - e)) + 2 * (4 - e) + 6 = d + 14 by omega, show 4 - (4 - e) = e by omega] at e1
    have A := K1.2.1
    have e2 := c_left (X := X) (d := d + 11) (e := e) (o := fsP n c p S W ch e (lfS n c p S cm (fsP n c p S W ch) e)) K1.1 P.1 (P.2.1.fr (A.fr (by decide))) (((A.fr (q := false) (cs := []) (fs := [(46, 4)]) (by decide)).I rfl).trans P.2.2.1) P.2.2.2.1 (D.fr (A.fr (by decide))) (by omega) (show lfS n c p S cm (fsP n c p S W ch) e < 256 by omega) fsP_lt
    obtain ⟨h2, K2, e3⟩ := wp_lp T P D m (e + 1) h1 (by omega) K1
    refine ⟨h2, K2, ?_⟩
    rw [b_64_9, if_pos (show nI e < 5 from nI_lt (b := 5) (by omega) (by omega)), is_46 K.1, e1, av_cI_r, Option.bind_some, is_46 K1.1]
    dsimp only
    rw [show ev X (d + 14) 66 [vr (some 46), vi (nI e), vi (nI (lfS n c p S cm (fsP n c p S W ch) e)), vi (oI (fsS (10 * plN n c p S W ch (4 - e) (lfS n c p S cm (fsP n c p S W ch) e)) (bwV n c p S W ch (plN n c p S W ch (4 - e)) (4 - e) (lfS n c p S cm (fsP n c p S W ch) e)) 4).1)] h1 = av_rI (nI (lfS n c p S cm (fsP n c p S W ch) (e + 1))) h1 from e2, av_cI_r, Option.bind_some, nI_1]
    exact e3
/-- by the fixed row: the class -/
theorem wf_lp2 (T : XT X) (w : WF h) (hL : h.1.length ≤ 1000000) (O : wnO n p S W) (C : wnC h n p S W) (hc : h.2.1 46 4 = nI c) (c8 : c ≤ 8) (D : CD cm h) {row : Nat} (hr : row < 3125) (h3 : h.2.1 46 3 = nI row) : ∀ m e, e + m = 5 → bd X (d + 4) 65 11 [(0, vr (some 46)), (1, vi (nI (lfS n c p S cm (fsF row) e))), (2, vi (nI e))] [] h = av_rI (nI (wsN n W (nd (2 ^ n - 1) (lfS n c p S cm (fsF row) 5)))) h
  | 0, e, he => by
    obtain rfl : e = 5 := by omega
    have pn : 2 ^ n ≤ 256 := Nat.pow_le_pow_right (n := 2) (by decide) O.1
    have ll := lfS_lt (n := n) (c := c) (p := p) (S := S) (cm := cm) (o := fsF row) 5
    rw [b_65_11, if_neg (show ¬ nI 5 < 5 by decide), is_46 w, c_worthN w O C (by omega), av_cI_r, Option.bind_some]
  | m + 1, e, he => by
    have pn : 2 ^ n ≤ 256 := Nat.pow_le_pow_right (n := 2) (by decide) O.1
    have ll := lfS_lt (n := n) (c := c) (p := p) (S := S) (cm := cm) (o := fsF row) e
    have ih := wf_lp2 T w hL O C hc c8 D hr h3 m (e + 1) (by omega)
    have e2 := c_left (X := X) (d := d + 1) (e := e) (o := fsF row e (lfS n c p S cm (fsF row) e)) w O C hc c8 D (by omega) (show lfS n c p S cm (fsF row) e < 256 by omega) fsF_lt
    rw [b_65_11, if_pos (show nI e < 5 from nI_lt (b := 5) (by omega) (by omega)), is_46 w, c_fside T w hL hr (by omega) h3, av_cI_r, Option.bind_some, is_46 w, ← fsF_o (lf := lfS n c p S cm (fsF row) e), e2, av_cI_r, Option.bind_some, nI_1]
    exact ih
/-! the reference -/
theorem s_beh (w : WF h) (P : PR n c p S W ch h) (D : CD cm h) {e lf : Nat} (e5 : e < 5) (l8 : lf < 256) {o : Option Nat} (ho : ∀ s, o = some s → s < 4) : ev X (d + 3) 372 [vr (some 137), vi (nI e), vi (nI lf), vi (oI o)] h = av_rI (nI (bhO n c p S cm e lf o)) h := by
  cases o with
  | none => rw [e_372, b_372_0, if_pos (show oI none < 0 by decide), bhO]
  | some s =>
    have s4 := ho s rfl
    rw [e_372, b_372_0, oI_s, if_neg (nI_pos (by omega)), if_neg (show ¬ nI s = 4 from fun y => by have := (nI_eq (b := 4) (by omega) (by omega)).mp y; omega), gR_137_104 w, show (4 : Int32) = nI 4 from rfl, pk_mul, nI_add, ld_220 w (by omega), (D e s e5 s4).2, bhO, bhN]
    cases u : cm e s with
    | false => rw [Bool.not_false, if_neg (show ¬ bI true = 0 by decide), if_neg (show ¬ false = true by decide)]
    | true => rw [Bool.not_true, if_pos (show bI false = 0 from rfl), is_137 w, s_behind w P.1 P.2.1 P.2.2.1 P.2.2.2.1 l8 s4, av_cI_r, Option.bind_some, if_pos rfl]
theorem mo_lp (w : WF h) (P : PR n c p S W ch h) (D : CD cm h) {r lf : Nat} (hr : r ≤ 4) (l8 : lf < 256) {Dd : Nat} (IH : ∀ lf, lf < 256 → ev X (Dd + 3) 373 [vr (some 137), vi (nI (5 - r)), vi (nI lf)] h = av_rL (lN (mF n c p S W cm r lf)) h) (mb : ∀ lf, mF n c p S W cm r lf ≤ 100000) : ∀ m s, s + m = 4 → bd X (Dd + 3) 373 14 [(0, vr (some 137)), (1, vi (nI (4 - r))), (2, vi (nI lf)), (3, vl (lN (mxS (mF n c p S W cm r lf) (mFg n c p S W cm (mF n c p S W cm r) r lf) s))), (5, vi (nI s))] [] h = av_rL (lN (mF n c p S W cm (r + 1) lf)) h
  | 0, s, hs => by
    obtain rfl : s = 4 := by omega
    rw [b_373_14, if_neg (show ¬ nI 4 < 4 by decide)]
    rfl
  | m + 1, s, hs => by
    have ih := mo_lp w P D hr l8 IH mb m (s + 1) (by omega)
    have s4 : s < 4 := by omega
    have O := P.1
    have pn : 2 ^ n ≤ 256 := Nat.pow_le_pow_right (n := 2) (by decide) O.1
    have gb : ∀ s, mFg n c p S W cm (mF n c p S W cm r) r lf s ≤ 200000 := fun s => by
      rw [mFg]
      split
      · omega
      · have := wsN_le O (dnM n p S c lf s)
        have := mb (bhN n c p S cm (4 - r) lf s)
        omega
    have xb : mxS (mF n c p S W cm r lf) (mFg n c p S W cm (mF n c p S W cm r) r lf) s ≤ 200000 := mxS_ub (by have := mb lf; omega) s (fun s' _ => gb s')
    have g1 := gb s
    have eb := s_beh (X := X) (d := Dd) (e := 4 - r) (lf := lf) (o := some s) w P D (by omega) l8 (fun q y => by injection y with y; omega)
    rw [oI_s, bhO] at eb
    have bl : bhN n c p S cm (4 - r) lf s < 256 := by
      rw [bhN]
      split
      · exact nd_lt (n := 8) l8
      · exact l8
    have k42 : ∀ g, g = mFg n c p S W cm (mF n c p S W cm r) r lf s → bd X (Dd + 3) 373 42 [(0, vr (some 137)), (1, vi (nI (4 - r))), (2, vi (nI lf)), (3, vl (lN (mxS (mF n c p S W cm r lf) (mFg n c p S W cm (mF n c p S W cm r) r lf) s))), (5, vi (nI s))] [vl (lN g)] h = av_rL (lN (mF n c p S W cm (r + 1) lf)) h := fun g eg => by
      subst eg
      rw [mxS] at ih
      rw [b_373_42, nI_1]
      simp only [lg_cmp_gt, lN_lt' (show mxS (mF n c p S W cm r lf) (mFg n c p S W cm (mF n c p S W cm r) r lf) s < 2 ^ 62 by omega) (show mFg n c p S W cm (mF n c p S W cm r) r lf s < 2 ^ 62 by omega)]
      by_cases z : mxS (mF n c p S W cm r lf) (mFg n c p S W cm (mF n c p S W cm r) r lf) s < mFg n c p S W cm (mF n c p S W cm r) r lf s
      · rw [Nat.max_eq_right (by omega)] at ih
        rw [if_pos z]
        exact ih
      · rw [Nat.max_eq_left (by omega)] at ih
        rw [if_neg z]
        exact ih
    rw [b_373_14, if_pos (show nI s < 4 from nI_lt (b := 4) (by omega) (by omega)), is_137 w, eb, av_cI_r, Option.bind_some]
    by_cases z : bhN n c p S cm (4 - r) lf s = lf
    · rw [if_pos (congrArg nI z)]
      exact k42 0 (by rw [mFg, if_pos z])
    · obtain ⟨u1, u2⟩ := bh_ne z
      have nn : nd lf (bhN n c p S cm (4 - r) lf s) = dnM n p S c lf s := by
        rw [u2]
        apply Nat.eq_of_testBit_eq
        intro k
        rw [nd_bit, nd_bit]
        have := nd_0.mp (dnM_sub (n := n) (p := p) (S := S) (c := c) (lf := lf) (s := s)) k
        cases u : (dnM n p S c lf s).testBit k with
        | false => cases lf.testBit k <;> rfl
        | true => rw [this u]; rfl
      have dl := dnM_lt O (c := c) (lf := lf) (s := s)
      rw [if_neg (fun y => z ((nI_eq (by omega) (by omega)).mp y)), is_137 w, nb_andn, nn, s_worth w O P.2.1 (by omega), av_cL_r, Option.bind_some, is_137 w, nI_1, show 4 - r + 1 = 5 - r by omega, IH _ bl, av_cL_r, Option.bind_some, lN_add]
      exact k42 _ (by rw [mFg, if_neg z])
theorem mF_b (O : wnO n p S W) (r : Nat) : ∀ lf, mF n c p S W cm r lf ≤ r * 792 := by
  induction r with
  | zero =>
    intro lf
    exact Nat.zero_le _
  | succ r ih =>
    intro lf
    rw [mF, Nat.succ_mul]
    refine mxS_ub (Nat.le_trans (ih lf) (Nat.le_add_right _ _)) 4 (fun s _ => ?_)
    rw [mFg]
    split
    · exact Nat.zero_le _
    · have h1 := wsN_le O (dnM n p S c lf s)
      have h2 := ih (bhN n c p S cm (4 - r) lf s)
      rw [Nat.add_comm]
      exact Nat.add_le_add h2 h1
theorem s_most (w : WF h) (P : PR n c p S W ch h) (D : CD cm h) : ∀ r, r ≤ 5 → ∀ lf, lf < 256 → ev X (d + r + 3) 373 [vr (some 137), vi (nI (5 - r)), vi (nI lf)] h = av_rL (lN (mF n c p S W cm r lf)) h
  | 0, _, lf, l8 => by
    rw [e_373, b_373_0, if_pos (show nI (5 - 0) = 5 from rfl), mF]
    rfl
  | r + 1, hr, lf, l8 => by
    have IH := s_most w P D r (by omega)
    have lp := mo_lp (X := X) (Dd := d + r) w P D (show r ≤ 4 by omega) l8 IH (fun lf => by
      have := mF_b (c := c) (cm := cm) P.1 r lf
      have : r * 792 ≤ 5 * 792 := Nat.mul_le_mul_right _ (by omega)
      omega) 4 0 (by omega)
    rw [show 5 - (r + 1) = 4 - r by omega, show d + (r + 1) + 3 = (d + r + 3) + 1 by omega, e_373, b_373_0, if_neg (show ¬ nI (4 - r) = 5 from fun y => by have := (nI_eq (b := 5) (by omega) (by omega)).mp y; omega), is_137 w, nI_1, show 4 - r + 1 = 5 - r by omega, IH lf l8, av_cL_r, Option.bind_some]
    exact lp
end
