/-! the reader: what is told once -/
def oM (b2 b3 b4 b5 b6 b7 : Bool) : Int32 := ((((bI b2 * 4 ||| bI b3 * 8) ||| bI b4 * 16) ||| bI b5 * 32) ||| bI b6 * 64) ||| bI b7 * 128
def oB (t : Nat) : Int32 := (1 : Int32) <<< ((nI t - (10000 : Int32)) &&& 31)
theorem oM_2 : ∀ b3 b4 b5 b6 b7 : Bool, (oM false b3 b4 b5 b6 b7 &&& oB 10002 = 0 ∧ oM false b3 b4 b5 b6 b7 ||| oB 10002 = oM true b3 b4 b5 b6 b7) ∧ ¬ oM true b3 b4 b5 b6 b7 &&& oB 10002 = 0 := by decide +kernel
theorem oM_3 : ∀ b2 b4 b5 b6 b7 : Bool, (oM b2 false b4 b5 b6 b7 &&& oB 10003 = 0 ∧ oM b2 false b4 b5 b6 b7 ||| oB 10003 = oM b2 true b4 b5 b6 b7) ∧ ¬ oM b2 true b4 b5 b6 b7 &&& oB 10003 = 0 := by decide +kernel
theorem oM_4 : ∀ b2 b3 b5 b6 b7 : Bool, (oM b2 b3 false b5 b6 b7 &&& oB 10004 = 0 ∧ oM b2 b3 false b5 b6 b7 ||| oB 10004 = oM b2 b3 true b5 b6 b7) ∧ ¬ oM b2 b3 true b5 b6 b7 &&& oB 10004 = 0 := by decide +kernel
theorem oM_5 : ∀ b2 b3 b4 b6 b7 : Bool, (oM b2 b3 b4 false b6 b7 &&& oB 10005 = 0 ∧ oM b2 b3 b4 false b6 b7 ||| oB 10005 = oM b2 b3 b4 true b6 b7) ∧ ¬ oM b2 b3 b4 true b6 b7 &&& oB 10005 = 0 := by decide +kernel
theorem oM_6 : ∀ b2 b3 b4 b5 b7 : Bool, (oM b2 b3 b4 b5 false b7 &&& oB 10006 = 0 ∧ oM b2 b3 b4 b5 false b7 ||| oB 10006 = oM b2 b3 b4 b5 true b7) ∧ ¬ oM b2 b3 b4 b5 true b7 &&& oB 10006 = 0 := by decide +kernel
theorem oM_7 : ∀ b2 b3 b4 b5 b6 : Bool, (oM b2 b3 b4 b5 b6 false &&& oB 10007 = 0 ∧ oM b2 b3 b4 b5 b6 false ||| oB 10007 = oM b2 b3 b4 b5 b6 true) ∧ ¬ oM b2 b3 b4 b5 b6 true &&& oB 10007 = 0 := by decide +kernel
def oMu (u : Ru) (rt dt : Bool) : Int32 := oM (u.q 0) (u.q 1) (u.q 2) rt dt u.ky
section
variable {X : av_X} {d e : Nat} {T P : Nat → Nat} {n R : Nat}
theorem TC.fL {h h' : av_H} (hR : R = 67 ∨ R = 72) (C : TC T P n h) (A : agr (cL R) h h') : TC T P n h' := by
  rcases hR with rfl | rfl
  · exact ⟨(A.I rfl).trans C.1, fun i hi => ⟨(A.I rfl).trans (C.2 i hi).1, (A.I rfl).trans (C.2 i hi).2⟩⟩
  · exact ⟨(A.I rfl).trans C.1, fun i hi => ⟨(A.I rfl).trans (C.2 i hi).1, (A.I rfl).trans (C.2 i hi).2⟩⟩
theorem c_once1 (hR : R = 67 ∨ R = 72) (K : TK T P n) {h : av_H} (C : TC T P n h) {a len t : Nat} {v v' : Int32} (w : WF h) (c6 : h.2.1 37 6 = nI a) (c7 : h.2.1 37 7 = nI (T a)) (c8 : h.2.1 37 8 = 0) (c9 : h.2.1 R 9 = nI len) (ha : a < n) (m : h.2.1 37 9 = v) (ht : T a = t) (z : v &&& oB t = 0) (z2 : v ||| oB t = v') : ∃ h', ev X (d + 2) 82 [vr (some 37)] h = av_rI (bI true) h' ∧ CS T R (av_uI h 37 9 v') h' (a + 1) len ∧ h'.2.1 (R + 1) = h.2.1 (R + 1) := by
  have w1 : WF (av_uI h 37 9 v') := WF_uI w
  have S : CS T R (av_uI h 37 9 v') (av_uI h 37 9 v') a len := ⟨w1, agr.rfl, by rw [uI_nk (by decide)]; exact c6, by rw [uI_nk (by decide)]; exact c7, by rw [uI_nk (by decide)]; exact c8, by rw [uI_ne (by omega)]; exact c9⟩
  have C1 : TC T P n (av_uI h 37 9 v') := TC.fL hR C (agr.uI (cL_37 (by omega)) agr.rfl)
  obtain ⟨h', e1, S1, o1⟩ := c_tkT (X := X) (d := d) hR K C1 S ha
  refine ⟨h', ?_, S1, o1.trans (uI_ne (by omega))⟩
  rw [e_82, b_82_0, gI_37_7 w, c7, gI_37_9 w, m, ht]
  change (if v &&& oB t = 0 then _ else _) = _
  rw [if_pos z]
  change ((av_gI h (some 37) 5 9).bind fun x3 => (av_pI h (some 37) 5 9 (x3 ||| oB t)).bind _) = _
  rw [gI_37_9 w, m, z2, pI_37 w, is_37 w1, e1, av_cV_r, Option.bind_some, zb_1]
  rfl
theorem c_once0 (hR : R = 67 ∨ R = 72) (K : TK T P n) {h : av_H} (C : TC T P n h) {a len t : Nat} {v : Int32} (S : CS T R h h a len) (ha : a ≤ n) (hl : len ≤ 1000) (m : h.2.1 37 9 = v) (ht : T a = t) (z : ¬ v &&& oB t = 0) : ∃ h', ev X (d + 2) 82 [vr (some 37)] h = av_rI (bI false) h' ∧ CB R h h' (3 + 16 * P a) := by
  obtain ⟨h', e1, B1⟩ := c_rfs (X := X) (d := d) hR K C S ha hl (k := 3)
  refine ⟨h', ?_, B1⟩
  rw [e_82, b_82_0, gI_37_7 S.1, S.2.2.2.1, gI_37_9 S.1, m, ht]
  change (if v &&& oB t = 0 then _ else _) = _
  rw [if_neg z, is_37 S.1, show (3 : Int32) = nI 3 from rfl, e1, av_cI_r, Option.bind_some, zb_b]
/-- a number up to b -/
theorem c_num (hR : R = 67 ∨ R = 72) (K : TK T P n) {h : av_H} (C : TC T P n h) {a len b : Nat} (S : CS T R h h a len) (ha : a ≤ n) (hl : len ≤ 1000) (hb : b ≤ 9999) : (1 ≤ T a ∧ T a ≤ b → ∃ h', ev X (d + 2) 83 [vr (some 37), vi (nI b)] h = av_rI (bI true) h' ∧ CS T R h h' (a + 1) len ∧ h'.2.1 (R + 1) = h.2.1 (R + 1)) ∧ (T a < 10000 → ¬ (1 ≤ T a ∧ T a ≤ b) → ∃ h', ev X (d + 2) 83 [vr (some 37), vi (nI b)] h = av_rI (bI false) h' ∧ CB R h h' (4 + 16 * P a)) ∧ (¬ T a < 10000 → ∃ h', ev X (d + 2) 83 [vr (some 37), vi (nI b)] h = av_rI (bI false) h' ∧ CB R h h' (1 + 16 * P a)) := by
  have tl := K.le ha
  have rr : rg (nI (T a)) (1 : Int32).toInt (nI b).toInt = decide (1 ≤ T a ∧ T a ≤ b) := by
    rw [nI_toInt (by omega)]
    exact rg_of (a := 1) (b := b) (by omega)
  refine ⟨fun z => ?_, fun z1 z => ?_, fun z => ?_⟩
  · obtain ⟨h', e1, S1, o1⟩ := c_tkT (X := X) (d := d) hR K C S (K.lt ha (by omega))
    refine ⟨h', ?_, S1, o1⟩
    rw [e_83, b_83_0, is_37 S.1, c_isN K S ha, av_cI_r, Option.bind_some]
    dsimp only
    rw [if_neg (do' (by omega)), gI_37_7 S.1, S.2.2.2.1, c_within', rr]
    dsimp only
    rw [if_neg (do' z), is_37 S.1, e1, av_cV_r, Option.bind_some, zb_1]
    rfl
  · obtain ⟨h', e1, B1⟩ := c_rfs (X := X) (d := d) hR K C S ha hl (k := 4)
    refine ⟨h', ?_, B1⟩
    rw [e_83, b_83_0, is_37 S.1, c_isN K S ha, av_cI_r, Option.bind_some]
    dsimp only
    rw [if_neg (do' z1), gI_37_7 S.1, S.2.2.2.1, c_within', rr]
    dsimp only
    rw [if_pos (dz z), is_37 S.1, show (4 : Int32) = nI 4 from rfl, e1, av_cI_r, Option.bind_some, zb_b]
  · obtain ⟨h', e1, B1⟩ := c_rfs (X := X) (d := d) hR K C S ha hl (k := 1)
    refine ⟨h', ?_, B1⟩
    rw [e_83, b_83_0, is_37 S.1, c_isN K S ha, av_cI_r, Option.bind_some]
    dsimp only
    rw [if_pos (dz z), is_37 S.1, show (1 : Int32) = nI 1 from rfl, e1, av_cI_r, Option.bind_some, zb_b]
theorem s_num (K : TK T P n) {h : av_H} (C : TR T P n h) {a c b : Nat} (U : RS h h a c 0) (ha : a ≤ n) (hb : b ≤ 9999) : (1 ≤ T a ∧ T a ≤ b → ev X (d + 2) 276 [vr (some 137), vi 1, vi (nI b)] h = av_rI (nI (T a)) (av_uI h 137 7 (nI (a + 1)))) ∧ (T a < 10000 → ¬ (1 ≤ T a ∧ T a ≤ b) → ∃ h', ev X (d + 2) 276 [vr (some 137), vi 1, vi (nI b)] h = av_rI 0 h' ∧ RS h h' a c (4 + 16 * P a) ∧ sm6 h h') ∧ (¬ T a < 10000 → ∃ h', ev X (d + 2) 276 [vr (some 137), vi 1, vi (nI b)] h = av_rI 0 h' ∧ RS h h' a c (1 + 16 * P a) ∧ sm6 h h') := by
  have kn := K.1
  have kp := K.2.2.2 a ha
  obtain ⟨t, p⟩ := C a ha
  obtain ⟨wf, _, u1, u2, u3⟩ := id U
  have w1 : WF (av_uI h 137 7 (nI (a + 1))) := WF_uI wf
  have bad : ∀ F g, 0 < F → F < 100000 → RS h g a c F → bd X (d + 1) 276 38 [(0, vr (some 137))] [] g = av_rI 0 g := fun F g f0 f1 U' => by
    rw [b_276_38, gI_137_8 U'.1, U'.2.2.2.1, if_pos (show (0 : Int32) < nI F from nI_lt (a := 0) f0 (by omega))]
  have two : T a < 10000 → ev X (d + 2) 276 [vr (some 137), vi 1, vi (nI b)] h = if 1 ≤ T a ∧ T a ≤ b then bd X (d + 1) 276 38 [(0, vr (some 137))] [] h else bd X (d + 1) 276 35 [(0, vr (some 137))] [] h := fun z => by
    rw [e_276, b_276_0, gI_137_8 wf, u2, if_pos (show nI 0 = 0 from rfl), gR_137_4 wf, gI_137_7 wf, u1, ld_139 wf (by omega), if_pos (t.2.2.1.mpr z), b_276_14, gI_137_8 wf, u2, if_pos (show nI 0 = 0 from rfl), gR_137_6 wf, gI_137_7 wf, u1, ld_141 wf (by omega), t.2.2.2.1 z]
    have l1 : lg_cmp (nI (T a)).toInt64 (1 : Int32).toInt64 < 0 ↔ T a < 1 := by
      rw [lg_cmp_lt, Int64.lt_iff_toInt_lt, Int32.toInt_toInt64, Int32.toInt_toInt64, nI_toInt (by omega)]
      show (T a : Int) < 1 ↔ _
      omega
    have l2 : 0 < lg_cmp (nI (T a)).toInt64 (nI b).toInt64 ↔ b < T a := by
      rw [lg_cmp_gt, Int64.lt_iff_toInt_lt, Int32.toInt_toInt64, Int32.toInt_toInt64, nI_toInt (by omega), nI_toInt (by omega)]
      omega
    by_cases z1 : T a < 1
    · rw [if_pos (l1.mpr z1), if_neg (by omega)]
    · rw [if_neg (fun q => z1 (l1.mp q)), gR_137_6 wf, gI_137_7 wf, u1, ld_141 wf (by omega), t.2.2.2.1 z]
      by_cases z2 : b < T a
      · rw [if_pos (l2.mpr z2), if_neg (by omega)]
      · rw [if_neg (fun q => z2 (l2.mp q)), if_pos (by omega)]
  refine ⟨fun z => ?_, fun z1 z => ?_, fun z => ?_⟩
  · rw [two (by omega), if_pos z, b_276_38, gI_137_8 wf, u2, if_neg (show ¬ (0 : Int32) < nI 0 by decide), gI_137_7 wf, u1, nI_1, pI_137 wf, gR_137_6 w1, gI_137_7 w1, uI_eq, show (1 : Int32) = nI 1 from rfl, pk_sub (by omega), Nat.add_sub_cancel, ld_141 w1 (by omega), uI_L, t.2.2.2.1 (by omega), Int32.toInt32_toInt64]
  · obtain ⟨h', e1, U1, m1⟩ := s_wr0 (X := X) (d := d) C K U ha (k := 4)
    refine ⟨h', ?_, U1, m1⟩
    rw [two z1, if_neg z, b_276_35, is_137 wf, show (4 : Int32) = nI 4 from rfl, e1, av_cV_r, Option.bind_some]
    exact bad _ _ (by omega) (by omega) U1
  · obtain ⟨h', e1, U1, m1⟩ := s_wr0 (X := X) (d := d) C K U ha (k := 1)
    refine ⟨h', ?_, U1, m1⟩
    rw [e_276, b_276_0, gI_137_8 wf, u2, if_pos (show nI 0 = 0 from rfl), gR_137_4 wf, gI_137_7 wf, u1, ld_139 wf (by omega), if_neg (fun q => z (t.2.2.1.mp q)), is_137 wf, show (1 : Int32) = nI 1 from rfl, e1, av_cV_r, Option.bind_some]
    exact bad _ _ (by omega) (by omega) U1
/-- the word when -/
theorem s_when (K : TK T P n) {h : av_H} (C : TR T P n h) {a c : Nat} (U : RS h h a c 0) (ha : a ≤ n) : (T a = 10008 → ∃ h', ev X (d + 3) 251 [vr (some 137), vi 7] h = av_rV h' ∧ RS h h' (a + 1) c 0 ∧ sm6 h h') ∧ (T a ≠ 10008 → ∃ h', ev X (d + 3) 251 [vr (some 137), vi 7] h = av_rV h' ∧ RS h h' a c (1 + 16 * P a) ∧ sm6 h h') := by
  have kn := K.1
  obtain ⟨h1, e1, U1, m1⟩ := s_hasW (X := X) (d := d) C K U ha (by omega) (g := 7) (by decide)
  refine ⟨fun z => ?_, fun z => ?_⟩
  · rw [if_pos ⟨rfl, z⟩] at U1
    refine ⟨h1, ?_, U1, m1⟩
    rw [e_251, b_251_0, is_137 U.1, show (7 : Int32) = nI 7 from rfl, e1, av_cI_r, Option.bind_some]
    dsimp only
    rw [if_neg (do' ⟨rfl, z⟩)]
  · rw [if_neg (fun q => z q.2)] at U1
    obtain ⟨h2, e2, U2, m2⟩ := s_wr0 (X := X) (d := d + 1) C K U1 ha (k := 1)
    refine ⟨h2, ?_, U2, m1.tr m2⟩
    rw [e_251, b_251_0, is_137 U.1, show (7 : Int32) = nI 7 from rfl, e1, av_cI_r, Option.bind_some]
    dsimp only
    rw [if_pos (dz (fun q => z q.2)), is_137 U1.1, show (1 : Int32) = nI 1 from rfl, e2, av_cV_r, Option.bind_some]
/-- no fault's word is looked at when a fault is there -/
theorem s_semF {h : av_H} {F : Nat} (w : WF h) (f0 : 0 < F) (f1 : F < 100000) (e8 : h.2.1 137 8 = nI F) {g : Int32} : ev X (d + 2) 248 [vr (some 137), vi g] h = av_rV h := by
  have nz : ¬ nI F = 0 := fun q => absurd ((nI_eq (b := 0) (by omega) (by omega)).mp q) (by omega)
  rw [e_248, b_248_0, is_137 w, e_246, b_246_0, gI_137_8 w, e8, if_neg nz, zb_0, av_cI_r, Option.bind_some]
  dsimp only
  rw [if_pos rfl, is_137 w, e_245, b_245_0, gI_137_8 w, e8, if_neg nz, av_cV_r, Option.bind_some]
end
