/-! the reader: the reference's small steps -/
def RS (h0 h : av_H) (a c F : Nat) : Prop := WF h ∧ off false [161, 162] [(137, 7), (137, 8), (137, 31)] h0 h ∧ h.2.1 137 7 = nI a ∧ h.2.1 137 8 = nI F ∧ h.2.1 137 31 = nI c
/-- the codes are as they were -/
def sm6 (h h' : av_H) : Prop := h'.2.1 161 = h.2.1 161 ∧ h'.2.1 162 = h.2.1 162
theorem sm6.rfl {h : av_H} : sm6 h h := ⟨Eq.refl _, Eq.refl _⟩
theorem sm6.tr {h h1 h2 : av_H} (a : sm6 h h1) (b : sm6 h1 h2) : sm6 h h2 := ⟨b.1.trans a.1, b.2.trans a.2⟩
section
variable {X : av_X} {d : Nat} {h h0 : av_H} {T P : Nat → Nat} {n a c F : Nat}
theorem TR.fr {h h' : av_H} (C : TR T P n h) (A : agr (FP false [139, 140, 141, 142] []) h h') : TR T P n h' := fun i hi => by
  obtain ⟨q1, q2⟩ := C i hi
  have e : h'.2.2.1 142 = h.2.2.1 142 := by
    funext k
    exact A.L rfl
  rw [e, A.I rfl, A.L rfl, A.I rfl]
  exact ⟨q1, q2⟩
theorem s_isW (C : TR T P n h0) (K : TK T P n) (S : RS h0 h a c F) (ha : a ≤ n) (hF : F < 2147483648) {w : Nat} (hw : w < 23) : ev X (d + 1) 247 [vr (some 137), vi (nI w)] h = av_rI (bI (decide (F = 0 ∧ T a = wcN w))) h := by
  obtain ⟨wf, A, s1, s2, s3⟩ := S
  obtain ⟨t, p⟩ := C.fr (A.fr (by decide)) a ha
  have k := K.1
  have iff := t.1 w hw
  rw [e_247, b_247_0, gI_137_8 wf, s2]
  by_cases z : F = 0
  · rw [z, if_pos (show nI 0 = 0 from rfl), gR_137_4 wf, gI_137_7 wf, s1, ld_139 wf (by omega)]
    by_cases y : h.2.1 139 a = 1
    · rw [if_pos y, gR_137_6 wf, gI_137_7 wf, s1, ld_141 wf (by omega), gR_137_9 wf, ld_142 wf hw]
      by_cases x : h.2.2.1 141 a = h.2.2.1 142 w
      · rw [if_pos (show lg_cmp (h.2.2.1 141 a) (h.2.2.1 142 w) = 0 by rw [lg_cmp_eq]; exact x), zb_1, decide_eq_true ⟨rfl, iff.mp ⟨y, x⟩⟩]
        rfl
      · rw [if_neg (show ¬ lg_cmp (h.2.2.1 141 a) (h.2.2.1 142 w) = 0 by rw [lg_cmp_eq]; exact x), zb_0, decide_eq_false (fun q => x (iff.mpr q.2).2)]
        rfl
    · rw [if_neg y, zb_0, decide_eq_false (fun q => y (iff.mpr q.2).1)]
      rfl
  · rw [if_neg (show ¬ nI F = 0 from fun q => z ((nI_eq (b := 0) hF (by omega)).mp q)), zb_0, decide_eq_false (fun q => z q.1)]
    rfl
theorem s_isS (C : TR T P n h0) (K : TK T P n) (S : RS h0 h a c F) (ha : a ≤ n) (hF : F < 2147483648) {g : Nat} (hg : g < 127) : ev X (d + 1) 246 [vr (some 137), vi (nI g)] h = av_rI (bI (decide (F = 0 ∧ T a = 20000 + g))) h := by
  obtain ⟨wf, A, s1, s2, s3⟩ := S
  obtain ⟨t, p⟩ := C.fr (A.fr (by decide)) a ha
  have k := K.1
  have iff := t.2.1 g hg
  rw [e_246, b_246_0, gI_137_8 wf, s2]
  by_cases z : F = 0
  · rw [z, if_pos (show nI 0 = 0 from rfl), gR_137_4 wf, gI_137_7 wf, s1, ld_139 wf (by omega)]
    by_cases y : h.2.1 139 a = 3
    · rw [if_pos y, gR_137_6 wf, gI_137_7 wf, s1, ld_141 wf (by omega)]
      by_cases x : h.2.2.1 141 a = (nI g).toInt64
      · rw [if_pos (show lg_cmp (h.2.2.1 141 a) (nI g).toInt64 = 0 by rw [lg_cmp_eq]; exact x), zb_1, decide_eq_true ⟨rfl, iff.mp ⟨y, x⟩⟩]
        rfl
      · rw [if_neg (show ¬ lg_cmp (h.2.2.1 141 a) (nI g).toInt64 = 0 by rw [lg_cmp_eq]; exact x), zb_0, decide_eq_false (fun q => x (iff.mpr q.2).2)]
        rfl
    · rw [if_neg y, zb_0, decide_eq_false (fun q => y (iff.mpr q.2).1)]
      rfl
  · rw [if_neg (show ¬ nI F = 0 from fun q => z ((nI_eq (b := 0) hF (by omega)).mp q)), zb_0, decide_eq_false (fun q => z q.1)]
    rfl
theorem RS.at (S : RS h0 h a c F) {v : Int32} {b : Nat} (hv : v = nI b) : RS h0 (av_uI h 137 7 v) b c F ∧ sm6 h (av_uI h 137 7 v) := by
  obtain ⟨wf, A, s1, s2, s3⟩ := S
  exact ⟨⟨WF_uI wf, agr.uI rfl A, uI_eq.trans hv, by rw [uI_nk (by decide)]; exact s2, by rw [uI_nk (by decide)]; exact s3⟩, ⟨uI_ne (by decide), uI_ne (by decide)⟩⟩
theorem s_wr0 (C : TR T P n h0) (K : TK T P n) (S : RS h0 h a c 0) (ha : a ≤ n) {k : Nat} : ∃ h', ev X (d + 1) 245 [vr (some 137), vi (nI k)] h = av_rV h' ∧ RS h0 h' a c (k + 16 * P a) ∧ sm6 h h' := by
  obtain ⟨wf, A, s1, s2, s3⟩ := S
  obtain ⟨t, p⟩ := C.fr (A.fr (by decide)) a ha
  have kk := K.1
  refine ⟨av_uI h 137 8 (nI (k + 16 * P a)), ?_, ⟨WF_uI wf, agr.uI rfl A, by rw [uI_nk (by decide)]; exact s1, uI_eq, by rw [uI_nk (by decide)]; exact s3⟩, ⟨uI_ne (by decide), uI_ne (by decide)⟩⟩
  rw [e_245, b_245_0, gI_137_8 wf, s2, if_pos (show nI 0 = 0 from rfl), gR_137_5 wf, gI_137_7 wf, s1, ld_140 wf (by omega), p, show (16 : Int32) = nI 16 from rfl, pk_mul, nI_add, pI_137 wf]
theorem s_wr1 (S : RS h0 h a c F) (hF : F < 2147483648) (z : 0 < F) {v : Int32} : ev X (d + 1) 245 [vr (some 137), vi v] h = av_rV h := by
  obtain ⟨wf, A, s1, s2, s3⟩ := S
  rw [e_245, b_245_0, gI_137_8 wf, s2, if_neg (show ¬ nI F = 0 from fun q => absurd ((nI_eq (b := 0) hF (by omega)).mp q) (by omega))]
theorem s_hasS (C : TR T P n h0) (K : TK T P n) (S : RS h0 h a c F) (ha : a ≤ n) (hF : F < 2147483648) {g : Nat} (hg : g < 127) : ∃ h', ev X (d + 2) 249 [vr (some 137), vi (nI g)] h = av_rI (bI (decide (F = 0 ∧ T a = 20000 + g))) h' ∧ RS h0 h' (if F = 0 ∧ T a = 20000 + g then a + 1 else a) c F ∧ sm6 h h' := by
  have i := s_isS (X := X) (d := d) C K S ha hF hg
  obtain ⟨wf, A, s1, s2, s3⟩ := id S
  by_cases z : F = 0 ∧ T a = 20000 + g
  · obtain ⟨b1, b2⟩ := S.at (nI_1 a)
    refine ⟨_, ?_, by rw [if_pos z]; exact b1, b2⟩
    rw [e_249, b_249_0, is_137 wf, i, av_cI_r, Option.bind_some]
    dsimp only
    rw [gI_137_7 wf, s1, decide_eq_true z, if_neg (show ¬ bI true = 0 by decide), pI_137 wf, zb_b]
  · obtain ⟨b1, b2⟩ := S.at (show nI a + 0 = nI a by rw [Int32.add_zero])
    refine ⟨_, ?_, by rw [if_neg z]; exact b1, b2⟩
    rw [e_249, b_249_0, is_137 wf, i, av_cI_r, Option.bind_some]
    dsimp only
    rw [gI_137_7 wf, s1, decide_eq_false z, if_pos (show bI false = 0 from rfl), pI_137 wf, zb_b]
theorem s_hasW (C : TR T P n h0) (K : TK T P n) (S : RS h0 h a c F) (ha : a ≤ n) (hF : F < 2147483648) {g : Nat} (hg : g < 23) : ∃ h', ev X (d + 2) 250 [vr (some 137), vi (nI g)] h = av_rI (bI (decide (F = 0 ∧ T a = wcN g))) h' ∧ RS h0 h' (if F = 0 ∧ T a = wcN g then a + 1 else a) c F ∧ sm6 h h' := by
  have i := s_isW (X := X) (d := d) C K S ha hF hg
  obtain ⟨wf, A, s1, s2, s3⟩ := id S
  by_cases z : F = 0 ∧ T a = wcN g
  · obtain ⟨b1, b2⟩ := S.at (nI_1 a)
    refine ⟨_, ?_, by rw [if_pos z]; exact b1, b2⟩
    rw [e_250, b_250_0, is_137 wf, i, av_cI_r, Option.bind_some]
    dsimp only
    rw [gI_137_7 wf, s1, decide_eq_true z, if_neg (show ¬ bI true = 0 by decide), pI_137 wf, zb_b]
  · obtain ⟨b1, b2⟩ := S.at (show nI a + 0 = nI a by rw [Int32.add_zero])
    refine ⟨_, ?_, by rw [if_neg z]; exact b1, b2⟩
    rw [e_250, b_250_0, is_137 wf, i, av_cI_r, Option.bind_some]
    dsimp only
    rw [gI_137_7 wf, s1, decide_eq_false z, if_pos (show bI false = 0 from rfl), pI_137 wf, zb_b]
theorem s_tkS1 (C : TR T P n h0) (K : TK T P n) (S : RS h0 h a c 0) (ha : a ≤ n) {g : Nat} (hg : g < 127) (z : T a = 20000 + g) : ∃ h', ev X (d + 2) 248 [vr (some 137), vi (nI g)] h = av_rV h' ∧ RS h0 h' (a + 1) c 0 ∧ sm6 h h' := by
  have i := s_isS (X := X) (d := d) C K S ha (by omega) hg
  obtain ⟨wf, A, s1, s2, s3⟩ := id S
  obtain ⟨b1, b2⟩ := S.at (nI_1 a)
  refine ⟨_, ?_, b1, b2⟩
  rw [e_248, b_248_0, is_137 wf, i, av_cI_r, Option.bind_some]
  dsimp only
  rw [decide_eq_true (And.intro rfl z), if_neg (show ¬ bI true = 0 by decide), gI_137_7 wf, s1, pI_137 wf]
theorem s_tkS0 (C : TR T P n h0) (K : TK T P n) (S : RS h0 h a c 0) (ha : a ≤ n) {g : Nat} (hg : g < 127) (z : T a ≠ 20000 + g) : ∃ h', ev X (d + 2) 248 [vr (some 137), vi (nI g)] h = av_rV h' ∧ RS h0 h' a c (1 + 16 * P a) ∧ sm6 h h' := by
  have i := s_isS (X := X) (d := d) C K S ha (by omega) hg
  obtain ⟨wf, A, s1, s2, s3⟩ := id S
  obtain ⟨h', e, b1, b2⟩ := s_wr0 (X := X) (d := d) C K S ha (k := 1)
  refine ⟨h', ?_, b1, b2⟩
  rw [e_248, b_248_0, is_137 wf, i, av_cI_r, Option.bind_some]
  dsimp only
  rw [decide_eq_false (fun q => z q.2), if_pos (show bI false = 0 from rfl), is_137 wf, show (1 : Int32) = nI 1 from rfl, e, av_cV_r, Option.bind_some]
theorem s_tkSF (C : TR T P n h0) (K : TK T P n) (S : RS h0 h a c F) (ha : a ≤ n) (hF : F < 2147483648) (z : 0 < F) {g : Nat} (hg : g < 127) : ev X (d + 2) 248 [vr (some 137), vi (nI g)] h = av_rV h := by
  have i := s_isS (X := X) (d := d) C K S ha hF hg
  obtain ⟨wf, A, s1, s2, s3⟩ := id S
  rw [e_248, b_248_0, is_137 wf, i, av_cI_r, Option.bind_some]
  dsimp only
  rw [decide_eq_false (fun q => by omega), if_pos (show bI false = 0 from rfl), is_137 wf, s_wr1 S hF z, av_cV_r, Option.bind_some]
theorem s_emit (S : RS h0 h a c F) (hc : c < 1100) {v1 v2 : Int32} : ∃ h', ev X (d + 1) 273 [vr (some 137), vi v1, vi v2] h = av_rV h' ∧ RS h0 h' a (c + 1) F ∧ h'.2.1 161 (1100 + c) = v1 ∧ h'.2.1 162 (1100 + c) = v2 ∧ ∀ j, j ≠ 1100 + c → h'.2.1 161 j = h.2.1 161 j ∧ h'.2.1 162 j = h.2.1 162 j := by
  obtain ⟨wf, A, s1, s2, s3⟩ := S
  have w1 : WF (av_uI h 161 (1100 + c) v1) := WF_uI wf
  have w2 : WF (av_uI (av_uI h 161 (1100 + c) v1) 162 (1100 + c) v2) := WF_uI w1
  refine ⟨av_uI (av_uI (av_uI h 161 (1100 + c) v1) 162 (1100 + c) v2) 137 31 (nI (c + 1)), ?_, ⟨WF_uI w2, agr.uI rfl (agr.uI rfl (agr.uI rfl A)), ?_, ?_, uI_eq⟩, ?_, ?_, fun j hj => ⟨?_, ?_⟩⟩
  · rw [e_273, b_273_0, gR_137_32 wf, gI_137_31 wf, s3, show (1100 : Int32) = nI 1100 from rfl, nI_add, st_161 wf (by omega), gR_137_33 w1, gI_137_31 w1, uI_ne (by decide), s3, nI_add, st_162 w1 (by omega), gI_137_31 w2, uI_ne (by decide), uI_ne (by decide), s3, nI_1, pI_137 w2]
  · rw [uI_nk (by decide), uI_ne (by decide), uI_ne (by decide)]
    exact s1
  · rw [uI_nk (by decide), uI_ne (by decide), uI_ne (by decide)]
    exact s2
  · rw [uI_ne (by decide), uI_ne (by decide), uI_eq]
  · rw [uI_ne (by decide), uI_eq]
  · rw [uI_ne (by decide), uI_ne (by decide), uI_nk hj]
  · rw [uI_ne (by decide), uI_nk hj, uI_ne (by decide)]
end
