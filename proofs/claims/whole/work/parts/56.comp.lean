/-! ours, band, worst, week -/
theorem i100 : ((10 : Int32) = 0) = False := by decide
theorem i120 : ((12 : Int32) = 0) = False := by decide
theorem i40 : ((4 : Int32) = 0) = False := by decide
theorem i480 : ((48 : Int32) = 0) = False := by decide
/-- the wind as a number -/
def wvN (h : av_H) (s e k : Nat) : Nat := (h.2.1 154 ((100 * s + e) * 24 + k)).toNatClampNeg
theorem J_wi.v {h : av_H} (J : J_wi h) {s e k : Nat} (hs : s < 4) (he : e < 100) (hk : k < 24) : h.2.1 154 ((100 * s + e) * 24 + k) = nI (wvN h s e k) ∧ wvN h s e k ≤ 99 ∧ (h.2.1 2 (e * 24 + k) >>> (nI (s * 8) &&& 31)) &&& 127 = nI (wvN h s e k) := by
  obtain ⟨n, h1, h2, h3⟩ := J s hs e he k hk
  have e : wvN h s e k = n := by rw [wvN, h2, nI_clamp (by omega)]
  rw [e]
  exact ⟨h2, h1, h3⟩
theorem wvN_eq {h g : av_H} (e : g.2.1 154 = h.2.1 154) (s x k : Nat) : wvN g s x k = wvN h s x k := by rw [wvN, wvN, e]
/-- the complaints of the class, of the reference, by themselves -/
def coC (h : av_H) (m : Nat) (T S F E K : Nat → Nat) : Prop := h.2.1 21 5 = nI m ∧ ∀ i, i < m → h.2.1 22 i = nI ((T i * 4 + S i) * 12 + F i) ∧ h.2.1 23 i = nI (E i) ∧ h.2.1 25 i = nI (K i)
def coQ (h : av_H) (m : Nat) (T S F E K : Nat → Nat) : Prop := h.2.1 137 92 = nI m ∧ ∀ i, i < m → h.2.1 210 i = nI (T i) ∧ h.2.1 211 i = nI (S i) ∧ h.2.1 212 i = nI (F i) ∧ h.2.1 213 i = nI (E i) ∧ h.2.1 214 i = nI (K i)
def coB (m : Nat) (T S F E K : Nat → Nat) : Prop := m ≤ 40 ∧ ∀ i, i < m → T i < 6 ∧ S i < 4 ∧ F i < 12 ∧ E i < 100 ∧ K i < 24
theorem J_co.E {h : av_H} (J : J_co h) : ∃ m T S F E K, coB m T S F E K ∧ coC h m T S F E K ∧ coQ h m T S F E K := by
  obtain ⟨m, h1, h2, h3, h4⟩ := J
  refine ⟨m, fun i => (h.2.1 210 i).toNatClampNeg, fun i => (h.2.1 211 i).toNatClampNeg, fun i => (h.2.1 212 i).toNatClampNeg, fun i => (h.2.1 213 i).toNatClampNeg, fun i => (h.2.1 214 i).toNatClampNeg, ⟨h1, fun i hi => ?_⟩, ⟨h2, fun i hi => ?_⟩, ⟨h3, fun i hi => ?_⟩⟩
  all_goals
    obtain ⟨t, s, f, e, k, b1, b2, b3, b4, b5, e1, e2, e3, e4, e5, e6, e7, e8⟩ := h4 i hi
    simp only [e1, e2, e3, e4, e5, e6, e7, e8, nI_clamp (show t < 2 ^ 31 by omega), nI_clamp (show s < 2 ^ 31 by omega), nI_clamp (show f < 2 ^ 31 by omega), nI_clamp (show e < 2 ^ 31 by omega), nI_clamp (show k < 2 ^ 31 by omega), and_self, b1, b2, b3, b4, b5]
/-- a drop passed a floor at an hour -/
def psB (D : Nat → Nat) (t s f e k : Nat) : Bool := decide (D 0 = t) && (decide (D 1 = s) && (decide (D 4 = e) && (decide (D 5 ≤ k ∧ k < D 5 + D 6) && decide (f < D 3 - D 7 * (k - D 5) ∧ D 3 - D 7 * (k - D 5) ≤ f + D 7))))
theorem hrs_lt {F R j H : Nat} (hR : 1 ≤ R) (e : H = (F + R - 1) / R) (hj : j < H) : R * j < F := by
  have h1 : j + 1 ≤ (F + R - 1) / R := by omega
  rw [Nat.le_div_iff_mul_le (by omega), Nat.succ_mul, Nat.mul_comm] at h1
  omega
theorem lt_sub {f U R : Nat} (hf : f < 1000) (hU : U < 1000) (hR : R < 1000) : (nI f < nI U - nI R) ↔ f + R < U := by
  rw [i_lt, toI_nI (by omega), pk_sub_toInt (by omega) (by omega)]
  omega
section
variable {X : av_X} {d : Nat} {h : av_H}
theorem c_windIn {s e k : Nat} (w : WF h) (J : J_wi h) (hs : s < 4) (he : e < 100) (hk : k < 24) : ev X (d + 2) 201 [vr (some 0), vi (nI s), vi (nI e), vi (nI k)] h = av_rI (nI (wvN h s e k)) h := by
  simp only [e_201, b_201_0, lit_24, lit_8, pk_mul, nI_add]
  simp (disch := first | ((repeat (first | with_reducible apply WF_uI | with_reducible apply WF_uL | with_reducible apply WF_th | with_reducible apply WF_fillL | with_reducible apply WF_fgt)); with_reducible assumption) | omega | (simp only [uI_1, uL_1, th_1, uI_R, uL_R]; with_reducible assumption)) only [↓gR_0_1, ↓ln_2, ↓c_below', rg_lt, ↓reduceIte, i10, av_cI_r, av_cL_r, av_cV_r, Option.bind_some, ↓zb_0, ↓zb_1, ↓zb_b, bI_0, Bool.true_eq_false, ↓ld_2]
  rw [(J.v hs he hk).2.2]
theorem c_windIn' {s e k : Nat} (w : WF h) (J : J_wi h) (hs : s < 4) (he : e < 100) (hk : k < 24) {β : Type} (Kc : Int32 × av_H → Option β) : (av_cI (ev X (d + 2) 201 [vr (some 0), vi (nI s), vi (nI e), vi (nI k)] h)).bind Kc = Kc (nI (wvN h s e k), h) := by rw [c_windIn w J hs he hk]; rfl
theorem c_bandOf {s e k : Nat} (w : WF h) (J : J_wi h) (hs : s < 4) (he : e < 100) (hk : k < 24) : ev X (d + 3) 227 [vr (some 0), vi (nI s), vi (nI e), vi (nI k)] h = av_rI (nI (wvN h s e k / 10)) h := by
  have := (J.v hs he hk).2.1
  simp (disch := first | ((repeat (first | with_reducible apply WF_uI | with_reducible apply WF_uL | with_reducible apply WF_th | with_reducible apply WF_fillL | with_reducible apply WF_fgt)); with_reducible assumption) | omega | (simp only [uI_1, uL_1, th_1, uI_R, uL_R]; with_reducible assumption)) only [e_227, b_227_0, ↓is_0, ↓c_windIn', ↓reduceIte, i10, av_cI_r, av_cL_r, av_cV_r, Option.bind_some, ↓zb_0, ↓zb_1, ↓zb_b, i100]
  rw [lit_10, pk_div (by omega) (by omega) (by omega)]
theorem c_bandOf' {s e k : Nat} (w : WF h) (J : J_wi h) (hs : s < 4) (he : e < 100) (hk : k < 24) {β : Type} (Kc : Int32 × av_H → Option β) : (av_cI (ev X (d + 3) 227 [vr (some 0), vi (nI s), vi (nI e), vi (nI k)] h)).bind Kc = Kc (nI (wvN h s e k / 10), h) := by rw [c_bandOf w J hs he hk]; rfl
theorem s_bandAt {s e k : Nat} (w : WF h) (J : J_wi h) (hs : s < 4) (he : e < 100) (hk : k < 24) : ev X (d + 1) 354 [vr (some 137), vi (nI s), vi (nI e), vi (nI k)] h = av_rI (nI (wvN h s e k / 10)) h := by
  have := (J.v hs he hk).2.1
  simp only [e_354, b_354_0, lit_100, lit_24, pk_mul, nI_add]
  simp (disch := first | ((repeat (first | with_reducible apply WF_uI | with_reducible apply WF_uL | with_reducible apply WF_th | with_reducible apply WF_fillL | with_reducible apply WF_fgt)); with_reducible assumption) | omega | (simp only [uI_1, uL_1, th_1, uI_R, uL_R]; with_reducible assumption)) only [↓gR_137_22, ↓ld_154, (J.v hs he hk).1, ↓reduceIte, i10, av_cI_r, av_cL_r, av_cV_r, Option.bind_some, ↓zb_0, ↓zb_1, ↓zb_b, i100]
  rw [lit_10, pk_div (by omega) (by omega) (by omega)]
theorem s_bandAt' {s e k : Nat} (w : WF h) (J : J_wi h) (hs : s < 4) (he : e < 100) (hk : k < 24) {β : Type} (Kc : Int32 × av_H → Option β) : (av_cI (ev X (d + 1) 354 [vr (some 137), vi (nI s), vi (nI e), vi (nI k)] h)).bind Kc = Kc (nI (wvN h s e k / 10), h) := by rw [s_bandAt w J hs he hk]; rfl
theorem c_passes {i M f k : Nat} {D : Nat → Nat} (w : WF h) (hi : i < 60) (P : dpc h i D M) (hf : f < 12) (hk : k < 24) (b3 : D 3 ≤ 12) (b5 : D 5 + D 6 ≤ 24) (b7 : 1 ≤ D 7 ∧ D 7 ≤ 12) (b6 : D 6 = (D 3 + D 7 - 1) / D 7) : ev X (d + 2) 11 [vr (some (77 + i)), vi (nI f), vi (nI k)] h = av_rI (bI (decide (D 5 ≤ k ∧ k < D 5 + D 6) && decide (f < D 3 - D 7 * (k - D 5) ∧ D 3 - D 7 * (k - D 5) ≤ f + D 7))) h := by
  have hD := P.1
  have q := rg_sub (c := k) (x := D 5) (n := D 6 - 1) (by omega) (by omega)
  by_cases z0 : D 6 = 0
  · have q' : rg (nI k - nI (D 5)) 0 ((D 6 : Int) - 1) = false := by rw [z0, rg, decide_eq_false_iff_not]; omega
    simp (disch := first | ((repeat (first | with_reducible apply WF_uI | with_reducible apply WF_uL | with_reducible apply WF_th | with_reducible apply WF_fillL | with_reducible apply WF_fgt)); with_reducible assumption) | omega | (simp only [uI_1, uL_1, th_1, uI_R, uL_R]; with_reducible assumption)) only [e_11, b_11_0, ↓dr_g (D := D), ↓c_below', toI_nI, q', bI_0, ↓reduceIte, i10, av_cI_r, av_cL_r, av_cV_r, Option.bind_some, ↓zb_0, ↓zb_1, ↓zb_b]
    rw [decide_eq_false (show ¬ (D 5 ≤ k ∧ k < D 5 + D 6) by omega), Bool.false_and]
    rfl
  · rw [show ((D 6 - 1 : Nat) : Int) = (D 6 : Int) - 1 by omega] at q
    by_cases z : D 5 ≤ k ∧ k < D 5 + D 6
    · have q' : rg (nI k - nI (D 5)) 0 ((D 6 : Int) - 1) = true := by rw [q]; exact decide_eq_true (by omega)
      have lt := hrs_lt b7.1 b6 (show k - D 5 < D 6 by omega)
      simp (disch := first | ((repeat (first | with_reducible apply WF_uI | with_reducible apply WF_uL | with_reducible apply WF_th | with_reducible apply WF_fillL | with_reducible apply WF_fgt)); with_reducible assumption) | omega | (simp only [uI_1, uL_1, th_1, uI_R, uL_R]; with_reducible assumption)) only [e_11, b_11_0, ↓dr_g (D := D), ↓c_below', toI_nI, q', bI_0, ↓reduceIte, i10, av_cI_r, av_cL_r, av_cV_r, Option.bind_some, ↓zb_0, ↓zb_1, ↓zb_b, Bool.true_eq_false]
      rw [pk_sub z.1, pk_mul, pk_sub (Nat.le_of_lt lt), decide_eq_true z, Bool.true_and]
      by_cases z1 : f < D 3 - D 7 * (k - D 5)
      · rw [if_pos (nI_lt z1 (by omega))]
        by_cases z2 : f + D 7 < D 3 - D 7 * (k - D 5)
        · rw [if_pos ((lt_sub (by omega) (by omega) (by omega)).mpr z2), decide_eq_false (by omega)]
          rfl
        · rw [if_neg (fun y => z2 ((lt_sub (by omega) (by omega) (by omega)).mp y)), decide_eq_true (by omega)]
          rfl
      · rw [if_neg (nI_nlt (by omega) (by omega)), decide_eq_false (by omega)]
        rfl
    · have q' : rg (nI k - nI (D 5)) 0 ((D 6 : Int) - 1) = false := by rw [q]; exact decide_eq_false (by omega)
      simp (disch := first | ((repeat (first | with_reducible apply WF_uI | with_reducible apply WF_uL | with_reducible apply WF_th | with_reducible apply WF_fillL | with_reducible apply WF_fgt)); with_reducible assumption) | omega | (simp only [uI_1, uL_1, th_1, uI_R, uL_R]; with_reducible assumption)) only [e_11, b_11_0, ↓dr_g (D := D), ↓c_below', toI_nI, q', bI_0, ↓reduceIte, i10, av_cI_r, av_cL_r, av_cV_r, Option.bind_some, ↓zb_0, ↓zb_1, ↓zb_b]
      rw [decide_eq_false z, Bool.false_and]
      rfl
theorem c_passes' {i M f k : Nat} {D : Nat → Nat} (w : WF h) (hi : i < 60) (P : dpc h i D M) (hf : f < 12) (hk : k < 24) (b3 : D 3 ≤ 12) (b5 : D 5 + D 6 ≤ 24) (b7 : 1 ≤ D 7 ∧ D 7 ≤ 12) (b6 : D 6 = (D 3 + D 7 - 1) / D 7) {β : Type} (Kc : Int32 × av_H → Option β) : (av_cI (ev X (d + 2) 11 [vr (some (77 + i)), vi (nI f), vi (nI k)] h)).bind Kc = Kc (bI (decide (D 5 ≤ k ∧ k < D 5 + D 6) && decide (f < D 3 - D 7 * (k - D 5) ∧ D 3 - D 7 * (k - D 5) ≤ f + D 7)), h) := by rw [c_passes w hi P hf hk b3 b5 b7 b6]; rfl
theorem c_cause {i c M N m : Nat} {D T S F E K : Nat → Nat} (w : WF h) (hi : i < 60) (P : dpc h i D M) (B : dpb D M N) (Cb : coB m T S F E K) (C : coC h m T S F E K) (hc : c < m) : ev X (d + 3) 225 [vr (some 0), vr (some (77 + i)), vi (nI c)] h = av_rI (bI (psB D (T c) (S c) (F c) (E c) (K c))) h := by
  have hD := P.1
  have h40 := Cb.1
  obtain ⟨a1, a2, a3, a4, a5⟩ := Cb.2 c hc
  obtain ⟨e1, e2, e3⟩ := C.2 c hc
  obtain ⟨b0, b1, b2, ⟨b3, b3'⟩, b4, b5, ⟨b6, b6'⟩, b7, bH, -⟩ := B
  have v1 : ((T c * 4 + S c) * 12 + F c) / 12 = T c * 4 + S c := by omega
  have v2 : ((T c * 4 + S c) * 12 + F c) % 12 = F c := by omega
  simp (disch := first | ((repeat (first | with_reducible apply WF_uI | with_reducible apply WF_uL | with_reducible apply WF_th | with_reducible apply WF_fillL | with_reducible apply WF_fgt)); with_reducible assumption) | omega | (simp only [uI_1, uL_1, th_1, uI_R, uL_R]; with_reducible assumption)) only [e_225, b_225_0, ↓gR_0_5, ↓gR_21_0, ↓ld_22, ↓dr_g (D := D), e1, ↓c_sideP', ↓reduceIte, i10, av_cI_r, av_cL_r, av_cV_r, Option.bind_some, ↓zb_0, ↓zb_1, ↓zb_b, i120]
  rw [lit_12, pk_div (by omega) (by omega) (by omega), v1, psB]
  by_cases z : D 0 * 4 + D 1 = T c * 4 + S c
  · obtain ⟨z1, z2⟩ : D 0 = T c ∧ D 1 = S c := by omega
    rw [if_pos (congrArg nI z), decide_eq_true z1, decide_eq_true z2, Bool.true_and, Bool.true_and]
    simp (disch := first | ((repeat (first | with_reducible apply WF_uI | with_reducible apply WF_uL | with_reducible apply WF_th | with_reducible apply WF_fillL | with_reducible apply WF_fgt)); with_reducible assumption) | omega | (simp only [uI_1, uL_1, th_1, uI_R, uL_R]; with_reducible assumption)) only [↓dr_g (D := D), ↓gR_0_5, ↓gR_21_1, ↓gR_21_2, ↓ld_23, ↓ld_25, e2, e3, ↓reduceIte, i10, av_cI_r, av_cL_r, av_cV_r, Option.bind_some, ↓zb_0, ↓zb_1, ↓zb_b, nI_eq, ↓dr_is]
    by_cases z4 : D 4 = E c
    · rw [if_pos z4, decide_eq_true z4, Bool.true_and, ← lit_12]
      have v3 : nI ((T c * 4 + S c) * 12 + F c) - nI (T c * 4 + S c) * (12 : Int32) = nI (F c) := by
        rw [lit_12, pk_mul, pk_sub (by omega)]
        congr 1
        omega
      rw [v3, c_passes' w hi P a3 a5 b3' b6' b7 bH]
      cases (decide (D 5 ≤ K c ∧ K c < D 5 + D 6) && decide (F c < D 3 - D 7 * (K c - D 5) ∧ D 3 - D 7 * (K c - D 5) ≤ F c + D 7)) <;> rfl
    · rw [if_neg z4, decide_eq_false z4, Bool.false_and]
      rfl
  · rw [if_neg (fun y => z ((nI_eq (by omega) (by omega)).mp y))]
    have : (decide (D 0 = T c) && (decide (D 1 = S c) && (decide (D 4 = E c) && (decide (D 5 ≤ K c ∧ K c < D 5 + D 6) && decide (F c < D 3 - D 7 * (K c - D 5) ∧ D 3 - D 7 * (K c - D 5) ≤ F c + D 7))))) = false := by
      by_cases y : D 0 = T c
      · rw [decide_eq_false (show ¬ D 1 = S c by omega), Bool.false_and, Bool.and_false]
      · rw [decide_eq_false y, Bool.false_and]
    rw [this]
    rfl
theorem c_cause' {i c M N m : Nat} {D T S F E K : Nat → Nat} (w : WF h) (hi : i < 60) (P : dpc h i D M) (B : dpb D M N) (Cb : coB m T S F E K) (C : coC h m T S F E K) (hc : c < m) {β : Type} (Kc : Int32 × av_H → Option β) : (av_cI (ev X (d + 3) 225 [vr (some 0), vr (some (77 + i)), vi (nI c)] h)).bind Kc = Kc (bI (psB D (T c) (S c) (F c) (E c) (K c)), h) := by rw [c_cause w hi P B Cb C hc]; rfl
theorem s_pass {i c M N m : Nat} {D T S F E K : Nat → Nat} (w : WF h) (hi : i < 60) (P : dpr h i D N) (B : dpb D M N) (Cb : coB m T S F E K) (C : coQ h m T S F E K) (hc : c < m) (fl : h.2.1 143 (D 0) = nI (D 3)) : ev X (d + 1) 352 [vr (some 137), vi (nI i), vi (nI c)] h = av_rI (bI (psB D (T c) (S c) (F c) (E c) (K c))) h := by
  have h40 := Cb.1
  obtain ⟨a1, a2, a3, a4, a5⟩ := Cb.2 c hc
  obtain ⟨e1, e2, e3, e4, e5⟩ := C.2 c hc
  obtain ⟨p0, p1, p2, p4, p5, p6, p7, -⟩ := P
  obtain ⟨b0, b1, b2, ⟨b3, b3'⟩, b4, b5, ⟨b6, b6'⟩, ⟨b7, b7'⟩, bH, -⟩ := B
  rw [psB]
  by_cases z1 : D 0 = T c
  · have z1' : nI (D 0) = nI (T c) := congrArg nI z1
    rw [z1] at fl
    by_cases z2 : D 1 = S c
    · have z2' : nI (D 1) = nI (S c) := congrArg nI z2
      by_cases z4 : D 4 = E c
      · have z4' : nI (D 4) = nI (E c) := congrArg nI z4
        simp (disch := first | ((repeat (first | with_reducible apply WF_uI | with_reducible apply WF_uL | with_reducible apply WF_th | with_reducible apply WF_fillL | with_reducible apply WF_fgt)); with_reducible assumption) | omega | (simp only [uI_1, uL_1, th_1, uI_R, uL_R]; with_reducible assumption)) only [e_352, b_352_0, ↓gR_137_97, ↓ld_214, ↓st_214, ↓ln_214, ↓gR_137_50, ↓ld_172, ↓st_172, ↓ln_172, ↓gR_137_46, ↓ld_168, ↓st_168, ↓ln_168, ↓gR_137_93, ↓ld_210, ↓st_210, ↓ln_210, ↓gR_137_47, ↓ld_169, ↓st_169, ↓ln_169, ↓gR_137_94, ↓ld_211, ↓st_211, ↓ln_211, ↓gR_137_49, ↓ld_171, ↓st_171, ↓ln_171, ↓gR_137_96, ↓ld_213, ↓st_213, ↓ln_213, ↓gR_137_51, ↓ld_173, ↓st_173, ↓ln_173, ↓gR_137_10, ↓ld_143, ↓st_143, ↓ln_143, ↓gR_137_52, ↓ld_174, ↓st_174, ↓ln_174, ↓gR_137_95, ↓ld_212, ↓st_212, ↓ln_212, p0, p1, p4, p5, p6, p7, e1, e2, e3, e4, e5, z1', z2', z4', z1, z2, z4, fl, ↓reduceIte, i10, av_cI_r, av_cL_r, av_cV_r, Option.bind_some, ↓zb_0, ↓zb_1, ↓zb_b, decide_true, Bool.true_and]
        by_cases z5 : K c < D 5
        · rw [if_pos (pk_sneg (by omega) z5), decide_eq_false (show ¬ (D 5 ≤ K c ∧ K c < D 5 + D 6) by omega), Bool.false_and]
          rfl
        · rw [pk_sub (show D 5 ≤ K c by omega), if_neg (nI_pos (by omega))]
          by_cases z6 : K c < D 5 + D 6
          · have lt := hrs_lt b7 bH (show K c - D 5 < D 6 by omega)
            rw [if_pos (nI_lt (by omega) (by omega)), pk_mul, pk_sub (Nat.le_of_lt lt), decide_eq_true (show D 5 ≤ K c ∧ K c < D 5 + D 6 by omega), Bool.true_and]
            by_cases y1 : F c < D 3 - D 7 * (K c - D 5)
            · rw [if_pos (nI_lt y1 (by omega))]
              by_cases y2 : F c + D 7 < D 3 - D 7 * (K c - D 5)
              · rw [if_pos ((lt_sub (by omega) (by omega) (by omega)).mpr y2), decide_eq_false (by omega)]
                rfl
              · rw [if_neg (fun y => y2 ((lt_sub (by omega) (by omega) (by omega)).mp y)), decide_eq_true (by omega)]
                rfl
            · rw [if_neg (nI_nlt (by omega) (by omega)), decide_eq_false (by omega)]
              rfl
          · rw [if_neg (nI_nlt (by omega) (by omega)), decide_eq_false (show ¬ (D 5 ≤ K c ∧ K c < D 5 + D 6) by omega), Bool.false_and]
            rfl
      · have z4' : ¬ nI (D 4) = nI (E c) := fun y => z4 ((nI_eq (by omega) (by omega)).mp y)
        simp (disch := first | ((repeat (first | with_reducible apply WF_uI | with_reducible apply WF_uL | with_reducible apply WF_th | with_reducible apply WF_fillL | with_reducible apply WF_fgt)); with_reducible assumption) | omega | (simp only [uI_1, uL_1, th_1, uI_R, uL_R]; with_reducible assumption)) only [e_352, b_352_0, ↓gR_137_97, ↓ld_214, ↓st_214, ↓ln_214, ↓gR_137_50, ↓ld_172, ↓st_172, ↓ln_172, ↓gR_137_46, ↓ld_168, ↓st_168, ↓ln_168, ↓gR_137_93, ↓ld_210, ↓st_210, ↓ln_210, ↓gR_137_47, ↓ld_169, ↓st_169, ↓ln_169, ↓gR_137_94, ↓ld_211, ↓st_211, ↓ln_211, ↓gR_137_49, ↓ld_171, ↓st_171, ↓ln_171, ↓gR_137_96, ↓ld_213, ↓st_213, ↓ln_213, ↓gR_137_51, ↓ld_173, ↓st_173, ↓ln_173, ↓gR_137_10, ↓ld_143, ↓st_143, ↓ln_143, ↓gR_137_52, ↓ld_174, ↓st_174, ↓ln_174, ↓gR_137_95, ↓ld_212, ↓st_212, ↓ln_212, p0, p1, p4, p5, p6, p7, e1, e2, e3, e4, e5, z1', z2', z4', z1, z2, z4, fl, ↓reduceIte, i10, av_cI_r, av_cL_r, av_cV_r, Option.bind_some, ↓zb_0, ↓zb_1, ↓zb_b, decide_true, Bool.true_and, decide_false, Bool.false_and, bI_f]
    · have z2' : ¬ nI (D 1) = nI (S c) := fun y => z2 ((nI_eq (by omega) (by omega)).mp y)
      simp (disch := first | ((repeat (first | with_reducible apply WF_uI | with_reducible apply WF_uL | with_reducible apply WF_th | with_reducible apply WF_fillL | with_reducible apply WF_fgt)); with_reducible assumption) | omega | (simp only [uI_1, uL_1, th_1, uI_R, uL_R]; with_reducible assumption)) only [e_352, b_352_0, ↓gR_137_97, ↓ld_214, ↓st_214, ↓ln_214, ↓gR_137_50, ↓ld_172, ↓st_172, ↓ln_172, ↓gR_137_46, ↓ld_168, ↓st_168, ↓ln_168, ↓gR_137_93, ↓ld_210, ↓st_210, ↓ln_210, ↓gR_137_47, ↓ld_169, ↓st_169, ↓ln_169, ↓gR_137_94, ↓ld_211, ↓st_211, ↓ln_211, ↓gR_137_49, ↓ld_171, ↓st_171, ↓ln_171, ↓gR_137_96, ↓ld_213, ↓st_213, ↓ln_213, ↓gR_137_51, ↓ld_173, ↓st_173, ↓ln_173, ↓gR_137_10, ↓ld_143, ↓st_143, ↓ln_143, ↓gR_137_52, ↓ld_174, ↓st_174, ↓ln_174, ↓gR_137_95, ↓ld_212, ↓st_212, ↓ln_212, p0, p1, p4, p5, p6, p7, e1, e2, e3, e4, e5, z1', z2', z1, z2, fl, ↓reduceIte, i10, av_cI_r, av_cL_r, av_cV_r, Option.bind_some, ↓zb_0, ↓zb_1, ↓zb_b, decide_true, Bool.true_and, decide_false, Bool.false_and, bI_f]
  · have z1' : ¬ nI (D 0) = nI (T c) := fun y => z1 ((nI_eq (by omega) (by omega)).mp y)
    simp (disch := first | ((repeat (first | with_reducible apply WF_uI | with_reducible apply WF_uL | with_reducible apply WF_th | with_reducible apply WF_fillL | with_reducible apply WF_fgt)); with_reducible assumption) | omega | (simp only [uI_1, uL_1, th_1, uI_R, uL_R]; with_reducible assumption)) only [e_352, b_352_0, ↓gR_137_97, ↓ld_214, ↓st_214, ↓ln_214, ↓gR_137_50, ↓ld_172, ↓st_172, ↓ln_172, ↓gR_137_46, ↓ld_168, ↓st_168, ↓ln_168, ↓gR_137_93, ↓ld_210, ↓st_210, ↓ln_210, ↓gR_137_47, ↓ld_169, ↓st_169, ↓ln_169, ↓gR_137_94, ↓ld_211, ↓st_211, ↓ln_211, ↓gR_137_49, ↓ld_171, ↓st_171, ↓ln_171, ↓gR_137_96, ↓ld_213, ↓st_213, ↓ln_213, ↓gR_137_51, ↓ld_173, ↓st_173, ↓ln_173, ↓gR_137_10, ↓ld_143, ↓st_143, ↓ln_143, ↓gR_137_52, ↓ld_174, ↓st_174, ↓ln_174, ↓gR_137_95, ↓ld_212, ↓st_212, ↓ln_212, p0, p1, p4, p5, p6, p7, e1, e2, e3, e4, e5, z1', z1, ↓reduceIte, i10, av_cI_r, av_cL_r, av_cV_r, Option.bind_some, ↓zb_0, ↓zb_1, ↓zb_b, decide_false, Bool.false_and, bI_f]
theorem s_pass' {i c M N m : Nat} {D T S F E K : Nat → Nat} (w : WF h) (hi : i < 60) (P : dpr h i D N) (B : dpb D M N) (Cb : coB m T S F E K) (C : coQ h m T S F E K) (hc : c < m) (fl : h.2.1 143 (D 0) = nI (D 3)) {β : Type} (Kc : Int32 × av_H → Option β) : (av_cI (ev X (d + 1) 352 [vr (some 137), vi (nI i), vi (nI c)] h)).bind Kc = Kc (bI (psB D (T c) (S c) (F c) (E c) (K c)), h) := by rw [s_pass w hi P B Cb C hc fl]; rfl
end
