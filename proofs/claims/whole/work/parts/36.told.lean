/-! nests, films, complaints -/
theorem pan_ex {h : av_H} (J : J_tow h) {t s f c : Int32} (q : isPan h t s f c = true) : ∃ t' s' f' c' : Nat, t' < 6 ∧ s' < 4 ∧ f' < 12 ∧ c' < 10 ∧ t = nI t' ∧ s = nI s' ∧ f = nI f' ∧ c = nI c' := by
  simp only [isPan, Bool.and_eq_true] at q
  obtain ⟨⟨⟨q1, q2⟩, q3⟩, q4⟩ := q
  obtain ⟨j, a, h6, rfl, hj, T⟩ := told_ex J q1
  obtain ⟨F, C, W, L, V, p1, p2, p3, p4, -, -, -, -, -, -, r2, -, r4, -⟩ := T.2.2.2.2.2.2.1
  obtain ⟨s', hs, rfl⟩ := rg_nI (b := 3) (by decide) q2
  rw [nI_clamp (by omega), r2, toI_nI (by omega)] at q3
  rw [nI_clamp (by omega), r4, toI_nI (by omega)] at q4
  obtain ⟨f', hf, rfl⟩ := rg_nI (b := F - 1) (by omega) (by rw [show ((F - 1 : Nat) : Int) = (F : Int) - 1 by omega]; exact q3)
  obtain ⟨c', hc, rfl⟩ := rg_nI (b := C - 1) (by omega) (by rw [show ((C - 1 : Nat) : Int) = (C : Int) - 1 by omega]; exact q4)
  exact ⟨j, s', f', c', h6, by omega, by omega, by omega, rfl, rfl, rfl, rfl⟩
theorem tow_ex {h : av_H} (J : J_tow h) {t s : Int32} (q : told h t = true) (q2 : rg s 0 3 = true) : ∃ t' s' : Nat, t' < 6 ∧ s' < 4 ∧ t = nI t' ∧ s = nI s' := by
  obtain ⟨j, a, h6, rfl, hj, T⟩ := told_ex J q
  obtain ⟨s', hs, rfl⟩ := rg_nI (b := 3) (by decide) q2
  exact ⟨j, s', h6, by omega, rfl, rfl⟩
theorem isPan_eq2 {h h' : av_H} (e : ∀ k, h'.2.1 143 k = h.2.1 143 k) (e2 : ∀ k, h'.2.1 144 k = h.2.1 144 k) (t s f c : Int32) : isPan h' t s f c = isPan h t s f c := by simp only [isPan, told, e, e2]
section
variable {X : av_X} {d : Nat} {h : av_H}
theorem gIv_137_18 {β : Type} {g : av_H} (w : WF g) {v : Int32} (e : g.2.1 137 18 = v) (K : Int32 → Option β) : (av_gI g (some 137) 11 18).bind K = K v := by rw [gI_137_18 w, e]
theorem gIv_137_85 {β : Type} {g : av_H} (w : WF g) {v : Int32} (e : g.2.1 137 85 = v) (K : Int32 → Option β) : (av_gI g (some 137) 11 85).bind K = K v := by rw [gI_137_85 w, e]
theorem gIv_137_92 {β : Type} {g : av_H} (w : WF g) {v : Int32} (e : g.2.1 137 92 = v) (K : Int32 → Option β) : (av_gI g (some 137) 11 92).bind K = K v := by rw [gI_137_92 w, e]
/-- days and hours told -/
def dys (a b : Int32) : Bool := rg a 0 99 && rg b 0 99 && decide (a ≤ b)
def hrs (a b : Int32) : Bool := rg a 0 23 && rg b 0 23 && decide (a ≤ b)
theorem dys_e {a b : Int32} : (rg a 0 99 && rg b 0 99 && decide (a ≤ b)) = dys a b := rfl
theorem hrs_e {a b : Int32} : (rg a 0 23 && rg b 0 23 && decide (a ≤ b)) = hrs a b := rfl
/-- the nests on both sides -/
def J_ne (h : av_H) : Prop := ∃ m, m ≤ 20 ∧ h.2.1 3 5 = nI m ∧ h.2.1 137 18 = nI m ∧ ∀ i, i < m →
  (∃ t s f c, t < 6 ∧ s < 4 ∧ f < 12 ∧ c < 10 ∧ h.2.1 4 i = nI (((t * 4 + s) * 10 + c) * 12 + f) ∧ h.2.1 151 i = nI (((4 * t + s) * 12 + f) * 10 + c)) ∧
  h.2.1 152 i = h.2.1 5 i ∧ h.2.1 153 i = h.2.1 6 i ∧ h.2.1 7 i = 0 ∧ h.2.1 8 i = nI 23
theorem J_ne.fr {h h' : av_H} (J : J_ne h) (A : agr (FP false [4, 5, 6, 7, 8, 151, 152, 153] [(3, 5), (137, 18)]) h h') : J_ne h' := by
  obtain ⟨m, h1, h2, h3, h4⟩ := J
  refine ⟨m, h1, (A.I rfl).trans h2, (A.I rfl).trans h3, fun i hi => ?_⟩
  rw [A.I rfl, A.I rfl, A.I rfl, A.I rfl, A.I rfl, A.I rfl, A.I rfl, A.I rfl]
  exact h4 i hi
/-- a nest may be told -/
def okN (h : av_H) (m : Nat) (t s f c a b : Int32) : Bool := isPan h t s f c && dys a b && decide (m < 20)
theorem C_nest0 (w : WF h) (J : J_tow h) {m : Nat} (hm : h.2.1 3 5 = nI m) (hN : m ≤ 20) (t s f c a b : Int32) (ok : okN h m t s f c a b = false) : ev X (d + 5) 129 [vr (some 0), vi t, vi s, vi f, vi c, vi a, vi b] h = av_rI 0 h := by
  simp (disch := first | ((repeat (first | with_reducible apply WF_uI | with_reducible apply WF_uL | with_reducible apply WF_th)); with_reducible assumption) | omega | (simp only [uI_1, uL_1, th_1, uI_R, uL_R]; with_reducible assumption)) only [e_129, b_129_0, ↓is_0, ↓gR_0_2, ↓is_3, ↓c_isPane', ↓c_areDays', dys_e, ↓reduceIte, i10, av_cI_r, av_cL_r, av_cV_r, Option.bind_some, ↓zb_0, ↓zb_1, ↓zb_b, bI_0]
  cases q1 : isPan h t s f c <;> cases q2 : dys a b <;> simp only [if_true, if_false, Bool.true_eq_false]
  obtain ⟨t, s, f, c, b1, b2, b3, b4, rfl, rfl, rfl, rfl⟩ := pan_ex J q1
  have q : ¬ m < 20 := by simpa only [okN, q1, q2, Bool.true_and, decide_eq_false_iff_not] using ok
  simp (disch := first | ((repeat (first | with_reducible apply WF_uI | with_reducible apply WF_uL | with_reducible apply WF_th)); with_reducible assumption) | omega | (simp only [uI_1, uL_1, th_1, uI_R, uL_R]; with_reducible assumption)) only [↓c_paneP', ↓add_3', ↓is_3, ↓reduceIte, i10, av_cI_r, av_cL_r, av_cV_r, Option.bind_some, ↓zb_0, ↓zb_1, ↓zb_b, q, if_false, decide_false, bI_f]
theorem C_nest1 (w : WF h) (J : J_tow h) {m : Nat} (hm : h.2.1 3 5 = nI m) (hN : m ≤ 20) (t s f c : Nat) (a b : Int32) (ok : okN h m (nI t) (nI s) (nI f) (nI c) a b = true) : ev X (d + 5) 129 [vr (some 0), vi (nI t), vi (nI s), vi (nI f), vi (nI c), vi a, vi b] h = av_rI 1 (spW_3 h m (nI (((t * 4 + s) * 10 + c) * 12 + f)) a b 0 23) := by
  simp only [okN, Bool.and_eq_true, decide_eq_true_eq] at ok
  obtain ⟨⟨q1, q2⟩, q⟩ := ok
  simp (disch := first | ((repeat (first | with_reducible apply WF_uI | with_reducible apply WF_uL | with_reducible apply WF_th)); with_reducible assumption) | omega | (simp only [uI_1, uL_1, th_1, uI_R, uL_R]; with_reducible assumption)) only [e_129, b_129_0, ↓is_0, ↓gR_0_2, ↓is_3, ↓c_isPane', ↓c_areDays', dys_e, ↓reduceIte, i10, av_cI_r, av_cL_r, av_cV_r, Option.bind_some, ↓zb_0, ↓zb_1, ↓zb_b, bI_0, q1, q2, Bool.true_eq_false, if_false, ↓c_paneP', ↓add_3', q, if_true, decide_true, bI_t]
def neR (h : av_H) (m : Nat) (p a b : Int32) : av_H := av_uI (av_uI (av_uI (av_uI (th h) 151 m p) 152 m a) 153 m b) 137 18 (nI (m + 1))
theorem isPan_th {t s f c : Int32} : isPan (th h) t s f c = isPan h t s f c := isPan_eq2 (fun _ => by rw [th_I (by decide)]) (fun _ => by rw [th_I (by decide)]) t s f c
theorem R_tow.th (J : R_tow h) : R_tow (th h) := J.fr (agr.uI rfl agr.rfl)
theorem R_nest0 (w : WF h) (J : R_tow h) {m : Nat} (hm : h.2.1 137 18 = nI m) (hN : m ≤ 20) (t s f c a b : Int32) (ok : okN h m t s f c a b = false) : ev X (d + 4) 264 [vr (some 137), vi t, vi s, vi f, vi c, vi a, vi b] h = av_rI 0 (th h) := by
  have J2 := J.th
  have hg : (a ≤ b) = ¬ b < a := by simp only [eq_iff_iff]; exact Int32.not_lt.symm
  simp (disch := first | ((repeat (first | with_reducible apply WF_uI | with_reducible apply WF_uL | with_reducible apply WF_th)); with_reducible assumption) | omega | (simp (disch := omega) only [uI_ne, uI_nk, uI_eq, nI_1, th_I, th_k, hm]; done) | (simp only [uI_1, uL_1, th_1, uI_R, uL_R]; with_reducible assumption)) only [e_264, b_264_0, ↓gIv_137_18 (v := nI m), ↓pI_137, ↓is_137, th_e, ↓s_isPane', ↓s_isDay', ↓reduceIte, i10, av_cI_r, av_cL_r, av_cV_r, Option.bind_some, ↓zb_0, ↓zb_1, ↓zb_b, bI_0, isPan_th]
  cases q1 : isPan h t s f c <;> cases q2 : rg a 0 99 <;> cases q3 : rg b 0 99 <;> by_cases q5 : b < a <;> simp only [q5, if_true, if_false, Bool.true_eq_false]
  have q6 : m = 20 := by
    have : ¬ m < 20 := by simpa [okN, dys, q1, q2, q3, hg, q5] using ok
    omega
  simp only [q6, if_true, nI_lit]
theorem R_nest1 (w : WF h) (J : R_tow h) {m : Nat} (hm : h.2.1 137 18 = nI m) (hN : m ≤ 20) (t s f c : Nat) (a b : Int32) (ok : okN h m (nI t) (nI s) (nI f) (nI c) a b = true) : ev X (d + 4) 264 [vr (some 137), vi (nI t), vi (nI s), vi (nI f), vi (nI c), vi a, vi b] h = av_rI 1 (neR h m (nI (((4 * t + s) * 12 + f) * 10 + c)) a b) := by
  have J2 := J.th
  have hg : (a ≤ b) = ¬ b < a := by simp only [eq_iff_iff]; exact Int32.not_lt.symm
  simp only [okN, dys, hg, Bool.and_eq_true, decide_eq_true_eq] at ok
  obtain ⟨⟨q1, ⟨q2, q3⟩, q5⟩, q⟩ := ok
  have q6 : ¬ m = 20 := by omega
  simp (disch := first | ((repeat (first | with_reducible apply WF_uI | with_reducible apply WF_uL | with_reducible apply WF_th)); with_reducible assumption) | omega | (simp (disch := omega) only [uI_ne, uI_nk, uI_eq, nI_1, th_I, th_k, hm]; done) | (simp only [uI_1, uL_1, th_1, uI_R, uL_R]; with_reducible assumption)) only [e_264, b_264_0, ↓gIv_137_18 (v := nI m), ↓pI_137, ↓is_137, ↓gR_137_19, ↓ld_151, ↓st_151, ↓ln_151, ↓gR_137_20, ↓ld_152, ↓st_152, ↓ln_152, ↓gR_137_21, ↓ld_153, ↓st_153, ↓ln_153, th_e, ↓s_isPane', ↓s_isDay', ↓s_paneOf', ↓reduceIte, i10, av_cI_r, av_cL_r, av_cV_r, Option.bind_some, ↓zb_0, ↓zb_1, ↓zb_b, bI_0, isPan_th, q1, q2, q3, q5, q6, lit_20, nI_1, nI_eq, Bool.true_eq_false, neR]
theorem nest_ok (w : WF h) (J : J_tow h) (N : J_ne h) (t s f c a b : Int32) : ∃ v h1 h2, ev X (d + 5) 129 [vr (some 0), vi t, vi s, vi f, vi c, vi a, vi b] h = av_rI v h1 ∧ ev X (d + 5) 264 [vr (some 137), vi t, vi s, vi f, vi c, vi a, vi b] h1 = av_rI v h2 ∧ WF h2 ∧ J_ne h2 ∧
    off false [4, 5, 6, 7, 8, 151, 152, 153] [(3, 5), (137, 18), (137, 0)] h h2 := by
  have N0 := N
  obtain ⟨m, hN, hm, hr, hi⟩ := N
  cases ok : okN h m t s f c a b with
  | false =>
    exact ⟨0, h, th h, C_nest0 w J hm hN t s f c a b ok, R_nest0 (d := d + 1) w J.R hr hN t s f c a b ok, w, N0.fr (agr.uI rfl agr.rfl), agr.uI rfl agr.rfl⟩
  | true =>
    have hp : isPan h t s f c = true := by simp only [okN, Bool.and_eq_true] at ok; exact ok.1.1
    have h20 : m < 20 := by simp only [okN, Bool.and_eq_true, decide_eq_true_eq] at ok; exact ok.2
    obtain ⟨t, s, f, c, b1, b2, b3, b4, rfl, rfl, rfl, rfl⟩ := pan_ex J hp
    refine ⟨1, _, _, C_nest1 w J hm hN t s f c a b ok, R_nest1 (d := d + 1) (m := m) (h := spW_3 h m (nI (((t * 4 + s) * 10 + c) * 12 + f)) a b 0 23) w (J.R.fr ?_) (by simp (disch := omega) only [spW_3, uI_ne, hr]) hN t s f c a b ?_, w, ⟨m + 1, by omega, ?_, ?_, fun i hi' => ?_⟩, ?_⟩
    · unfold spW_3
      repeat (first | refine agr.uI rfl ?_ | exact agr.rfl)
    · rw [← ok]
      simp only [okN]
      rw [isPan_eq2 (h := h) (fun k => by simp (disch := omega) only [spW_3, uI_ne]) (fun k => by simp (disch := omega) only [spW_3, uI_ne])]
    · simp (disch := omega) only [neR, spW_3, th, uI_ne, uI_nk, uI_eq]
    · simp (disch := omega) only [neR, uI_eq]
    · by_cases q : i = m
      · subst q
        refine ⟨⟨t, s, f, c, b1, b2, b3, b4, ?_, ?_⟩, ?_, ?_, ?_, ?_⟩ <;> simp (disch := omega) only [neR, spW_3, th, uI_ne, uI_nk, uI_eq, nI_lit]
      · simp (disch := omega) only [neR, spW_3, th, uI_ne, uI_nk, uI_eq]
        exact hi i (by omega)
    · unfold neR spW_3 th off
      repeat (first | refine agr.uI rfl ?_ | exact agr.rfl)
/-- the films on both sides -/
def J_fi (h : av_H) : Prop := ∃ m, m ≤ 12 ∧ h.2.1 15 5 = nI m ∧ h.2.1 137 85 = nI m ∧ ∀ i, i < m →
  (∃ t s, t < 6 ∧ s < 4 ∧ h.2.1 16 i = nI (t * 4 + s) ∧ h.2.1 204 i = nI t ∧ h.2.1 205 i = nI s) ∧
  h.2.1 206 i = h.2.1 17 i ∧ h.2.1 207 i = h.2.1 18 i ∧ ∃ a b, a ≤ b ∧ b < 24 ∧ h.2.1 19 i = nI a ∧ h.2.1 208 i = nI a ∧ h.2.1 20 i = nI b ∧ h.2.1 209 i = nI b
theorem J_fi.fr {h h' : av_H} (J : J_fi h) (A : agr (FP false [16, 17, 18, 19, 20, 204, 205, 206, 207, 208, 209] [(15, 5), (137, 85)]) h h') : J_fi h' := by
  obtain ⟨m, h1, h2, h3, h4⟩ := J
  refine ⟨m, h1, (A.I rfl).trans h2, (A.I rfl).trans h3, fun i hi => ?_⟩
  rw [A.I rfl, A.I rfl, A.I rfl, A.I rfl, A.I rfl, A.I rfl, A.I rfl, A.I rfl, A.I rfl, A.I rfl, A.I rfl]
  exact h4 i hi
theorem dys_ex {a b : Int32} (q : dys a b = true) : ∃ a' b' : Nat, a' ≤ b' ∧ b' < 100 ∧ a = nI a' ∧ b = nI b' := by
  simp only [dys, Bool.and_eq_true, decide_eq_true_eq] at q
  obtain ⟨⟨q1, q2⟩, q3⟩ := q
  obtain ⟨a', h1, rfl⟩ := rg_nI (b := 99) (by decide) q1
  obtain ⟨b', h2, rfl⟩ := rg_nI (b := 99) (by decide) q2
  rw [i_le, toI_nI (by omega), toI_nI (by omega)] at q3
  exact ⟨a', b', by omega, by omega, rfl, rfl⟩
theorem hrs_ex {a b : Int32} (q : hrs a b = true) : ∃ a' b' : Nat, a' ≤ b' ∧ b' < 24 ∧ a = nI a' ∧ b = nI b' := by
  simp only [hrs, Bool.and_eq_true, decide_eq_true_eq] at q
  obtain ⟨⟨q1, q2⟩, q3⟩ := q
  obtain ⟨a', h1, rfl⟩ := rg_nI (b := 23) (by decide) q1
  obtain ⟨b', h2, rfl⟩ := rg_nI (b := 23) (by decide) q2
  rw [i_le, toI_nI (by omega), toI_nI (by omega)] at q3
  exact ⟨a', b', by omega, by omega, rfl, rfl⟩
def okF (h : av_H) (m : Nat) (t s a b f g : Int32) : Bool := told h t && rg s 0 3 && dys a b && hrs f g && decide (m < 12)
theorem C_film0 (w : WF h) (J : J_tow h) {m : Nat} (hm : h.2.1 15 5 = nI m) (hN : m ≤ 12) (t s a b f g : Int32) (ok : okF h m t s a b f g = false) : ev X (d + 4) 167 [vr (some 0), vi t, vi s, vi a, vi b, vi f, vi g] h = av_rI 0 h := by
  simp (disch := first | ((repeat (first | with_reducible apply WF_uI | with_reducible apply WF_uL | with_reducible apply WF_th)); with_reducible assumption) | omega | (simp only [uI_1, uL_1, th_1, uI_R, uL_R]; with_reducible assumption)) only [e_167, b_167_0, ↓is_0, ↓gR_0_4, ↓c_isTold', ↓c_isSide', ↓c_areDays', ↓c_areHours', dys_e, hrs_e, ↓reduceIte, i10, av_cI_r, av_cL_r, av_cV_r, Option.bind_some, ↓zb_0, ↓zb_1, ↓zb_b, bI_0]
  cases q1 : told h t <;> cases q2 : rg s 0 3 <;> cases q3 : dys a b <;> cases q4 : hrs f g <;> simp only [if_true, if_false, Bool.true_eq_false]
  obtain ⟨t, s, b1, b2, rfl, rfl⟩ := tow_ex J q1 q2
  have q : ¬ m < 12 := by simpa only [okF, q1, q2, q3, q4, Bool.true_and, decide_eq_false_iff_not] using ok
  simp (disch := first | ((repeat (first | with_reducible apply WF_uI | with_reducible apply WF_uL | with_reducible apply WF_th)); with_reducible assumption) | omega | (simp only [uI_1, uL_1, th_1, uI_R, uL_R]; with_reducible assumption)) only [↓c_sideP', ↓add_15', ↓is_15, ↓reduceIte, i10, av_cI_r, av_cL_r, av_cV_r, Option.bind_some, ↓zb_0, ↓zb_1, ↓zb_b, q, if_false, decide_false, bI_f]
theorem C_film1 (w : WF h) (J : J_tow h) {m : Nat} (hm : h.2.1 15 5 = nI m) (hN : m ≤ 12) (t s : Nat) (a b f g : Int32) (ok : okF h m (nI t) (nI s) a b f g = true) : ev X (d + 4) 167 [vr (some 0), vi (nI t), vi (nI s), vi a, vi b, vi f, vi g] h = av_rI 1 (spW_15 h m (nI (t * 4 + s)) a b f g) := by
  simp only [okF, Bool.and_eq_true, decide_eq_true_eq] at ok
  obtain ⟨⟨⟨⟨q1, q2⟩, q3⟩, q4⟩, q⟩ := ok
  simp (disch := first | ((repeat (first | with_reducible apply WF_uI | with_reducible apply WF_uL | with_reducible apply WF_th)); with_reducible assumption) | omega | (simp only [uI_1, uL_1, th_1, uI_R, uL_R]; with_reducible assumption)) only [e_167, b_167_0, ↓is_0, ↓gR_0_4, ↓c_isTold', ↓c_isSide', ↓c_areDays', ↓c_areHours', dys_e, hrs_e, ↓reduceIte, i10, av_cI_r, av_cL_r, av_cV_r, Option.bind_some, ↓zb_0, ↓zb_1, ↓zb_b, bI_0, q1, q2, q3, q4, Bool.true_eq_false, if_false, ↓c_sideP', ↓add_15', ↓is_15, q, if_true, decide_true, bI_t]
def fiR (h : av_H) (m : Nat) (t s a b f g : Int32) : av_H := av_uI (av_uI (av_uI (av_uI (av_uI (av_uI (av_uI (th h) 204 m t) 205 m s) 206 m a) 207 m b) 208 m f) 209 m g) 137 85 (nI (m + 1))
theorem R_film0 (w : WF h) {m : Nat} (hm : h.2.1 137 85 = nI m) (hN : m ≤ 12) (t s a b f g : Int32) (ok : okF h m t s a b f g = false) : ev X (d + 3) 348 [vr (some 137), vi t, vi s, vi a, vi b, vi f, vi g] h = av_rI 0 (th h) := by
  have hg : (a ≤ b) = ¬ b < a := by simp only [eq_iff_iff]; exact Int32.not_lt.symm
  have hk : (f ≤ g) = ¬ g < f := by simp only [eq_iff_iff]; exact Int32.not_lt.symm
  rcases bdi (told h t) with q1 | q1
  · simp (disch := first | ((repeat (first | with_reducible apply WF_uI | with_reducible apply WF_uL | with_reducible apply WF_th)); with_reducible assumption) | omega | (simp (disch := omega) only [uI_ne, uI_nk, uI_eq, nI_1, th_I, th_k, hm]; done) | (simp only [uI_1, uL_1, th_1, uI_R, uL_R]; with_reducible assumption)) only [e_348, b_348_0, ↓pI_137, ↓is_137, th_e, ↓s_isTower', ↓s_isSide', ↓s_isDay', ↓s_isHour', ↓reduceIte, i10, av_cI_r, av_cL_r, av_cV_r, Option.bind_some, ↓zb_0, ↓zb_1, ↓zb_b, bI_0, told_th, q1, Bool.true_eq_false]
  rcases bdi (rg s 0 3) with q2 | q2
  · simp (disch := first | ((repeat (first | with_reducible apply WF_uI | with_reducible apply WF_uL | with_reducible apply WF_th)); with_reducible assumption) | omega | (simp (disch := omega) only [uI_ne, uI_nk, uI_eq, nI_1, th_I, th_k, hm]; done) | (simp only [uI_1, uL_1, th_1, uI_R, uL_R]; with_reducible assumption)) only [e_348, b_348_0, ↓pI_137, ↓is_137, th_e, ↓s_isTower', ↓s_isSide', ↓s_isDay', ↓s_isHour', ↓reduceIte, i10, av_cI_r, av_cL_r, av_cV_r, Option.bind_some, ↓zb_0, ↓zb_1, ↓zb_b, bI_0, told_th, q1, q2, Bool.true_eq_false]
  rcases bdi (rg a 0 99) with q3 | q3
  · simp (disch := first | ((repeat (first | with_reducible apply WF_uI | with_reducible apply WF_uL | with_reducible apply WF_th)); with_reducible assumption) | omega | (simp (disch := omega) only [uI_ne, uI_nk, uI_eq, nI_1, th_I, th_k, hm]; done) | (simp only [uI_1, uL_1, th_1, uI_R, uL_R]; with_reducible assumption)) only [e_348, b_348_0, ↓pI_137, ↓is_137, th_e, ↓s_isTower', ↓s_isSide', ↓s_isDay', ↓s_isHour', ↓reduceIte, i10, av_cI_r, av_cL_r, av_cV_r, Option.bind_some, ↓zb_0, ↓zb_1, ↓zb_b, bI_0, told_th, q1, q2, q3, Bool.true_eq_false]
  rcases bdi (rg b 0 99) with q4 | q4
  · simp (disch := first | ((repeat (first | with_reducible apply WF_uI | with_reducible apply WF_uL | with_reducible apply WF_th)); with_reducible assumption) | omega | (simp (disch := omega) only [uI_ne, uI_nk, uI_eq, nI_1, th_I, th_k, hm]; done) | (simp only [uI_1, uL_1, th_1, uI_R, uL_R]; with_reducible assumption)) only [e_348, b_348_0, ↓pI_137, ↓is_137, th_e, ↓s_isTower', ↓s_isSide', ↓s_isDay', ↓s_isHour', ↓reduceIte, i10, av_cI_r, av_cL_r, av_cV_r, Option.bind_some, ↓zb_0, ↓zb_1, ↓zb_b, bI_0, told_th, q1, q2, q3, q4, Bool.true_eq_false]
  rcases Classical.em (b < a) with q5 | q5
  · simp (disch := first | ((repeat (first | with_reducible apply WF_uI | with_reducible apply WF_uL | with_reducible apply WF_th)); with_reducible assumption) | omega | (simp (disch := omega) only [uI_ne, uI_nk, uI_eq, nI_1, th_I, th_k, hm]; done) | (simp only [uI_1, uL_1, th_1, uI_R, uL_R]; with_reducible assumption)) only [e_348, b_348_0, ↓pI_137, ↓is_137, th_e, ↓s_isTower', ↓s_isSide', ↓s_isDay', ↓s_isHour', ↓reduceIte, i10, av_cI_r, av_cL_r, av_cV_r, Option.bind_some, ↓zb_0, ↓zb_1, ↓zb_b, bI_0, told_th, q1, q2, q3, q4, q5, Bool.true_eq_false]
  rcases bdi (rg f 0 23) with q6 | q6
  · simp (disch := first | ((repeat (first | with_reducible apply WF_uI | with_reducible apply WF_uL | with_reducible apply WF_th)); with_reducible assumption) | omega | (simp (disch := omega) only [uI_ne, uI_nk, uI_eq, nI_1, th_I, th_k, hm]; done) | (simp only [uI_1, uL_1, th_1, uI_R, uL_R]; with_reducible assumption)) only [e_348, b_348_0, ↓pI_137, ↓is_137, th_e, ↓s_isTower', ↓s_isSide', ↓s_isDay', ↓s_isHour', ↓reduceIte, i10, av_cI_r, av_cL_r, av_cV_r, Option.bind_some, ↓zb_0, ↓zb_1, ↓zb_b, bI_0, told_th, q1, q2, q3, q4, q5, q6, Bool.true_eq_false]
  rcases bdi (rg g 0 23) with q7 | q7
  · simp (disch := first | ((repeat (first | with_reducible apply WF_uI | with_reducible apply WF_uL | with_reducible apply WF_th)); with_reducible assumption) | omega | (simp (disch := omega) only [uI_ne, uI_nk, uI_eq, nI_1, th_I, th_k, hm]; done) | (simp only [uI_1, uL_1, th_1, uI_R, uL_R]; with_reducible assumption)) only [e_348, b_348_0, ↓pI_137, ↓is_137, th_e, ↓s_isTower', ↓s_isSide', ↓s_isDay', ↓s_isHour', ↓reduceIte, i10, av_cI_r, av_cL_r, av_cV_r, Option.bind_some, ↓zb_0, ↓zb_1, ↓zb_b, bI_0, told_th, q1, q2, q3, q4, q5, q6, q7, Bool.true_eq_false]
  rcases Classical.em (g < f) with q8 | q8
  · simp (disch := first | ((repeat (first | with_reducible apply WF_uI | with_reducible apply WF_uL | with_reducible apply WF_th)); with_reducible assumption) | omega | (simp (disch := omega) only [uI_ne, uI_nk, uI_eq, nI_1, th_I, th_k, hm]; done) | (simp only [uI_1, uL_1, th_1, uI_R, uL_R]; with_reducible assumption)) only [e_348, b_348_0, ↓pI_137, ↓is_137, th_e, ↓s_isTower', ↓s_isSide', ↓s_isDay', ↓s_isHour', ↓reduceIte, i10, av_cI_r, av_cL_r, av_cV_r, Option.bind_some, ↓zb_0, ↓zb_1, ↓zb_b, bI_0, told_th, q1, q2, q3, q4, q5, q6, q7, q8, Bool.true_eq_false]
  have q9 : m = 12 := by
    have : ¬ m < 12 := by simpa [okF, dys, hrs, q1, q2, q3, q4, hg, hk, q5, q6, q7, q8] using ok
    omega
  subst q9
  simp (disch := first | ((repeat (first | with_reducible apply WF_uI | with_reducible apply WF_uL | with_reducible apply WF_th)); with_reducible assumption) | omega | (simp (disch := omega) only [uI_ne, uI_nk, uI_eq, nI_1, th_I, th_k, hm]; done) | (simp only [uI_1, uL_1, th_1, uI_R, uL_R]; with_reducible assumption)) only [e_348, b_348_0, ↓gIv_137_85 (v := nI 12), lit_12, ↓pI_137, ↓is_137, th_e, ↓s_isTower', ↓s_isSide', ↓s_isDay', ↓s_isHour', ↓reduceIte, i10, av_cI_r, av_cL_r, av_cV_r, Option.bind_some, ↓zb_0, ↓zb_1, ↓zb_b, bI_0, told_th, q1, q2, q3, q4, q5, q6, q7, q8, Bool.true_eq_false]
theorem R_film1 (w : WF h) {m : Nat} (hm : h.2.1 137 85 = nI m) (hN : m ≤ 12) (t s a b f g : Int32) (ok : okF h m t s a b f g = true) : ev X (d + 3) 348 [vr (some 137), vi t, vi s, vi a, vi b, vi f, vi g] h = av_rI 1 (fiR h m t s a b f g) := by
  have hg : (a ≤ b) = ¬ b < a := by simp only [eq_iff_iff]; exact Int32.not_lt.symm
  have hk : (f ≤ g) = ¬ g < f := by simp only [eq_iff_iff]; exact Int32.not_lt.symm
  simp only [okF, dys, hrs, hg, hk, Bool.and_eq_true, decide_eq_true_eq] at ok
  obtain ⟨⟨⟨⟨q1, q2⟩, ⟨q3, q4⟩, q5⟩, ⟨q6, q7⟩, q8⟩, q⟩ := ok
  have q9 : ¬ m = 12 := by omega
  simp (disch := first | ((repeat (first | with_reducible apply WF_uI | with_reducible apply WF_uL | with_reducible apply WF_th)); with_reducible assumption) | omega | (simp (disch := omega) only [uI_ne, uI_nk, uI_eq, nI_1, th_I, th_k, hm]; done) | (simp only [uI_1, uL_1, th_1, uI_R, uL_R]; with_reducible assumption)) only [e_348, b_348_0, ↓gIv_137_85 (v := nI m), ↓pI_137, ↓is_137, ↓gR_137_86, ↓ld_204, ↓st_204, ↓ln_204, ↓gR_137_87, ↓ld_205, ↓st_205, ↓ln_205, ↓gR_137_88, ↓ld_206, ↓st_206, ↓ln_206, ↓gR_137_89, ↓ld_207, ↓st_207, ↓ln_207, ↓gR_137_90, ↓ld_208, ↓st_208, ↓ln_208, ↓gR_137_91, ↓ld_209, ↓st_209, ↓ln_209, th_e, ↓s_isTower', ↓s_isSide', ↓s_isDay', ↓s_isHour', ↓reduceIte, i10, av_cI_r, av_cL_r, av_cV_r, Option.bind_some, ↓zb_0, ↓zb_1, ↓zb_b, bI_0, told_th, q1, q2, q3, q4, q5, q6, q7, q8, q9, lit_12, nI_1, nI_eq, Bool.true_eq_false, fiR]
theorem film_ok (w : WF h) (J : J_tow h) (N : J_fi h) (t s a b f g : Int32) : ∃ v h1 h2, ev X (d + 4) 167 [vr (some 0), vi t, vi s, vi a, vi b, vi f, vi g] h = av_rI v h1 ∧ ev X (d + 4) 348 [vr (some 137), vi t, vi s, vi a, vi b, vi f, vi g] h1 = av_rI v h2 ∧ WF h2 ∧ J_fi h2 ∧
    off false [16, 17, 18, 19, 20, 204, 205, 206, 207, 208, 209] [(15, 5), (137, 85), (137, 0)] h h2 := by
  have N0 := N
  obtain ⟨m, hN, hm, hr, hi⟩ := N
  cases ok : okF h m t s a b f g with
  | false =>
    exact ⟨0, h, th h, C_film0 w J hm hN t s a b f g ok, R_film0 (d := d + 1) w hr hN t s a b f g ok, w, N0.fr (agr.uI rfl agr.rfl), agr.uI rfl agr.rfl⟩
  | true =>
    obtain ⟨⟨⟨⟨q1, q2⟩, q3⟩, q4⟩, q⟩ : (((told h t = true ∧ rg s 0 3 = true) ∧ dys a b = true) ∧ hrs f g = true) ∧ m < 12 := by simpa only [okF, Bool.and_eq_true, decide_eq_true_eq] using ok
    obtain ⟨t, s, b1, b2, rfl, rfl⟩ := tow_ex J q1 q2
    obtain ⟨f, g, b3, b4, rfl, rfl⟩ := hrs_ex q4
    refine ⟨1, _, _, C_film1 w J hm hN t s a b (nI f) (nI g) ok, R_film1 (d := d + 1) (m := m) (h := spW_15 h m (nI (t * 4 + s)) a b (nI f) (nI g)) w (by simp (disch := omega) only [spW_15, uI_ne, hr]) hN (nI t) (nI s) a b (nI f) (nI g) ?_, w, ⟨m + 1, by omega, ?_, ?_, fun i hi' => ?_⟩, ?_⟩
    · rw [← ok]
      simp (disch := omega) only [okF, told, spW_15, uI_ne]
    · simp (disch := omega) only [fiR, spW_15, th, uI_ne, uI_nk, uI_eq]
    · simp (disch := omega) only [fiR, uI_eq]
    · by_cases q : i = m
      · subst q
        refine ⟨⟨t, s, b1, b2, ?_, ?_, ?_⟩, ?_, ?_, f, g, b3, b4, ?_, ?_, ?_, ?_⟩ <;> simp (disch := omega) only [fiR, spW_15, th, uI_ne, uI_nk, uI_eq]
      · simp (disch := omega) only [fiR, spW_15, th, uI_ne, uI_nk, uI_eq]
        exact hi i (by omega)
    · unfold fiR spW_15 th off
      repeat (first | refine agr.uI rfl ?_ | exact agr.rfl)
/-- the complaints on both sides -/
def J_co (h : av_H) : Prop := ∃ m, m ≤ 40 ∧ h.2.1 21 5 = nI m ∧ h.2.1 137 92 = nI m ∧ ∀ i, i < m →
  ∃ t s f e k, t < 6 ∧ s < 4 ∧ f < 12 ∧ e < 100 ∧ k < 24 ∧ h.2.1 22 i = nI ((t * 4 + s) * 12 + f) ∧ h.2.1 210 i = nI t ∧ h.2.1 211 i = nI s ∧ h.2.1 212 i = nI f ∧
  h.2.1 23 i = nI e ∧ h.2.1 213 i = nI e ∧ h.2.1 25 i = nI k ∧ h.2.1 214 i = nI k
theorem J_co.fr {h h' : av_H} (J : J_co h) (A : agr (FP false [22, 23, 25, 210, 211, 212, 213, 214] [(21, 5), (137, 92)]) h h') : J_co h' := by
  obtain ⟨m, h1, h2, h3, h4⟩ := J
  refine ⟨m, h1, (A.I rfl).trans h2, (A.I rfl).trans h3, fun i hi => ?_⟩
  rw [A.I rfl, A.I rfl, A.I rfl, A.I rfl, A.I rfl, A.I rfl, A.I rfl, A.I rfl]
  exact h4 i hi
def okC (h : av_H) (m : Nat) (t s f e k : Int32) : Bool := isPan h t s f 0 && rg e 0 99 && rg k 0 23 && decide (m < 40)
theorem C_comp0 (w : WF h) (J : J_tow h) {m : Nat} (hm : h.2.1 21 5 = nI m) (hN : m ≤ 40) (t s f e k : Int32) (ok : okC h m t s f e k = false) : ev X (d + 5) 169 [vr (some 0), vi t, vi s, vi f, vi e, vi k] h = av_rI (-1) h := by
  simp (disch := first | ((repeat (first | with_reducible apply WF_uI | with_reducible apply WF_uL | with_reducible apply WF_th)); with_reducible assumption) | omega | (simp only [uI_1, uL_1, th_1, uI_R, uL_R]; with_reducible assumption)) only [e_169, b_169_0, ↓is_0, ↓gR_0_5, ↓c_isPane', ↓c_isDay', ↓c_isHour', ↓reduceIte, i10, av_cI_r, av_cL_r, av_cV_r, Option.bind_some, ↓zb_0, ↓zb_1, ↓zb_b, bI_0]
  cases q1 : isPan h t s f 0 <;> cases q2 : rg e 0 99 <;> cases q3 : rg k 0 23 <;> simp only [if_true, if_false, Bool.true_eq_false]
  obtain ⟨t, s, f, c, b1, b2, b3, b4, rfl, rfl, rfl, -⟩ := pan_ex J q1
  have q : ¬ m < 40 := by simpa only [okC, q1, q2, q3, Bool.true_and, decide_eq_false_iff_not] using ok
  simp (disch := first | ((repeat (first | with_reducible apply WF_uI | with_reducible apply WF_uL | with_reducible apply WF_th)); with_reducible assumption) | omega | (simp only [uI_1, uL_1, th_1, uI_R, uL_R]; with_reducible assumption)) only [↓c_sideP', ↓add_21', ↓is_21, ↓reduceIte, i10, av_cI_r, av_cL_r, av_cV_r, Option.bind_some, ↓zb_0, ↓zb_1, ↓zb_b, q, if_false, decide_false, bI_f, if_true]
theorem C_comp1 (w : WF h) (J : J_tow h) {m : Nat} (hm : h.2.1 21 5 = nI m) (hN : m ≤ 40) (t s f : Nat) (e k : Int32) (ok : okC h m (nI t) (nI s) (nI f) e k = true) : ev X (d + 5) 169 [vr (some 0), vi (nI t), vi (nI s), vi (nI f), vi e, vi k] h = av_rI (nI m) (spW_21 h m (nI ((t * 4 + s) * 12 + f)) e e k k) := by
  simp only [okC, Bool.and_eq_true, decide_eq_true_eq] at ok
  obtain ⟨⟨⟨q1, q2⟩, q3⟩, q⟩ := ok
  have q0 : ¬ (1 : Int32) = 0 := by decide
  have w2 : WF (spW_21 h m (nI ((t * 4 + s) * 12 + f)) e e k k) := w
  have e5 : (spW_21 h m (nI ((t * 4 + s) * 12 + f)) e e k k).2.1 21 5 = nI (m + 1) := by simp only [spW_21, uI_eq]
  simp (disch := first | ((repeat (first | with_reducible apply WF_uI | with_reducible apply WF_uL | with_reducible apply WF_th)); with_reducible assumption) | omega | (simp only [uI_1, uL_1, th_1, uI_R, uL_R]; with_reducible assumption)) only [e_169, b_169_0, ↓is_0, ↓gR_0_5, ↓c_isPane', ↓c_isDay', ↓c_isHour', ↓reduceIte, i10, av_cI_r, av_cL_r, av_cV_r, Option.bind_some, ↓zb_0, ↓zb_1, ↓zb_b, bI_0, q1, q2, q3, Bool.true_eq_false, if_false, ↓c_sideP', ↓add_21', ↓is_21, lit_12, pk_mul, nI_add, q, decide_true, bI_t, q0, ↓gIv_21_5 (v := nI (m + 1)), nI_pred]
def coR (h : av_H) (m : Nat) (t s f e k : Int32) : av_H := av_uI (av_uI (av_uI (av_uI (av_uI (av_uI (th h) 210 m t) 211 m s) 212 m f) 213 m e) 214 m k) 137 92 (nI (m + 1))
theorem R_comp0 (w : WF h) (J : R_tow h) {m : Nat} (hm : h.2.1 137 92 = nI m) (hN : m ≤ 40) (t s f e k : Int32) (ok : okC h m t s f e k = false) : ev X (d + 4) 351 [vr (some 137), vi t, vi s, vi f, vi e, vi k] h = av_rI (-1) (th h) := by
  have J2 := J.th
  simp (disch := first | ((repeat (first | with_reducible apply WF_uI | with_reducible apply WF_uL | with_reducible apply WF_th)); with_reducible assumption) | omega | (simp (disch := omega) only [uI_ne, uI_nk, uI_eq, nI_1, th_I, th_k, hm]; done) | (simp only [uI_1, uL_1, th_1, uI_R, uL_R]; with_reducible assumption)) only [e_351, b_351_0, ↓gIv_137_92 (v := nI m), ↓pI_137, ↓is_137, th_e, ↓s_isPane', ↓s_isDay', ↓s_isHour', ↓reduceIte, i10, av_cI_r, av_cL_r, av_cV_r, Option.bind_some, ↓zb_0, ↓zb_1, ↓zb_b, bI_0, isPan_th]
  cases q1 : isPan h t s f 0 <;> cases q2 : rg e 0 99 <;> cases q3 : rg k 0 23 <;> simp only [if_true, if_false, Bool.true_eq_false]
  have q6 : m = 40 := by
    have : ¬ m < 40 := by simpa [okC, q1, q2, q3] using ok
    omega
  simp only [q6, if_true, nI_lit]
theorem R_comp1 (w : WF h) (J : R_tow h) {m : Nat} (hm : h.2.1 137 92 = nI m) (hN : m ≤ 40) (t s f e k : Int32) (ok : okC h m t s f e k = true) : ev X (d + 4) 351 [vr (some 137), vi t, vi s, vi f, vi e, vi k] h = av_rI (nI m) (coR h m t s f e k) := by
  have J2 := J.th
  simp only [okC, Bool.and_eq_true, decide_eq_true_eq] at ok
  obtain ⟨⟨⟨q1, q2⟩, q3⟩, q⟩ := ok
  have q9 : ¬ m = 40 := by omega
  simp (disch := first | ((repeat (first | with_reducible apply WF_uI | with_reducible apply WF_uL | with_reducible apply WF_th)); with_reducible assumption) | omega | (simp (disch := omega) only [uI_ne, uI_nk, uI_eq, nI_1, th_I, th_k, hm]; done) | (simp only [uI_1, uL_1, th_1, uI_R, uL_R]; with_reducible assumption)) only [e_351, b_351_0, ↓gIv_137_92 (v := nI m), ↓pI_137, ↓is_137, ↓gR_137_93, ↓ld_210, ↓st_210, ↓ln_210, ↓gR_137_94, ↓ld_211, ↓st_211, ↓ln_211, ↓gR_137_95, ↓ld_212, ↓st_212, ↓ln_212, ↓gR_137_96, ↓ld_213, ↓st_213, ↓ln_213, ↓gR_137_97, ↓ld_214, ↓st_214, ↓ln_214, th_e, ↓s_isPane', ↓s_isDay', ↓s_isHour', ↓reduceIte, i10, av_cI_r, av_cL_r, av_cV_r, Option.bind_some, ↓zb_0, ↓zb_1, ↓zb_b, bI_0, isPan_th, q1, q2, q3, q9, lit_40, nI_1, nI_eq, Bool.true_eq_false, ↓gIv_137_92 (v := nI (m + 1)), nI_pred, coR]
theorem comp_ok (w : WF h) (J : J_tow h) (N : J_co h) (t s f e k : Int32) : ∃ v h1 h2, ev X (d + 5) 169 [vr (some 0), vi t, vi s, vi f, vi e, vi k] h = av_rI v h1 ∧ ev X (d + 5) 351 [vr (some 137), vi t, vi s, vi f, vi e, vi k] h1 = av_rI v h2 ∧ WF h2 ∧ J_co h2 ∧
    off false [22, 23, 24, 25, 26, 210, 211, 212, 213, 214] [(21, 5), (137, 92), (137, 0)] h h2 := by
  have N0 := N
  obtain ⟨m, hN, hm, hr, hi⟩ := N
  cases ok : okC h m t s f e k with
  | false =>
    exact ⟨-1, h, th h, C_comp0 w J hm hN t s f e k ok, R_comp0 (d := d + 1) w J.R hr hN t s f e k ok, w, N0.fr (agr.uI rfl agr.rfl), agr.uI rfl agr.rfl⟩
  | true =>
    obtain ⟨⟨⟨q1, q2⟩, q3⟩, q⟩ : ((isPan h t s f 0 = true ∧ rg e 0 99 = true) ∧ rg k 0 23 = true) ∧ m < 40 := by simpa only [okC, Bool.and_eq_true, decide_eq_true_eq] using ok
    obtain ⟨t, s, f, c, b1, b2, b3, b4, rfl, rfl, rfl, -⟩ := pan_ex J q1
    obtain ⟨e, b5, rfl⟩ := rg_nI (b := 99) (by decide) q2
    obtain ⟨k, b6, rfl⟩ := rg_nI (b := 23) (by decide) q3
    refine ⟨nI m, _, _, C_comp1 w J hm hN t s f (nI e) (nI k) ok, R_comp1 (d := d + 1) (m := m) (h := spW_21 h m (nI ((t * 4 + s) * 12 + f)) (nI e) (nI e) (nI k) (nI k)) w (J.R.fr ?_) (by simp (disch := omega) only [spW_21, uI_ne, hr]) hN (nI t) (nI s) (nI f) (nI e) (nI k) ?_, w, ⟨m + 1, by omega, ?_, ?_, fun i hi' => ?_⟩, ?_⟩
    · unfold spW_21
      repeat (first | refine agr.uI rfl ?_ | exact agr.rfl)
    · rw [← ok]
      simp only [okC]
      rw [isPan_eq2 (h := h) (fun k => by simp (disch := omega) only [spW_21, uI_ne]) (fun k => by simp (disch := omega) only [spW_21, uI_ne])]
    · simp (disch := omega) only [coR, spW_21, th, uI_ne, uI_nk, uI_eq]
    · simp (disch := omega) only [coR, uI_eq]
    · by_cases q : i = m
      · subst q
        refine ⟨t, s, f, e, k, b1, b2, b3, by omega, by omega, ?_, ?_, ?_, ?_, ?_, ?_, ?_, ?_⟩ <;> simp (disch := omega) only [coR, spW_21, th, uI_ne, uI_nk, uI_eq]
      · simp (disch := omega) only [coR, spW_21, th, uI_ne, uI_nk, uI_eq]
        exact hi i (by omega)
    · unfold coR spW_21 th off
      repeat (first | refine agr.uI rfl ?_ | exact agr.rfl)
end
