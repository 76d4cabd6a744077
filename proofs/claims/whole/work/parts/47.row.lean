/-! row, clear, stands -/
/-- the row of drops to be tried -/
def J_ro (h : av_H) : Prop := ∃ m, m ≤ 12 ∧ h.2.1 0 18 = nI m ∧ h.2.1 137 98 = nI m ∧ ∀ j, j < 84 → h.2.1 215 j = h.2.1 66 j
theorem J_ro.fr {h h' : av_H} (J : J_ro h) (A : agr (FP false [66, 215] [(0, 18), (137, 98)]) h h') : J_ro h' := by
  obtain ⟨m, h1, h2, h3, h4⟩ := J
  exact ⟨m, h1, (A.I rfl).trans h2, (A.I rfl).trans h3, fun j hj => by rw [A.I rfl, A.I rfl]; exact h4 j hj⟩
/-- a drop can be asked for -/
def askb (h : av_H) (t s x e k a b : Int32) : Bool := isStp h t s x && rg e 0 99 && rg k 0 23 && rg a 0 9 && rg b 0 9
section
variable {X : av_X} {d : Nat} {h : av_H}
theorem c_isAsk (w : WF h) (J : J_tow h) (t s x e k a b : Int32) : ev X (d + 4) 195 [vr (some 0), vi t, vi s, vi x, vi e, vi k, vi a, vi b] h = av_rI (bI (askb h t s x e k a b)) h := by
  rcases bdi (isStp h t s x) with q1 | q1
  · simp (disch := first | ((repeat (first | with_reducible apply WF_uI | with_reducible apply WF_uL | with_reducible apply WF_th | with_reducible apply WF_fillL | with_reducible apply WF_fgt)); with_reducible assumption) | omega | (simp only [uI_1, uL_1, th_1, uI_R, uL_R]; with_reducible assumption)) only [e_195, b_195_0, ↓is_0, ↓c_isStop', ↓c_isDay', ↓c_isHour', ↓c_isPerson', ↓reduceIte, i10, av_cI_r, av_cL_r, av_cV_r, Option.bind_some, ↓zb_0, ↓zb_1, ↓zb_b, bI_0, askb, Bool.false_and, Bool.true_and, Bool.and_false, bI_f, q1, Bool.true_eq_false]
  rcases bdi (rg e 0 99) with q2 | q2
  · simp (disch := first | ((repeat (first | with_reducible apply WF_uI | with_reducible apply WF_uL | with_reducible apply WF_th | with_reducible apply WF_fillL | with_reducible apply WF_fgt)); with_reducible assumption) | omega | (simp only [uI_1, uL_1, th_1, uI_R, uL_R]; with_reducible assumption)) only [e_195, b_195_0, ↓is_0, ↓c_isStop', ↓c_isDay', ↓c_isHour', ↓c_isPerson', ↓reduceIte, i10, av_cI_r, av_cL_r, av_cV_r, Option.bind_some, ↓zb_0, ↓zb_1, ↓zb_b, bI_0, askb, Bool.false_and, Bool.true_and, Bool.and_false, bI_f, q1, q2, Bool.true_eq_false]
  rcases bdi (rg k 0 23) with q3 | q3
  · simp (disch := first | ((repeat (first | with_reducible apply WF_uI | with_reducible apply WF_uL | with_reducible apply WF_th | with_reducible apply WF_fillL | with_reducible apply WF_fgt)); with_reducible assumption) | omega | (simp only [uI_1, uL_1, th_1, uI_R, uL_R]; with_reducible assumption)) only [e_195, b_195_0, ↓is_0, ↓c_isStop', ↓c_isDay', ↓c_isHour', ↓c_isPerson', ↓reduceIte, i10, av_cI_r, av_cL_r, av_cV_r, Option.bind_some, ↓zb_0, ↓zb_1, ↓zb_b, bI_0, askb, Bool.false_and, Bool.true_and, Bool.and_false, bI_f, q1, q2, q3, Bool.true_eq_false]
  rcases bdi (rg a 0 9) with q4 | q4
  · simp (disch := first | ((repeat (first | with_reducible apply WF_uI | with_reducible apply WF_uL | with_reducible apply WF_th | with_reducible apply WF_fillL | with_reducible apply WF_fgt)); with_reducible assumption) | omega | (simp only [uI_1, uL_1, th_1, uI_R, uL_R]; with_reducible assumption)) only [e_195, b_195_0, ↓is_0, ↓c_isStop', ↓c_isDay', ↓c_isHour', ↓c_isPerson', ↓reduceIte, i10, av_cI_r, av_cL_r, av_cV_r, Option.bind_some, ↓zb_0, ↓zb_1, ↓zb_b, bI_0, askb, Bool.false_and, Bool.true_and, Bool.and_false, bI_f, q1, q2, q3, q4, Bool.true_eq_false]
  rcases bdi (rg b 0 9) with q5 | q5
  · simp (disch := first | ((repeat (first | with_reducible apply WF_uI | with_reducible apply WF_uL | with_reducible apply WF_th | with_reducible apply WF_fillL | with_reducible apply WF_fgt)); with_reducible assumption) | omega | (simp only [uI_1, uL_1, th_1, uI_R, uL_R]; with_reducible assumption)) only [e_195, b_195_0, ↓is_0, ↓c_isStop', ↓c_isDay', ↓c_isHour', ↓c_isPerson', ↓reduceIte, i10, av_cI_r, av_cL_r, av_cV_r, Option.bind_some, ↓zb_0, ↓zb_1, ↓zb_b, bI_0, askb, Bool.false_and, Bool.true_and, Bool.and_false, bI_f, q1, q2, q3, q4, q5, Bool.true_eq_false]
  simp (disch := first | ((repeat (first | with_reducible apply WF_uI | with_reducible apply WF_uL | with_reducible apply WF_th | with_reducible apply WF_fillL | with_reducible apply WF_fgt)); with_reducible assumption) | omega | (simp only [uI_1, uL_1, th_1, uI_R, uL_R]; with_reducible assumption)) only [e_195, b_195_0, ↓is_0, ↓c_isStop', ↓c_isDay', ↓c_isHour', ↓c_isPerson', ↓reduceIte, i10, av_cI_r, av_cL_r, av_cV_r, Option.bind_some, ↓zb_0, ↓zb_1, ↓zb_b, bI_0, askb, q1, q2, q3, q4, q5, Bool.true_and, Bool.true_eq_false, bI_t]
theorem c_isAsk' (w : WF h) (J : J_tow h) (t s x e k a b : Int32) {β : Type} (Kc : Int32 × av_H → Option β) : (av_cI (ev X (d + 4) 195 [vr (some 0), vi t, vi s, vi x, vi e, vi k, vi a, vi b] h)).bind Kc = Kc (bI (askb h t s x e k a b), h) := by rw [c_isAsk w J t s x e k a b]; rfl
theorem gIv_0_18 {β : Type} {g : av_H} (w : WF g) {v : Int32} (e : g.2.1 0 18 = v) (K : Int32 → Option β) : (av_gI g (some 0) 10 18).bind K = K v := by rw [gI_0_18 w, e]
theorem gIv_137_98 {β : Type} {g : av_H} (w : WF g) {v : Int32} (e : g.2.1 137 98 = v) (K : Int32 → Option β) : (av_gI g (some 137) 11 98).bind K = K v := by rw [gI_137_98 w, e]
def roC (h : av_H) (c r m : Nat) (t s x e k a b : Int32) : av_H := av_uI (av_uI (av_uI (av_uI (av_uI (av_uI (av_uI h c (r * m) t) c (r * m + 1) s) c (r * m + 2) x) c (r * m + 3) e) c (r * m + 4) k) c (r * m + 5) a) c (r * m + 6) b
theorem C_row1 (w : WF h) (J : J_tow h) {m : Nat} (hm : h.2.1 0 18 = nI m) (hN : m < 12) (t s x e k a b : Int32) (ok : askb h t s x e k a b = true) : ev X (d + 5) 178 [vr (some 0), vi t, vi s, vi x, vi e, vi k, vi a, vi b] h = av_rI (nI (m + 1)) (av_uI (roC h 66 7 m t s x e k a b) 0 18 (nI (m + 1))) := by
  have c12 : nI m < (12 : Int32) := nI_lt (b := 12) hN (by omega)
  simp (disch := first | ((repeat (first | with_reducible apply WF_uI | with_reducible apply WF_uL | with_reducible apply WF_th | with_reducible apply WF_fillL | with_reducible apply WF_fgt)); with_reducible assumption) | omega | (simp (disch := omega) only [uI_ne, uI_nk, uI_eq, nI_1, th_I, th_k, hm]; done) | (simp only [uI_1, uL_1, th_1, uI_R, uL_R]; with_reducible assumption)) only [e_178, b_178_0, ↓gIv_0_18 (v := nI m), ↓gR_0_14, c12, ↓reduceIte, i10, av_cI_r, av_cL_r, av_cV_r, Option.bind_some, ↓zb_0, ↓zb_1, ↓zb_b, ↓is_0, ↓c_isAsk', ok, bI_t]
  simp only [lit_7, lit_1, lit_2, lit_3, lit_4, lit_5, lit_6, pk_mul, nI_add, Nat.mul_comm m 7]
  simp (disch := first | ((repeat (first | with_reducible apply WF_uI | with_reducible apply WF_uL | with_reducible apply WF_th | with_reducible apply WF_fillL | with_reducible apply WF_fgt)); with_reducible assumption) | omega | (simp (disch := omega) only [uI_ne, uI_nk, uI_eq, nI_1, th_I, th_k, hm]; done) | (simp only [uI_1, uL_1, th_1, uI_R, uL_R]; with_reducible assumption)) only [↓st_66, ↓gR_0_14, ↓gIv_0_18 (v := nI m), ↓gIv_0_18 (v := nI (m + 1)), ↓pI_0, nI_add, roC, ↓reduceIte, i10, av_cI_r, av_cL_r, av_cV_r, Option.bind_some, ↓zb_0, ↓zb_1, ↓zb_b]
theorem R_row1 (w : WF h) (J : R_tow h) {m : Nat} (hm : h.2.1 137 98 = nI m) (hN : m < 12) (t s x e k a b : Int32) (ok : askb h t s x e k a b = true) : ev X (d + 4) 366 [vr (some 137), vi t, vi s, vi x, vi e, vi k, vi a, vi b] h = av_rI (nI (m + 1)) (av_uI (roC (th h) 215 7 m t s x e k a b) 137 98 (nI (m + 1))) := by
  have J2 := J.th
  have c12 : ¬ nI m = (12 : Int32) := fun e => by have := (nI_eq (a := m) (b := 12) (by omega) (by omega)).mp e; omega
  simp only [askb, Bool.and_eq_true] at ok
  obtain ⟨⟨⟨⟨q1, q2⟩, q3⟩, q4⟩, q5⟩ := ok
  simp (disch := first | ((repeat (first | with_reducible apply WF_uI | with_reducible apply WF_uL | with_reducible apply WF_th | with_reducible apply WF_fillL | with_reducible apply WF_fgt)); with_reducible assumption) | omega | (simp (disch := omega) only [uI_ne, uI_nk, uI_eq, nI_1, th_I, th_k, hm]; done) | (simp only [uI_1, uL_1, th_1, uI_R, uL_R]; with_reducible assumption)) only [e_366, b_366_0, ↓pI_137, th_e, ↓is_137, ↓s_isStop', ↓s_isDay', ↓s_isHour', ↓s_isPerson', ↓reduceIte, i10, av_cI_r, av_cL_r, av_cV_r, Option.bind_some, ↓zb_0, ↓zb_1, ↓zb_b, bI_0, isStp_th, q1, q2, q3, q4, q5, Bool.true_eq_false, ↓gIv_137_98 (v := nI m), ↓gR_137_99, c12]
  simp only [lit_7, lit_1, lit_2, lit_3, lit_4, lit_5, lit_6, pk_mul, nI_add]
  simp (disch := first | ((repeat (first | with_reducible apply WF_uI | with_reducible apply WF_uL | with_reducible apply WF_th | with_reducible apply WF_fillL | with_reducible apply WF_fgt)); with_reducible assumption) | omega | (simp (disch := omega) only [uI_ne, uI_nk, uI_eq, nI_1, th_I, th_k, hm]; done) | (simp only [uI_1, uL_1, th_1, uI_R, uL_R]; with_reducible assumption)) only [↓st_215, ↓gR_137_99, ↓gIv_137_98 (v := nI m), ↓gIv_137_98 (v := nI (m + 1)), ↓pI_137, nI_add, roC, ↓reduceIte, i10, av_cI_r, av_cL_r, av_cV_r, Option.bind_some, ↓zb_0, ↓zb_1, ↓zb_b]
theorem WF_roC {h : av_H} {c r m : Nat} {t s x e k a b : Int32} (w : WF h) : WF (roC h c r m t s x e k a b) := WF_uI (WF_uI (WF_uI (WF_uI (WF_uI (WF_uI (WF_uI w))))))
theorem roC_ne {c r m a' : Nat} {t s x e k a b : Int32} (q : a' ≠ c) : (roC h c r m t s x e k a b).2.1 a' = h.2.1 a' := by simp only [roC, uI_ne q]
theorem roC_g {c m : Nat} {t s x e k a b : Int32} (j : Nat) : (roC h c 7 m t s x e k a b).2.1 c j = if j = 7 * m + 6 then b else if j = 7 * m + 5 then a else if j = 7 * m + 4 then k else if j = 7 * m + 3 then e else if j = 7 * m + 2 then x else if j = 7 * m + 1 then s else if j = 7 * m then t else h.2.1 c j := by
  unfold roC
  repeat (first | (split; (rename_i z; rw [z, uI_eq])) | (rename_i z; rw [uI_nk z]))
theorem agr.roC {F : Nat → Nat → Bool} {h h' : av_H} {c r m : Nat} {t s x e k a b : Int32} (q : ∀ j, F c j = false) (A : agr F h h') : agr F h (roC h' c r m t s x e k a b) := agr.uI (q _) (agr.uI (q _) (agr.uI (q _) (agr.uI (q _) (agr.uI (q _) (agr.uI (q _) (agr.uI (q _) A))))))
theorem row_ok (w : WF h) (J : J_tow h) (N : J_ro h) (t s x e k a b : Int32) : ∃ v h1 h2, ev X (d + 5) 178 [vr (some 0), vi t, vi s, vi x, vi e, vi k, vi a, vi b] h = av_rI v h1 ∧ ev X (d + 5) 366 [vr (some 137), vi t, vi s, vi x, vi e, vi k, vi a, vi b] h1 = av_rI v h2 ∧ WF h2 ∧ J_ro h2 ∧
    off false [66, 215] [(0, 18), (137, 98), (137, 0)] h h2 := by
  have N0 := N
  obtain ⟨m, hN, hm, hr, hi⟩ := N
  cases ok : (decide (m < 12) && askb h t s x e k a b) with
  | false =>
    refine ⟨-1, h, th h, ?_, ?_, w, N0.fr (agr.uI rfl agr.rfl), agr.uI rfl agr.rfl⟩
    · by_cases q : m < 12
      · have c12 : nI m < (12 : Int32) := nI_lt (b := 12) q (by omega)
        have q2 : askb h t s x e k a b = false := by simpa [q] using ok
        simp (disch := first | ((repeat (first | with_reducible apply WF_uI | with_reducible apply WF_uL | with_reducible apply WF_th | with_reducible apply WF_fillL | with_reducible apply WF_fgt)); with_reducible assumption) | omega | (simp (disch := omega) only [uI_ne, uI_nk, uI_eq, nI_1, th_I, th_k, hm]; done) | (simp only [uI_1, uL_1, th_1, uI_R, uL_R]; with_reducible assumption)) only [e_178, b_178_0, ↓gIv_0_18 (v := nI m), ↓gR_0_14, c12, ↓reduceIte, i10, av_cI_r, av_cL_r, av_cV_r, Option.bind_some, ↓zb_0, ↓zb_1, ↓zb_b, ↓is_0, ↓c_isAsk', q2, bI_f]
      · have c12 : ¬ nI m < (12 : Int32) := nI_nlt (b := 12) (by omega) (by omega)
        simp (disch := first | ((repeat (first | with_reducible apply WF_uI | with_reducible apply WF_uL | with_reducible apply WF_th | with_reducible apply WF_fillL | with_reducible apply WF_fgt)); with_reducible assumption) | omega | (simp (disch := omega) only [uI_ne, uI_nk, uI_eq, nI_1, th_I, th_k, hm]; done) | (simp only [uI_1, uL_1, th_1, uI_R, uL_R]; with_reducible assumption)) only [e_178, b_178_0, ↓gIv_0_18 (v := nI m), c12, ↓reduceIte, i10, av_cI_r, av_cL_r, av_cV_r, Option.bind_some, ↓zb_0, ↓zb_1, ↓zb_b]
    · have J2 := J.R.th
      rcases bdi (isStp h t s x) with q1 | q1
      · simp (disch := first | ((repeat (first | with_reducible apply WF_uI | with_reducible apply WF_uL | with_reducible apply WF_th | with_reducible apply WF_fillL | with_reducible apply WF_fgt)); with_reducible assumption) | omega | (simp (disch := omega) only [uI_ne, uI_nk, uI_eq, nI_1, th_I, th_k, hr]; done) | (simp only [uI_1, uL_1, th_1, uI_R, uL_R]; with_reducible assumption)) only [e_366, b_366_0, ↓pI_137, th_e, ↓is_137, ↓s_isStop', ↓s_isDay', ↓s_isHour', ↓s_isPerson', ↓reduceIte, i10, av_cI_r, av_cL_r, av_cV_r, Option.bind_some, ↓zb_0, ↓zb_1, ↓zb_b, bI_0, isStp_th, q1, Bool.true_eq_false]
      rcases bdi (rg e 0 99) with q2 | q2
      · simp (disch := first | ((repeat (first | with_reducible apply WF_uI | with_reducible apply WF_uL | with_reducible apply WF_th | with_reducible apply WF_fillL | with_reducible apply WF_fgt)); with_reducible assumption) | omega | (simp (disch := omega) only [uI_ne, uI_nk, uI_eq, nI_1, th_I, th_k, hr]; done) | (simp only [uI_1, uL_1, th_1, uI_R, uL_R]; with_reducible assumption)) only [e_366, b_366_0, ↓pI_137, th_e, ↓is_137, ↓s_isStop', ↓s_isDay', ↓s_isHour', ↓s_isPerson', ↓reduceIte, i10, av_cI_r, av_cL_r, av_cV_r, Option.bind_some, ↓zb_0, ↓zb_1, ↓zb_b, bI_0, isStp_th, q1, q2, Bool.true_eq_false]
      rcases bdi (rg k 0 23) with q3 | q3
      · simp (disch := first | ((repeat (first | with_reducible apply WF_uI | with_reducible apply WF_uL | with_reducible apply WF_th | with_reducible apply WF_fillL | with_reducible apply WF_fgt)); with_reducible assumption) | omega | (simp (disch := omega) only [uI_ne, uI_nk, uI_eq, nI_1, th_I, th_k, hr]; done) | (simp only [uI_1, uL_1, th_1, uI_R, uL_R]; with_reducible assumption)) only [e_366, b_366_0, ↓pI_137, th_e, ↓is_137, ↓s_isStop', ↓s_isDay', ↓s_isHour', ↓s_isPerson', ↓reduceIte, i10, av_cI_r, av_cL_r, av_cV_r, Option.bind_some, ↓zb_0, ↓zb_1, ↓zb_b, bI_0, isStp_th, q1, q2, q3, Bool.true_eq_false]
      rcases bdi (rg a 0 9) with q4 | q4
      · simp (disch := first | ((repeat (first | with_reducible apply WF_uI | with_reducible apply WF_uL | with_reducible apply WF_th | with_reducible apply WF_fillL | with_reducible apply WF_fgt)); with_reducible assumption) | omega | (simp (disch := omega) only [uI_ne, uI_nk, uI_eq, nI_1, th_I, th_k, hr]; done) | (simp only [uI_1, uL_1, th_1, uI_R, uL_R]; with_reducible assumption)) only [e_366, b_366_0, ↓pI_137, th_e, ↓is_137, ↓s_isStop', ↓s_isDay', ↓s_isHour', ↓s_isPerson', ↓reduceIte, i10, av_cI_r, av_cL_r, av_cV_r, Option.bind_some, ↓zb_0, ↓zb_1, ↓zb_b, bI_0, isStp_th, q1, q2, q3, q4, Bool.true_eq_false]
      rcases bdi (rg b 0 9) with q5 | q5
      · simp (disch := first | ((repeat (first | with_reducible apply WF_uI | with_reducible apply WF_uL | with_reducible apply WF_th | with_reducible apply WF_fillL | with_reducible apply WF_fgt)); with_reducible assumption) | omega | (simp (disch := omega) only [uI_ne, uI_nk, uI_eq, nI_1, th_I, th_k, hr]; done) | (simp only [uI_1, uL_1, th_1, uI_R, uL_R]; with_reducible assumption)) only [e_366, b_366_0, ↓pI_137, th_e, ↓is_137, ↓s_isStop', ↓s_isDay', ↓s_isHour', ↓s_isPerson', ↓reduceIte, i10, av_cI_r, av_cL_r, av_cV_r, Option.bind_some, ↓zb_0, ↓zb_1, ↓zb_b, bI_0, isStp_th, q1, q2, q3, q4, q5, Bool.true_eq_false]
      have q6 : m = 12 := by
        have : ¬ m < 12 := by simpa [askb, q1, q2, q3, q4, q5] using ok
        omega
      subst q6
      simp (disch := first | ((repeat (first | with_reducible apply WF_uI | with_reducible apply WF_uL | with_reducible apply WF_th | with_reducible apply WF_fillL | with_reducible apply WF_fgt)); with_reducible assumption) | omega | (simp (disch := omega) only [uI_ne, uI_nk, uI_eq, nI_1, th_I, th_k, hr]; done) | (simp only [uI_1, uL_1, th_1, uI_R, uL_R]; with_reducible assumption)) only [e_366, b_366_0, ↓pI_137, th_e, ↓is_137, ↓s_isStop', ↓s_isDay', ↓s_isHour', ↓s_isPerson', ↓reduceIte, i10, av_cI_r, av_cL_r, av_cV_r, Option.bind_some, ↓zb_0, ↓zb_1, ↓zb_b, bI_0, isStp_th, q1, q2, q3, q4, q5, Bool.true_eq_false, ↓gIv_137_98 (v := nI 12), lit_12]
  | true =>
    obtain ⟨q, q2⟩ : m < 12 ∧ askb h t s x e k a b = true := by simpa only [Bool.and_eq_true, decide_eq_true_eq] using ok
    refine ⟨nI (m + 1), _, _, C_row1 w J hm q t s x e k a b q2, R_row1 (d := d + 1) (h := av_uI (roC h 66 7 m t s x e k a b) 0 18 (nI (m + 1))) (m := m) (WF_uI (WF_roC w)) (J.R.fr (agr.uI rfl (agr.roC (fun _ => rfl) agr.rfl))) ?_ q t s x e k a b ?_, WF_uI (WF_roC (WF_th (WF_uI (WF_roC w)))), ⟨m + 1, by omega, ?_, ?_, fun j hj => ?_⟩, ?_⟩
    · rw [uI_ne (by decide), roC_ne (by decide)]
      exact hr
    · rw [← q2]
      simp only [askb]
      rw [isStp_eq2 (h := h) (fun k => by rw [uI_ne (by decide), roC_ne (by decide)]) (fun k => by rw [uI_ne (by decide), roC_ne (by decide)])]
    · simp (disch := omega) only [uI_ne, roC_ne, th, uI_eq]
    · simp (disch := omega) only [uI_eq]
    · rw [uI_ne (by decide), uI_ne (by decide), roC_g, roC_ne (by decide), th_I (by decide), th_I (by decide), uI_ne (by decide), uI_ne (by decide), roC_ne (by decide), roC_g, hi j hj]
    · exact agr.uI rfl (agr.roC (fun _ => rfl) (agr.uI rfl (agr.uI rfl (agr.roC (fun _ => rfl) agr.rfl))))
theorem clear_ok (w : WF h) (N : J_ro h) : ∃ v h1 h2, ev X (d + 1) 179 [vr (some 0)] h = av_rI v h1 ∧ ev X (d + 1) 367 [vr (some 137)] h1 = av_rI v h2 ∧ WF h2 ∧ J_ro h2 ∧ off false [] [(0, 18), (137, 98), (137, 0)] h h2 := by
  obtain ⟨m, hN, hm, hr, hi⟩ := N
  refine ⟨1, av_uI h 0 18 0, av_uI (th (av_uI h 0 18 0)) 137 98 0, ?_, ?_, w, ⟨0, by omega, ?_, uI_eq, fun j hj => ?_⟩, agr.uI rfl (agr.uI rfl (agr.uI rfl agr.rfl))⟩
  · simp (disch := first | ((repeat (first | with_reducible apply WF_uI | with_reducible apply WF_uL | with_reducible apply WF_th | with_reducible apply WF_fillL | with_reducible apply WF_fgt)); with_reducible assumption) | omega | (simp only [uI_1, uL_1, th_1, uI_R, uL_R]; with_reducible assumption)) only [e_179, b_179_0, ↓pI_0, ↓reduceIte, i10, av_cI_r, av_cL_r, av_cV_r, Option.bind_some, ↓zb_0, ↓zb_1, ↓zb_b]
  · simp (disch := first | ((repeat (first | with_reducible apply WF_uI | with_reducible apply WF_uL | with_reducible apply WF_th | with_reducible apply WF_fillL | with_reducible apply WF_fgt)); with_reducible assumption) | omega | (simp only [uI_1, uL_1, th_1, uI_R, uL_R]; with_reducible assumption)) only [e_367, b_367_0, ↓pI_137, th_e, ↓reduceIte, i10, av_cI_r, av_cL_r, av_cV_r, Option.bind_some, ↓zb_0, ↓zb_1, ↓zb_b]
  · simp (disch := omega) only [th, uI_ne, uI_eq]
    rfl
  · simp (disch := omega) only [th, uI_ne]
    exact hi j hj
theorem c_max (a b : Int32) : ev X (d + 1) 379 [vi a, vi b] h = av_rI ((if a < b then b else a)) h := by
  simp only [e_379, b_379_0]
  split <;> rfl
theorem c_max' (a b : Int32) {β : Type} (Kc : Int32 × av_H → Option β) : (av_cI (ev X (d + 1) 379 [vi a, vi b] h)).bind Kc = Kc ((if a < b then b else a), h) := by rw [c_max a b]; rfl
theorem c_min (a b : Int32) : ev X (d + 1) 381 [vi a, vi b] h = av_rI ((if b < a then b else a)) h := by
  simp only [e_381, b_381_0]
  split <;> rfl
theorem c_min' (a b : Int32) {β : Type} (Kc : Int32 × av_H → Option β) : (av_cI (ev X (d + 1) 381 [vi a, vi b] h)).bind Kc = Kc ((if b < a then b else a), h) := by rw [c_min a b]; rfl
theorem stands_ok (w : WF h) (J : J_tow h) (t v : Int32) : ∃ z h1 h2, ev X (d + 3) 150 [vr (some 0), vi t, vi v] h = av_rI z h1 ∧ ev X (d + 3) 318 [vr (some 137), vi t, vi v] h1 = av_rI z h2 ∧ WF h2 ∧ off false [] [(137, 0)] h h2 := by
  cases ok : (told h t && rg v 1 9999) with
  | false =>
    refine ⟨-1, h, th h, ?_, ?_, w, agr.uI rfl agr.rfl⟩
    · rcases bdi (told h t) with q1 | q1
      · simp (disch := first | ((repeat (first | with_reducible apply WF_uI | with_reducible apply WF_uL | with_reducible apply WF_th | with_reducible apply WF_fillL | with_reducible apply WF_fgt)); with_reducible assumption) | omega | (simp only [uI_1, uL_1, th_1, uI_R, uL_R]; with_reducible assumption)) only [e_150, b_150_0, ↓is_0, ↓c_isTold', ↓c_within', ↓reduceIte, i10, av_cI_r, av_cL_r, av_cV_r, Option.bind_some, ↓zb_0, ↓zb_1, ↓zb_b, bI_0, tI_1, tI_9999, q1, Bool.true_eq_false]
      rcases bdi (rg v 1 9999) with q2 | q2
      · simp (disch := first | ((repeat (first | with_reducible apply WF_uI | with_reducible apply WF_uL | with_reducible apply WF_th | with_reducible apply WF_fillL | with_reducible apply WF_fgt)); with_reducible assumption) | omega | (simp only [uI_1, uL_1, th_1, uI_R, uL_R]; with_reducible assumption)) only [e_150, b_150_0, ↓is_0, ↓c_isTold', ↓c_within', ↓reduceIte, i10, av_cI_r, av_cL_r, av_cV_r, Option.bind_some, ↓zb_0, ↓zb_1, ↓zb_b, bI_0, tI_1, tI_9999, q1, q2, Bool.true_eq_false]
      simp [q1, q2] at ok
    · rcases bdi (told h t) with q1 | q1
      · simp (disch := first | ((repeat (first | with_reducible apply WF_uI | with_reducible apply WF_uL | with_reducible apply WF_th | with_reducible apply WF_fillL | with_reducible apply WF_fgt)); with_reducible assumption) | omega | (simp only [uI_1, uL_1, th_1, uI_R, uL_R]; with_reducible assumption)) only [e_318, b_318_0, ↓pI_137, th_e, ↓is_137, ↓s_isTower', ↓s_within', ↓reduceIte, i10, av_cI_r, av_cL_r, av_cV_r, Option.bind_some, ↓zb_0, ↓zb_1, ↓zb_b, bI_0, told_th, tI_1, tI_9999, q1, Bool.true_eq_false]
      rcases bdi (rg v 1 9999) with q2 | q2
      · simp (disch := first | ((repeat (first | with_reducible apply WF_uI | with_reducible apply WF_uL | with_reducible apply WF_th | with_reducible apply WF_fillL | with_reducible apply WF_fgt)); with_reducible assumption) | omega | (simp only [uI_1, uL_1, th_1, uI_R, uL_R]; with_reducible assumption)) only [e_318, b_318_0, ↓pI_137, th_e, ↓is_137, ↓s_isTower', ↓s_within', ↓reduceIte, i10, av_cI_r, av_cL_r, av_cV_r, Option.bind_some, ↓zb_0, ↓zb_1, ↓zb_b, bI_0, told_th, tI_1, tI_9999, q1, q2, Bool.true_eq_false]
      simp [q1, q2] at ok
  | true =>
    obtain ⟨q1, q2⟩ : told h t = true ∧ rg v 1 9999 = true := by simpa only [Bool.and_eq_true] using ok
    obtain ⟨t, a, h6, rfl, hj, T⟩ := told_ex J q1
    obtain ⟨v, v1, v2, rfl⟩ := rg_nI1 (b := 9999) (by decide) q2
    obtain ⟨b0, k1, -, -, -, -, ⟨F, C, W, L, V, p1, p2, p3, p4, p5, p6, p7, p8, p9, r1, r2, r3, r4, r5, r6, r7, r8, r9, r0⟩, -⟩ := T
    have nz : ¬ nI v = 0 := nI_ne0 v1 (by omega)
    have e8 : (th h).2.1 149 t = nI L := by rw [th_I (by decide)]; exact r8
    have e0 : (th h).2.1 150 t = nI V := by rw [th_I (by decide)]; exact r0
    refine ⟨nI ((L - V) / v), h, th h, ?_, ?_, w, agr.uI rfl agr.rfl⟩
    · simp (disch := first | ((repeat (first | with_reducible apply WF_uI | with_reducible apply WF_uL | with_reducible apply WF_th | with_reducible apply WF_fillL | with_reducible apply WF_fgt)); with_reducible assumption) | omega | (simp only [uI_1, uL_1, th_1, uI_R, uL_R]; with_reducible assumption)) only [e_150, b_150_0, ↓is_0, ↓c_isTold', ↓c_within', ↓reduceIte, i10, av_cI_r, av_cL_r, av_cV_r, Option.bind_some, ↓zb_0, ↓zb_1, ↓zb_b, bI_0, tI_1, tI_9999, q1, q2, Bool.true_eq_false, ↓gR_0_0, ↓ld1v (a := a), ↓tw_gIv (a := a) (k := 3) (v := nI L), ↓tw_gIv (a := a) (k := 4) (v := nI V), ↓c_max', nz]
      by_cases q : V ≤ L
      · rw [pk_sub q]
        by_cases z : L - V = 0
        · rw [z]
          simp only [show ¬ (0 : Int32) < nI 0 from by decide, if_false]
          rw [show (0 : Int32) = nI 0 from rfl, pk_div (by omega) (by omega) (by omega)]
        · rw [if_pos (show (0 : Int32) < nI (L - V) from nI_lt (a := 0) (by omega) (by omega)), pk_div (by omega) (by omega) (by omega)]
      · rw [if_neg (fun z => by have := pk_sneg (a := L) (b := V) (by omega) (by omega); rw [i_lt] at z this; omega), show (0 : Int32) = nI 0 from rfl, pk_div (by omega) (by omega) (by omega), show L - V = 0 by omega]
    · simp (disch := first | ((repeat (first | with_reducible apply WF_uI | with_reducible apply WF_uL | with_reducible apply WF_th | with_reducible apply WF_fillL | with_reducible apply WF_fgt)); with_reducible assumption) | omega | (simp only [uI_1, uL_1, th_1, uI_R, uL_R]; with_reducible assumption)) only [e_318, b_318_0, ↓pI_137, th_e, ↓is_137, ↓s_isTower', ↓s_within', ↓reduceIte, i10, av_cI_r, av_cL_r, av_cV_r, Option.bind_some, ↓zb_0, ↓zb_1, ↓zb_b, bI_0, told_th, tI_1, tI_9999, q1, q2, Bool.true_eq_false, ↓gR_137_16, ↓gR_137_17, ↓ld_149, ↓ld_150, e8, e0, nz]
      by_cases q : V ≤ L
      · rw [if_neg (nI_nlt q (by omega)), pk_sub q, pk_div (by omega) (by omega) (by omega)]
      · rw [if_pos (nI_lt (by omega) (by omega)), show (L - V) / v = 0 by rw [show L - V = 0 by omega, Nat.zero_div]]
        rfl
end
