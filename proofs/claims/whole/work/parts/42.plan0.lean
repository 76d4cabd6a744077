/-! chance, cap, came, want -/
def fillL (h : av_H) (a n : Nat) (v : Int64) : av_H := (h.1, h.2.1, va_up h.2.2.1 a (fun j => if j < n then v else h.2.2.1 a j), h.2.2.2)
theorem fillL_0 {h : av_H} {a : Nat} {v : Int64} : fillL h a 0 v = h := by
  have : va_up h.2.2.1 a (fun j => if j < 0 then v else h.2.2.1 a j) = h.2.2.1 := by
    funext b j
    by_cases e : b = a
    · subst e
      rw [va_up_self]
      simp
    · rw [va_up_ne _ _ e]
  simp only [fillL, this]
theorem fillL_s {h : av_H} {a i : Nat} {v : Int64} : av_uL (fillL h a i v) a i v = fillL h a (i + 1) v := by
  have : va_up (va_up h.2.2.1 a (fun j => if j < i then v else h.2.2.1 a j)) a (vp_updL (va_up h.2.2.1 a (fun j => if j < i then v else h.2.2.1 a j) a) i v) = va_up h.2.2.1 a (fun j => if j < i + 1 then v else h.2.2.1 a j) := by
    funext b j
    by_cases e : b = a
    · subst e
      rw [va_up_self, va_up_self, va_up_self]
      by_cases e2 : j = i
      · subst e2
        rw [pk_uLs, if_pos (by omega)]
      · rw [pk_uLn e2]
        by_cases e3 : j < i
        · rw [if_pos e3, if_pos (by omega)]
        · rw [if_neg e3, if_neg (by omega)]
    · rw [va_up_ne _ _ e, va_up_ne _ _ e, va_up_ne _ _ e]
  simp only [av_uL, fillL, this]
theorem fillL_L {h : av_H} {a n j : Nat} {v : Int64} (e : j < n) : (fillL h a n v).2.2.1 a j = v := by simp [fillL, va_up, e]
theorem fillL_ne {h : av_H} {a n b : Nat} {v : Int64} (e : b ≠ a) : (fillL h a n v).2.2.1 b = h.2.2.1 b := va_up_ne _ _ e
theorem WF_fillL {h : av_H} {a n : Nat} {v : Int64} (w : WF h) : WF (fillL h a n v) := w
/-- nothing planned is known any more -/
def fgt (h : av_H) : av_H := av_uL (av_uL (fillL h 52 1280 (-1)) 46 1 (-1)) 46 2 (-1)
theorem WF_fgt {h : av_H} (w : WF h) : WF (fgt h) := w
theorem fgt_I {h : av_H} : (fgt h).2.1 = h.2.1 := rfl
def K0 (h : av_H) : Prop := (∀ j, j < 1280 → h.2.2.1 52 j = -1) ∧ h.2.2.1 46 1 = -1 ∧ h.2.2.1 46 2 = -1
theorem fgt_K0 {h : av_H} : K0 (fgt h) := by
  refine ⟨fun j hj => ?_, ?_, ?_⟩
  · rw [fgt, uL_ne (by decide), uL_ne (by decide), fillL_L hj]
  · rw [fgt, uL_nk (by decide), uL_eq]
  · rw [fgt, uL_eq]
theorem K0.uI {h : av_H} {a k : Nat} {v : Int32} (K : K0 h) : K0 (av_uI h a k v) := K
theorem agr.fillL {F : Nat → Nat → Bool} {h h' : av_H} {a n : Nat} {v : Int64} (q : ∀ k, F a k = false) (A : agr F h h') : agr F h (fillL h' a n v) := by
  refine ⟨A.1, fun x y e => ⟨(A.2 x y e).1, ?_, (A.2 x y e).2.2⟩⟩
  rw [fillL_ne (fun z => by rw [z, q] at e; cases e)]
  exact (A.2 x y e).2.1
theorem agr.fgt {F : Nat → Nat → Bool} {h h' : av_H} (q : ∀ k, F 52 k = false) (q1 : F 46 1 = false) (q2 : F 46 2 = false) (A : agr F h h') : agr F h (fgt h') := agr.uL q2 (agr.uL q1 (agr.fillL q A))
/-- chances, the cap, what came -/
def J_ch (h : av_H) : Prop := ∀ e, e < 5 → ∀ s, s < 4 → ∃ c, c ≤ 10 ∧ h.2.1 50 (e * 4 + s) = nI c ∧ h.2.1 188 (4 * e + s) = nI c
theorem J_ch.fr {h h' : av_H} (J : J_ch h) (A : agr (FP false [50, 188] []) h h') : J_ch h' := fun e he s hs => by
  rw [A.I rfl, A.I rfl]
  exact J e he s hs
def J_ca (h : av_H) : Prop := ∃ c, 1 ≤ c ∧ c ≤ 8 ∧ h.2.1 46 4 = nI c ∧ h.2.1 137 68 = nI c
theorem J_ca.fr {h h' : av_H} (J : J_ca h) (A : agr (FP false [] [(46, 4), (137, 68)]) h h') : J_ca h' := by
  obtain ⟨c, h1, h2, h3, h4⟩ := J
  exact ⟨c, h1, h2, (A.I rfl).trans h3, (A.I rfl).trans h4⟩
def J_cm (h : av_H) : Prop := ∀ e, e < 5 → ∀ s, s < 4 → ∃ b : Bool, h.2.1 51 (e * 4 + s) = nI (if b = true then 10 else 0) ∧ h.2.1 220 (4 * e + s) = bI (!b)
theorem J_cm.fr {h h' : av_H} (J : J_cm h) (A : agr (FP false [51, 220] []) h h') : J_cm h' := fun e he s hs => by
  rw [A.I rfl, A.I rfl]
  exact J e he s hs
section
variable {X : av_X} {d : Nat} {h : av_H}
theorem fillL_lp {a n : Nat} (hk : h.1[a]? = some (101, n)) (hn : n ≤ 20000) (v : Int64) : ∀ m i, i + m = n → bd X d 382 5 [(0, vr (some a)), (1, vl v), (3, vi (nI i)), (4, vi (nI n))] [] (fillL h a i v) = av_rV (fillL h a n v)
  | 0, i, hi => by
    obtain rfl : i = n := by omega
    rw [b_382_5, if_neg (nI_nlt (by omega) (by omega))]
  | m + 1, i, hi => by
    rw [b_382_5, if_pos (nI_lt (by omega) (by omega)), bS (k_sL (h := fillL h a i v) hk (by omega) hn), fillL_s, nI_1]
    exact fillL_lp hk hn v m (i + 1) (by omega)
theorem c_fillL {a n : Nat} (hk : h.1[a]? = some (101, n)) (hn : n ≤ 20000) (v : Int64) : ev X (d + 1) 382 [vr (some a), vl v] h = av_rV (fillL h a n v) := by
  rw [e_382, b_382_0, bS (k_len hk (by decide))]
  have := fillL_lp (X := X) (d := d) hk hn v n 0 (by omega)
  rw [fillL_0] at this
  exact this
theorem c_fillL' {a n : Nat} (hk : h.1[a]? = some (101, n)) (hn : n ≤ 20000) (v : Int64) {β : Type} (Kc : av_H → Option β) : (av_cV (ev X (d + 1) 382 [vr (some a), vl v] h)).bind Kc = Kc (fillL h a n v) := by rw [c_fillL hk hn v]; rfl
theorem c_forget (w : WF h) : ev X (d + 2) 42 [vr (some 46)] h = av_rV (fgt h) := by
  have k := w.k (a := 52) (q := (101, 1280)) rfl
  simp (disch := first | ((repeat (first | with_reducible apply WF_uI | with_reducible apply WF_uL | with_reducible apply WF_th | with_reducible apply WF_fillL | with_reducible apply WF_fgt)); with_reducible assumption) | omega | (simp only [uI_1, uL_1, th_1, uI_R, uL_R]; with_reducible assumption)) only [e_42, b_42_0, ↓gR_46_10, ↓c_fillL' k (by decide), ↓pL_46, fgt]
theorem c_forget' (w : WF h) {β : Type} (Kc : av_H → Option β) : (av_cV (ev X (d + 2) 42 [vr (some 46)] h)).bind Kc = Kc (fgt h) := by rw [c_forget w]; rfl
theorem c_setCh {e s : Nat} (w : WF h) (he : e < 5) (hs : s < 4) (v : Int32) : ev X (d + 3) 44 [vr (some 46), vi (nI e), vi (nI s), vi v] h = av_rV (fgt (av_uI h 50 (e * 4 + s) v)) := by
  simp only [e_44, b_44_0, lit_4, pk_mul, nI_add]
  simp (disch := first | ((repeat (first | with_reducible apply WF_uI | with_reducible apply WF_uL | with_reducible apply WF_th | with_reducible apply WF_fillL | with_reducible apply WF_fgt)); with_reducible assumption) | omega | (simp only [uI_1, uL_1, th_1, uI_R, uL_R]; with_reducible assumption)) only [↓gR_46_8, ↓ln_50, ↓c_below', rg_lt, ↓reduceIte, i10, av_cI_r, av_cL_r, av_cV_r, Option.bind_some, ↓zb_0, ↓zb_1, ↓zb_b, bI_0, Bool.true_eq_false, ↓st_50, ↓is_46, ↓c_forget']
theorem c_setCh' {e s : Nat} (w : WF h) (he : e < 5) (hs : s < 4) (v : Int32) {β : Type} (Kc : av_H → Option β) : (av_cV (ev X (d + 3) 44 [vr (some 46), vi (nI e), vi (nI s), vi v] h)).bind Kc = Kc (fgt (av_uI h 50 (e * 4 + s) v)) := by rw [c_setCh w he hs v]; rfl
theorem chance_ok (w : WF h) (J : J_ch h) (e s v : Int32) : ∃ z h1 h2, ev X (d + 4) 152 [vr (some 0), vi e, vi s, vi v] h = av_rI z h1 ∧ ev X (d + 4) 320 [vr (some 137), vi e, vi s, vi v] h1 = av_rI z h2 ∧ WF h2 ∧ J_ch h2 ∧ off false [50, 52, 188] [(46, 1), (46, 2), (137, 0)] h h2 ∧ (K0 h2 ∨ h2 = th h) := by
  have e5 : ∀ v : Int32, rg v 0 ((5 : Int) - 1) = rg v 0 4 := fun _ => rfl
  cases ok : (rg e 0 4 && rg s 0 3 && rg v 0 10) with
  | false =>
    refine ⟨0, h, th h, ?_, ?_, w, J.fr (agr.uI rfl agr.rfl), agr.uI rfl agr.rfl, Or.inr rfl⟩
    · rcases bdi (rg e 0 4) with q1 | q1
      · simp (disch := first | ((repeat (first | with_reducible apply WF_uI | with_reducible apply WF_uL | with_reducible apply WF_th | with_reducible apply WF_fillL | with_reducible apply WF_fgt)); with_reducible assumption) | omega | (simp only [uI_1, uL_1, th_1, uI_R, uL_R]; with_reducible assumption)) only [e_152, b_152_0, ↓c_below', ↓c_isSide', ↓c_within', ↓reduceIte, i10, av_cI_r, av_cL_r, av_cV_r, Option.bind_some, ↓zb_0, ↓zb_1, ↓zb_b, bI_0, tI_0, tI_5, tI_10, e5, q1, Bool.true_eq_false]
      rcases bdi (rg s 0 3) with q2 | q2
      · simp (disch := first | ((repeat (first | with_reducible apply WF_uI | with_reducible apply WF_uL | with_reducible apply WF_th | with_reducible apply WF_fillL | with_reducible apply WF_fgt)); with_reducible assumption) | omega | (simp only [uI_1, uL_1, th_1, uI_R, uL_R]; with_reducible assumption)) only [e_152, b_152_0, ↓c_below', ↓c_isSide', ↓c_within', ↓reduceIte, i10, av_cI_r, av_cL_r, av_cV_r, Option.bind_some, ↓zb_0, ↓zb_1, ↓zb_b, bI_0, tI_0, tI_5, tI_10, e5, q1, q2, Bool.true_eq_false]
      rcases bdi (rg v 0 10) with q3 | q3
      · simp (disch := first | ((repeat (first | with_reducible apply WF_uI | with_reducible apply WF_uL | with_reducible apply WF_th | with_reducible apply WF_fillL | with_reducible apply WF_fgt)); with_reducible assumption) | omega | (simp only [uI_1, uL_1, th_1, uI_R, uL_R]; with_reducible assumption)) only [e_152, b_152_0, ↓c_below', ↓c_isSide', ↓c_within', ↓reduceIte, i10, av_cI_r, av_cL_r, av_cV_r, Option.bind_some, ↓zb_0, ↓zb_1, ↓zb_b, bI_0, tI_0, tI_5, tI_10, e5, q1, q2, q3, Bool.true_eq_false]
      simp [q1, q2, q3] at ok
    · rcases bdi (rg e 0 4) with q1 | q1
      · simp (disch := first | ((repeat (first | with_reducible apply WF_uI | with_reducible apply WF_uL | with_reducible apply WF_th | with_reducible apply WF_fillL | with_reducible apply WF_fgt)); with_reducible assumption) | omega | (simp only [uI_1, uL_1, th_1, uI_R, uL_R]; with_reducible assumption)) only [e_320, b_320_0, ↓pI_137, th_e, ↓s_within', ↓s_isSide', ↓reduceIte, i10, av_cI_r, av_cL_r, av_cV_r, Option.bind_some, ↓zb_0, ↓zb_1, ↓zb_b, bI_0, tI_0, tI_4, tI_10, q1, Bool.true_eq_false]
      rcases bdi (rg s 0 3) with q2 | q2
      · simp (disch := first | ((repeat (first | with_reducible apply WF_uI | with_reducible apply WF_uL | with_reducible apply WF_th | with_reducible apply WF_fillL | with_reducible apply WF_fgt)); with_reducible assumption) | omega | (simp only [uI_1, uL_1, th_1, uI_R, uL_R]; with_reducible assumption)) only [e_320, b_320_0, ↓pI_137, th_e, ↓s_within', ↓s_isSide', ↓reduceIte, i10, av_cI_r, av_cL_r, av_cV_r, Option.bind_some, ↓zb_0, ↓zb_1, ↓zb_b, bI_0, tI_0, tI_4, tI_10, q1, q2, Bool.true_eq_false]
      rcases bdi (rg v 0 10) with q3 | q3
      · simp (disch := first | ((repeat (first | with_reducible apply WF_uI | with_reducible apply WF_uL | with_reducible apply WF_th | with_reducible apply WF_fillL | with_reducible apply WF_fgt)); with_reducible assumption) | omega | (simp only [uI_1, uL_1, th_1, uI_R, uL_R]; with_reducible assumption)) only [e_320, b_320_0, ↓pI_137, th_e, ↓s_within', ↓s_isSide', ↓reduceIte, i10, av_cI_r, av_cL_r, av_cV_r, Option.bind_some, ↓zb_0, ↓zb_1, ↓zb_b, bI_0, tI_0, tI_4, tI_10, q1, q2, q3, Bool.true_eq_false]
      simp [q1, q2, q3] at ok
  | true =>
    obtain ⟨⟨q1, q2⟩, q3⟩ : (rg e 0 4 = true ∧ rg s 0 3 = true) ∧ rg v 0 10 = true := by simpa only [Bool.and_eq_true] using ok
    obtain ⟨e, he, rfl⟩ := rg_nI (b := 4) (by decide) q1
    obtain ⟨s, hs, rfl⟩ := rg_nI (b := 3) (by decide) q2
    obtain ⟨v, hv, rfl⟩ := rg_nI (b := 10) (by decide) q3
    refine ⟨1, fgt (av_uI h 50 (e * 4 + s) (nI v)), av_uI (th (fgt (av_uI h 50 (e * 4 + s) (nI v)))) 188 (4 * e + s) (nI v), ?_, ?_, w, fun e' he' s' hs' => ?_, ?_, Or.inl fgt_K0⟩
    · simp (disch := first | ((repeat (first | with_reducible apply WF_uI | with_reducible apply WF_uL | with_reducible apply WF_th | with_reducible apply WF_fillL | with_reducible apply WF_fgt)); with_reducible assumption) | omega | (simp only [uI_1, uL_1, th_1, uI_R, uL_R]; with_reducible assumption)) only [e_152, b_152_0, ↓c_below', ↓c_isSide', ↓c_within', ↓reduceIte, i10, av_cI_r, av_cL_r, av_cV_r, Option.bind_some, ↓zb_0, ↓zb_1, ↓zb_b, bI_0, tI_0, tI_5, tI_10, e5, q1, q2, q3, Bool.true_eq_false, ↓gR_0_9, ↓is_46, ↓c_setCh']
    · have q0 : rg (nI e) 0 ((4 : Nat) : Int) = true := q1
      simp only [e_320, b_320_0, lit_4, pk_mul, nI_add]
      simp (disch := first | ((repeat (first | with_reducible apply WF_uI | with_reducible apply WF_uL | with_reducible apply WF_th | with_reducible apply WF_fillL | with_reducible apply WF_fgt)); with_reducible assumption) | omega | (simp only [uI_1, uL_1, th_1, uI_R, uL_R]; with_reducible assumption)) only [↓pI_137, th_e, ↓s_within', ↓s_isSide', ↓reduceIte, i10, av_cI_r, av_cL_r, av_cV_r, Option.bind_some, ↓zb_0, ↓zb_1, ↓zb_b, bI_0, tI_0, toI_nI, tI_10, q0, q2, q3, Bool.true_eq_false, ↓gR_137_67, ↓st_188]
    · by_cases z : e' * 4 + s' = e * 4 + s
      · obtain ⟨rfl, rfl⟩ : e' = e ∧ s' = s := by omega
        refine ⟨v, by omega, ?_, ?_⟩ <;> simp (disch := omega) only [th, uI_ne, fgt_I, uI_eq]
      · obtain ⟨c, c1, c2, c3⟩ := J e' he' s' hs'
        refine ⟨c, c1, ?_, ?_⟩
        · simp (disch := omega) only [th, uI_ne, fgt_I, uI_nk]
          exact c2
        · rw [uI_nk (by omega)]
          simp (disch := omega) only [th, uI_ne, fgt_I]
          exact c3
    · exact agr.uI rfl (agr.uI rfl (agr.fgt (fun _ => rfl) rfl rfl (agr.uI rfl agr.rfl)))
theorem cap_ok (w : WF h) (J : J_ca h) (v : Int32) : ∃ z h1 h2, ev X (d + 4) 153 [vr (some 0), vi v] h = av_rI z h1 ∧ ev X (d + 4) 321 [vr (some 137), vi v] h1 = av_rI z h2 ∧ WF h2 ∧ J_ca h2 ∧ off false [52] [(46, 1), (46, 2), (46, 4), (137, 68), (137, 0)] h h2 ∧ (K0 h2 ∨ h2 = th h) := by
  cases ok : rg v 1 8 with
  | false =>
    refine ⟨0, h, th h, ?_, ?_, w, J.fr (agr.uI rfl agr.rfl), agr.uI rfl agr.rfl, Or.inr rfl⟩
    · simp (disch := first | ((repeat (first | with_reducible apply WF_uI | with_reducible apply WF_uL | with_reducible apply WF_th | with_reducible apply WF_fillL | with_reducible apply WF_fgt)); with_reducible assumption) | omega | (simp only [uI_1, uL_1, th_1, uI_R, uL_R]; with_reducible assumption)) only [e_153, b_153_0, ↓c_within', ↓reduceIte, i10, av_cI_r, av_cL_r, av_cV_r, Option.bind_some, ↓zb_0, ↓zb_1, ↓zb_b, bI_0, tI_1, tI_8, ok]
    · simp (disch := first | ((repeat (first | with_reducible apply WF_uI | with_reducible apply WF_uL | with_reducible apply WF_th | with_reducible apply WF_fillL | with_reducible apply WF_fgt)); with_reducible assumption) | omega | (simp only [uI_1, uL_1, th_1, uI_R, uL_R]; with_reducible assumption)) only [e_321, b_321_0, ↓pI_137, th_e, ↓s_within', ↓reduceIte, i10, av_cI_r, av_cL_r, av_cV_r, Option.bind_some, ↓zb_0, ↓zb_1, ↓zb_b, bI_0, tI_1, tI_8, ok]
  | true =>
    obtain ⟨v, v1, v2, rfl⟩ := rg_nI1 (b := 8) (by decide) ok
    refine ⟨1, fgt (av_uI h 46 4 (nI v)), av_uI (th (fgt (av_uI h 46 4 (nI v)))) 137 68 (nI v), ?_, ?_, w, ⟨v, v1, v2, ?_, uI_eq⟩, ?_, Or.inl fgt_K0⟩
    · simp (disch := first | ((repeat (first | with_reducible apply WF_uI | with_reducible apply WF_uL | with_reducible apply WF_th | with_reducible apply WF_fillL | with_reducible apply WF_fgt)); with_reducible assumption) | omega | (simp only [uI_1, uL_1, th_1, uI_R, uL_R]; with_reducible assumption)) only [e_153, b_153_0, ↓c_within', ↓reduceIte, i10, av_cI_r, av_cL_r, av_cV_r, Option.bind_some, ↓zb_0, ↓zb_1, ↓zb_b, bI_0, tI_1, tI_8, ok, Bool.true_eq_false, ↓gR_0_9, ↓is_46, e_46, b_46_0, ↓pI_46, ↓c_forget']
    · simp (disch := first | ((repeat (first | with_reducible apply WF_uI | with_reducible apply WF_uL | with_reducible apply WF_th | with_reducible apply WF_fillL | with_reducible apply WF_fgt)); with_reducible assumption) | omega | (simp only [uI_1, uL_1, th_1, uI_R, uL_R]; with_reducible assumption)) only [e_321, b_321_0, ↓pI_137, th_e, ↓s_within', ↓reduceIte, i10, av_cI_r, av_cL_r, av_cV_r, Option.bind_some, ↓zb_0, ↓zb_1, ↓zb_b, bI_0, tI_1, tI_8, ok, Bool.true_eq_false]
    · simp (disch := omega) only [th, uI_ne, fgt_I, uI_eq]
    · exact agr.uI rfl (agr.uI rfl (agr.fgt (fun _ => rfl) rfl rfl (agr.uI rfl agr.rfl)))
theorem c_setCm {e s : Nat} (w : WF h) (he : e < 5) (hs : s < 4) (y : Bool) : ev X (d + 2) 45 [vr (some 46), vi (nI e), vi (nI s), vi (bI y)] h = av_rV (av_uL (av_uI h 51 (e * 4 + s) (nI (if y = true then 10 else 0))) 46 2 (-1)) := by
  simp only [e_45, b_45_0, lit_4, pk_mul, nI_add]
  simp (disch := first | ((repeat (first | with_reducible apply WF_uI | with_reducible apply WF_uL | with_reducible apply WF_th | with_reducible apply WF_fillL | with_reducible apply WF_fgt)); with_reducible assumption) | omega | (simp only [uI_1, uL_1, th_1, uI_R, uL_R]; with_reducible assumption)) only [↓gR_46_9, ↓ln_51, ↓c_below', rg_lt, ↓reduceIte, i10, av_cI_r, av_cL_r, av_cV_r, Option.bind_some, ↓zb_0, ↓zb_1, ↓zb_b, bI_0, Bool.true_eq_false, ↓st_51, ↓pL_46]
  cases y <;> rfl
theorem c_setCm' {e s : Nat} (w : WF h) (he : e < 5) (hs : s < 4) (y : Bool) {β : Type} (Kc : av_H → Option β) : (av_cV (ev X (d + 2) 45 [vr (some 46), vi (nI e), vi (nI s), vi (bI y)] h)).bind Kc = Kc (av_uL (av_uI h 51 (e * 4 + s) (nI (if y = true then 10 else 0))) 46 2 (-1)) := by rw [c_setCm w he hs y]; rfl
theorem came_ok (w : WF h) (J : J_cm h) (e s : Int32) (y : Bool) : ∃ z h1 h2, ev X (d + 4) 156 [vr (some 0), vi e, vi s, vi (bI y)] h = av_rI z h1 ∧ ev X (d + 4) 371 [vr (some 137), vi e, vi s, vi (bI y)] h1 = av_rI z h2 ∧ WF h2 ∧ J_cm h2 ∧ off false [51, 220] [(46, 2), (137, 0)] h h2 ∧ (h2.2.2.1 46 2 = -1 ∨ h2 = th h) := by
  have e5 : ∀ v : Int32, rg v 0 ((5 : Int) - 1) = rg v 0 4 := fun _ => rfl
  cases ok : (rg e 0 4 && rg s 0 3) with
  | false =>
    refine ⟨0, h, th h, ?_, ?_, w, J.fr (agr.uI rfl agr.rfl), agr.uI rfl agr.rfl, Or.inr rfl⟩
    · rcases bdi (rg e 0 4) with q1 | q1
      · simp (disch := first | ((repeat (first | with_reducible apply WF_uI | with_reducible apply WF_uL | with_reducible apply WF_th | with_reducible apply WF_fillL | with_reducible apply WF_fgt)); with_reducible assumption) | omega | (simp only [uI_1, uL_1, th_1, uI_R, uL_R]; with_reducible assumption)) only [e_156, b_156_0, ↓c_below', ↓c_isSide', ↓reduceIte, i10, av_cI_r, av_cL_r, av_cV_r, Option.bind_some, ↓zb_0, ↓zb_1, ↓zb_b, bI_0, tI_5, e5, q1, Bool.true_eq_false]
      rcases bdi (rg s 0 3) with q2 | q2
      · simp (disch := first | ((repeat (first | with_reducible apply WF_uI | with_reducible apply WF_uL | with_reducible apply WF_th | with_reducible apply WF_fillL | with_reducible apply WF_fgt)); with_reducible assumption) | omega | (simp only [uI_1, uL_1, th_1, uI_R, uL_R]; with_reducible assumption)) only [e_156, b_156_0, ↓c_below', ↓c_isSide', ↓reduceIte, i10, av_cI_r, av_cL_r, av_cV_r, Option.bind_some, ↓zb_0, ↓zb_1, ↓zb_b, bI_0, tI_5, e5, q1, q2, Bool.true_eq_false]
      simp [q1, q2] at ok
    · rcases bdi (rg e 0 4) with q1 | q1
      · simp (disch := first | ((repeat (first | with_reducible apply WF_uI | with_reducible apply WF_uL | with_reducible apply WF_th | with_reducible apply WF_fillL | with_reducible apply WF_fgt)); with_reducible assumption) | omega | (simp only [uI_1, uL_1, th_1, uI_R, uL_R]; with_reducible assumption)) only [e_371, b_371_0, ↓pI_137, th_e, ↓s_within', ↓s_isSide', ↓reduceIte, i10, av_cI_r, av_cL_r, av_cV_r, Option.bind_some, ↓zb_0, ↓zb_1, ↓zb_b, bI_0, tI_0, tI_4, q1, Bool.true_eq_false]
      rcases bdi (rg s 0 3) with q2 | q2
      · simp (disch := first | ((repeat (first | with_reducible apply WF_uI | with_reducible apply WF_uL | with_reducible apply WF_th | with_reducible apply WF_fillL | with_reducible apply WF_fgt)); with_reducible assumption) | omega | (simp only [uI_1, uL_1, th_1, uI_R, uL_R]; with_reducible assumption)) only [e_371, b_371_0, ↓pI_137, th_e, ↓s_within', ↓s_isSide', ↓reduceIte, i10, av_cI_r, av_cL_r, av_cV_r, Option.bind_some, ↓zb_0, ↓zb_1, ↓zb_b, bI_0, tI_0, tI_4, q1, q2, Bool.true_eq_false]
      simp [q1, q2] at ok
  | true =>
    obtain ⟨q1, q2⟩ : rg e 0 4 = true ∧ rg s 0 3 = true := by simpa only [Bool.and_eq_true] using ok
    obtain ⟨e, he, rfl⟩ := rg_nI (b := 4) (by decide) q1
    obtain ⟨s, hs, rfl⟩ := rg_nI (b := 3) (by decide) q2
    refine ⟨1, av_uL (av_uI h 51 (e * 4 + s) (nI (if y = true then 10 else 0))) 46 2 (-1), av_uI (th (av_uL (av_uI h 51 (e * 4 + s) (nI (if y = true then 10 else 0))) 46 2 (-1))) 220 (4 * e + s) (bI (!y)), ?_, ?_, w, fun e' he' s' hs' => ?_, ?_, Or.inl uL_eq⟩
    · simp (disch := first | ((repeat (first | with_reducible apply WF_uI | with_reducible apply WF_uL | with_reducible apply WF_th | with_reducible apply WF_fillL | with_reducible apply WF_fgt)); with_reducible assumption) | omega | (simp only [uI_1, uL_1, th_1, uI_R, uL_R]; with_reducible assumption)) only [e_156, b_156_0, ↓c_below', ↓c_isSide', ↓reduceIte, i10, av_cI_r, av_cL_r, av_cV_r, Option.bind_some, ↓zb_0, ↓zb_1, ↓zb_b, bI_0, tI_5, e5, q1, q2, Bool.true_eq_false, ↓gR_0_9, ↓is_46, ↓c_setCm']
    · have q0 : rg (nI e) 0 ((4 : Nat) : Int) = true := q1
      simp only [e_371, b_371_0, lit_4, pk_mul, nI_add]
      simp (disch := first | ((repeat (first | with_reducible apply WF_uI | with_reducible apply WF_uL | with_reducible apply WF_th | with_reducible apply WF_fillL | with_reducible apply WF_fgt)); with_reducible assumption) | omega | (simp only [uI_1, uL_1, th_1, uI_R, uL_R]; with_reducible assumption)) only [↓pI_137, th_e, ↓s_within', ↓s_isSide', ↓reduceIte, i10, av_cI_r, av_cL_r, av_cV_r, Option.bind_some, ↓zb_0, ↓zb_1, ↓zb_b, bI_0, tI_0, toI_nI, q0, q2, Bool.true_eq_false, ↓gR_137_104, ↓st_220, nar_0, nar_1]
      cases y <;> rfl
    · by_cases z : e' * 4 + s' = e * 4 + s
      · obtain ⟨rfl, rfl⟩ : e' = e ∧ s' = s := by omega
        refine ⟨y, ?_, ?_⟩ <;> simp (disch := omega) only [th, uI_ne, uL_I, uI_eq]
      · obtain ⟨c, c2, c3⟩ := J e' he' s' hs'
        refine ⟨c, ?_, ?_⟩
        · simp (disch := omega) only [th, uI_ne, uL_I, uI_nk]
          exact c2
        · rw [uI_nk (by omega)]
          simp (disch := omega) only [th, uI_ne, uL_I]
          exact c3
    · exact agr.uI rfl (agr.uI rfl (agr.uL rfl (agr.uI rfl agr.rfl)))
end
