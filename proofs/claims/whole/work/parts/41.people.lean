/-! elder, drill, match, away, offer -/
theorem pZ0_27 {β : Type} {h : av_H} (w : WF h) (k : Nat) (K : av_H → Option β) : (av_pZ h (some 27) 3 k 0).bind K = K (av_uI h 27 k 0) := pZ_27 w k false K
/-- who is an elder -/
def J_el (h : av_H) : Prop := ∃ b, b < 1024 ∧ h.2.1 27 3 = nI b ∧ ∀ p, p < 10 → h.2.1 159 p = bI (b.testBit p)
theorem J_el.fr {h h' : av_H} (J : J_el h) (A : agr (FP false [159] [(27, 3)]) h h') : J_el h' := by
  obtain ⟨b, h1, h2, h3⟩ := J
  exact ⟨b, h1, (A.I rfl).trans h2, fun p hp => (A.I rfl).trans (h3 p hp)⟩
/-- who is drilled -/
def J_dr (h : av_H) : Prop := ∀ p, p < 10 → h.2.1 160 p = h.2.1 28 p ∧ (h.2.1 28 p = -1 ∨ ∃ e, e < 100 ∧ h.2.1 28 p = nI e)
theorem J_dr.fr {h h' : av_H} (J : J_dr h) (A : agr (FP false [28, 160] []) h h') : J_dr h' := fun p hp => by
  rw [A.I rfl, A.I rfl]
  exact J p hp
/-- how two go together -/
def J_to (h : av_H) : Prop := ∀ a, a < 10 → ∀ b, b < 10 → ∃ n, n ≤ 99 ∧ h.2.1 190 (10 * a + b) = nI n ∧ h.2.1 30 (a * 10 + b) = nI n
theorem J_to.fr {h h' : av_H} (J : J_to h) (A : agr (FP false [30, 190] []) h h') : J_to h' := fun a ha b hb => by
  rw [A.I rfl, A.I rfl]
  exact J a ha b hb
/-- who is away -/
def J_aw (h : av_H) : Prop := ∀ p, p < 10 → ∃ b, b < 1048576 ∧ h.2.1 31 p = nI b ∧ ∀ k, k < 20 → h.2.1 197 (20 * p + k) = bI (b.testBit k)
theorem J_aw.fr {h h' : av_H} (J : J_aw h) (A : agr (FP false [31, 197] []) h h') : J_aw h' := fun p hp => by
  obtain ⟨b, h1, h2, h3⟩ := J p hp
  exact ⟨b, h1, (A.I rfl).trans h2, fun k hk => (A.I rfl).trans (h3 k hk)⟩
/-- the offers -/
def J_of (h : av_H) : Prop := ∀ o, o < 8 → ∃ c t m, c ≤ 9999 ∧ t < 64 ∧ m ≤ 6 ∧ h.2.1 59 o = nI m ∧ h.2.1 195 o = nI m ∧ (0 < m → h.2.1 57 o = nI c ∧ h.2.1 193 o = nI c ∧ h.2.1 58 o = nI t ∧ h.2.1 194 o = nI t)
theorem J_of.fr {h h' : av_H} (J : J_of h) (A : agr (FP false [57, 58, 59, 193, 194, 195] []) h h') : J_of h' := fun o ho => by
  rw [A.I rfl, A.I rfl, A.I rfl, A.I rfl, A.I rfl, A.I rfl]
  exact J o ho
section
variable {X : av_X} {d : Nat} {h : av_H}
theorem c_setEl {p b : Nat} (w : WF h) (hp : p < 10) (hb : h.2.1 27 3 = nI b) (y : Bool) : ev X (d + 1) 24 [vr (some 27), vi (nI p), vi (bI y)] h = av_rV (av_uI (av_uI h 27 3 (nI (setB b p y))) 27 13 0) := by
  simp (disch := first | ((repeat (first | with_reducible apply WF_uI | with_reducible apply WF_uL | with_reducible apply WF_th)); with_reducible assumption) | omega | (simp only [uI_1, uL_1, th_1, uI_R, uL_R]; with_reducible assumption)) only [e_24, b_24_0, ↓gI_27_3, hb, nb_sh1, nb_or, nb_andn, ↓pI_27, ↓pZ0_27, bI_0, setB]
  cases y <;> rfl
theorem c_setEl' {p b : Nat} (w : WF h) (hp : p < 10) (hb : h.2.1 27 3 = nI b) (y : Bool) {β : Type} (Kc : av_H → Option β) : (av_cV (ev X (d + 1) 24 [vr (some 27), vi (nI p), vi (bI y)] h)).bind Kc = Kc (av_uI (av_uI h 27 3 (nI (setB b p y))) 27 13 0) := by rw [c_setEl w hp hb y]; rfl
theorem elder_ok (w : WF h) (J : J_el h) (p : Int32) (y : Bool) : ∃ z h1 h2, ev X (d + 3) 134 [vr (some 0), vi p, vi (bI y)] h = av_rI z h1 ∧ ev X (d + 3) 270 [vr (some 137), vi p, vi (bI y)] h1 = av_rI z h2 ∧ WF h2 ∧ J_el h2 ∧ off false [159] [(27, 3), (27, 13), (137, 0)] h h2 ∧ (h2.2.1 27 13 = 0 ∨ h2 = th h) := by
  cases ok : rg p 0 9 with
  | false =>
    refine ⟨0, h, th h, ?_, ?_, w, J.fr (agr.uI rfl agr.rfl), agr.uI rfl agr.rfl, Or.inr rfl⟩
    · simp (disch := first | ((repeat (first | with_reducible apply WF_uI | with_reducible apply WF_uL | with_reducible apply WF_th)); with_reducible assumption) | omega | (simp only [uI_1, uL_1, th_1, uI_R, uL_R]; with_reducible assumption)) only [e_134, b_134_0, ↓c_isPerson', ↓reduceIte, i10, av_cI_r, av_cL_r, av_cV_r, Option.bind_some, ↓zb_0, ↓zb_1, ↓zb_b, bI_0, ok, if_true]
    · simp (disch := first | ((repeat (first | with_reducible apply WF_uI | with_reducible apply WF_uL | with_reducible apply WF_th)); with_reducible assumption) | omega | (simp only [uI_1, uL_1, th_1, uI_R, uL_R]; with_reducible assumption)) only [e_270, b_270_0, ↓pI_137, th_e, ↓s_isPerson', ↓reduceIte, i10, av_cI_r, av_cL_r, av_cV_r, Option.bind_some, ↓zb_0, ↓zb_1, ↓zb_b, bI_0, ok, if_true]
  | true =>
    obtain ⟨p, hp, rfl⟩ := rg_nI (b := 9) (by decide) ok
    obtain ⟨b, b1, b2, b3⟩ := J
    refine ⟨1, av_uI (av_uI h 27 3 (nI (setB b p y))) 27 13 0, av_uI (th (av_uI (av_uI h 27 3 (nI (setB b p y))) 27 13 0)) 159 p (bI y), ?_, ?_, w, ⟨setB b p y, setB_lt (n := 10) y b1 (by omega), ?_, fun q hq => ?_⟩, ?_, Or.inl ?_⟩
    · simp (disch := first | ((repeat (first | with_reducible apply WF_uI | with_reducible apply WF_uL | with_reducible apply WF_th)); with_reducible assumption) | omega | (simp only [uI_1, uL_1, th_1, uI_R, uL_R]; with_reducible assumption)) only [e_134, b_134_0, ↓c_isPerson', ↓reduceIte, i10, av_cI_r, av_cL_r, av_cV_r, Option.bind_some, ↓zb_0, ↓zb_1, ↓zb_b, bI_0, ok, Bool.true_eq_false, if_false, ↓gR_0_6, ↓is_27, ↓c_setEl' (b := b)]
    · simp (disch := first | ((repeat (first | with_reducible apply WF_uI | with_reducible apply WF_uL | with_reducible apply WF_th)); with_reducible assumption) | omega | (simp only [uI_1, uL_1, th_1, uI_R, uL_R]; with_reducible assumption)) only [e_270, b_270_0, ↓pI_137, th_e, ↓s_isPerson', ↓reduceIte, i10, av_cI_r, av_cL_r, av_cV_r, Option.bind_some, ↓zb_0, ↓zb_1, ↓zb_b, bI_0, ok, Bool.true_eq_false, if_false, ↓gR_137_28, ↓st_159, nar_b]
    · simp (disch := omega) only [th, uI_ne, uI_nk, uI_eq]
    · rw [setB_bit]
      by_cases e : q = p
      · subst e
        rw [uI_eq, if_pos rfl]
      · rw [uI_nk e, if_neg e]
        simp (disch := omega) only [th, uI_ne]
        exact b3 q hq
    · exact agr.uI rfl (agr.uI rfl (agr.uI rfl (agr.uI rfl agr.rfl)))
    · simp (disch := omega) only [th, uI_ne, uI_eq]
theorem drill_ok (w : WF h) (J : J_dr h) (p e : Int32) : ∃ z h1 h2, ev X (d + 3) 135 [vr (some 0), vi p, vi e] h = av_rI z h1 ∧ ev X (d + 3) 271 [vr (some 137), vi p, vi e] h1 = av_rI z h2 ∧ WF h2 ∧ J_dr h2 ∧ off false [28, 160] [(137, 0)] h h2 := by
  cases ok : (rg p 0 9 && rg e 0 99) with
  | false =>
    refine ⟨0, h, th h, ?_, ?_, w, J.fr (agr.uI rfl agr.rfl), agr.uI rfl agr.rfl⟩
    · simp (disch := first | ((repeat (first | with_reducible apply WF_uI | with_reducible apply WF_uL | with_reducible apply WF_th)); with_reducible assumption) | omega | (simp only [uI_1, uL_1, th_1, uI_R, uL_R]; with_reducible assumption)) only [e_135, b_135_0, ↓c_isPerson', ↓c_isDay', ↓reduceIte, i10, av_cI_r, av_cL_r, av_cV_r, Option.bind_some, ↓zb_0, ↓zb_1, ↓zb_b, bI_0]
      cases q1 : rg p 0 9 <;> cases q2 : rg e 0 99 <;> simp only [if_true, if_false, Bool.true_eq_false]
      simp [q1, q2] at ok
    · simp (disch := first | ((repeat (first | with_reducible apply WF_uI | with_reducible apply WF_uL | with_reducible apply WF_th)); with_reducible assumption) | omega | (simp only [uI_1, uL_1, th_1, uI_R, uL_R]; with_reducible assumption)) only [e_271, b_271_0, ↓pI_137, th_e, ↓s_isPerson', ↓s_isDay', ↓reduceIte, i10, av_cI_r, av_cL_r, av_cV_r, Option.bind_some, ↓zb_0, ↓zb_1, ↓zb_b, bI_0]
      cases q1 : rg p 0 9 <;> cases q2 : rg e 0 99 <;> simp only [if_true, if_false, Bool.true_eq_false]
      simp [q1, q2] at ok
  | true =>
    obtain ⟨q1, q2⟩ : rg p 0 9 = true ∧ rg e 0 99 = true := by simpa only [Bool.and_eq_true] using ok
    obtain ⟨p, hp, rfl⟩ := rg_nI (b := 9) (by decide) q1
    obtain ⟨e, he, rfl⟩ := rg_nI (b := 99) (by decide) q2
    refine ⟨1, av_uI h 28 p (nI e), av_uI (th (av_uI h 28 p (nI e))) 160 p (nI e), ?_, ?_, w, fun q hq => ?_, ?_⟩
    · simp (disch := first | ((repeat (first | with_reducible apply WF_uI | with_reducible apply WF_uL | with_reducible apply WF_th)); with_reducible assumption) | omega | (simp only [uI_1, uL_1, th_1, uI_R, uL_R]; with_reducible assumption)) only [e_135, b_135_0, ↓c_isPerson', ↓c_isDay', ↓reduceIte, i10, av_cI_r, av_cL_r, av_cV_r, Option.bind_some, ↓zb_0, ↓zb_1, ↓zb_b, bI_0, q1, q2, Bool.true_eq_false, if_false, ↓gR_0_6, ↓gR_27_0, ↓st_28]
    · simp (disch := first | ((repeat (first | with_reducible apply WF_uI | with_reducible apply WF_uL | with_reducible apply WF_th)); with_reducible assumption) | omega | (simp only [uI_1, uL_1, th_1, uI_R, uL_R]; with_reducible assumption)) only [e_271, b_271_0, ↓pI_137, th_e, ↓s_isPerson', ↓s_isDay', ↓reduceIte, i10, av_cI_r, av_cL_r, av_cV_r, Option.bind_some, ↓zb_0, ↓zb_1, ↓zb_b, bI_0, q1, q2, Bool.true_eq_false, if_false, ↓gR_137_29, ↓st_160]
    · by_cases z : q = p
      · subst z
        simp (disch := omega) only [th, uI_ne, uI_eq, true_and]
        exact Or.inr ⟨e, by omega, rfl⟩
      · simp (disch := omega) only [th, uI_ne, uI_nk]
        exact J q hq
    · exact agr.uI rfl (agr.uI rfl (agr.uI rfl agr.rfl))
theorem c_setTo (w : WF h) {a b : Nat} (ha : a < 10) (hb : b < 10) (n : Int32) : ev X (d + 3) 27 [vr (some 27), vi (nI a), vi (nI b), vi n] h = av_rV (av_uI (av_uI (av_uI h 30 (a * 10 + b) n) 30 (b * 10 + a) n) 27 13 0) := by
  have q1 : rg (nI a) 0 9 = true := rg_lt2 (n := 9) (by omega) (by decide)
  have q2 : rg (nI b) 0 9 = true := rg_lt2 (n := 9) (by omega) (by decide)
  simp only [e_27, b_27_0, lit_10, pk_mul, nI_add]
  simp (disch := first | ((repeat (first | with_reducible apply WF_uI | with_reducible apply WF_uL | with_reducible apply WF_th)); with_reducible assumption) | omega | (simp only [uI_1, uL_1, th_1, uI_R, uL_R]; with_reducible assumption)) only [↓c_isPerson', ↓reduceIte, i10, av_cI_r, av_cL_r, av_cV_r, Option.bind_some, ↓zb_0, ↓zb_1, ↓zb_b, bI_0, q1, q2, Bool.true_eq_false, if_false, ↓gR_27_4, ↓st_30, ↓pZ0_27]
theorem c_setTo' (w : WF h) {a b : Nat} (ha : a < 10) (hb : b < 10) (n : Int32) {β : Type} (Kc : av_H → Option β) : (av_cV (ev X (d + 3) 27 [vr (some 27), vi (nI a), vi (nI b), vi n] h)).bind Kc = Kc (av_uI (av_uI (av_uI h 30 (a * 10 + b) n) 30 (b * 10 + a) n) 27 13 0) := by rw [c_setTo w ha hb n]; rfl
def okM (a b n : Int32) : Bool := rg a 0 9 && rg b 0 9 && !decide (a = b) && rg n 0 99
theorem match_ok (w : WF h) (J : J_to h) (a b n : Int32) : ∃ z h1 h2, ev X (d + 4) 158 [vr (some 0), vi a, vi b, vi n] h = av_rI z h1 ∧ ev X (d + 4) 333 [vr (some 137), vi a, vi b, vi n] h1 = av_rI z h2 ∧ WF h2 ∧ J_to h2 ∧ off false [30, 190] [(27, 13), (137, 0)] h h2 ∧ (h2.2.1 27 13 = 0 ∨ h2 = th h) := by
  cases ok : okM a b n with
  | false =>
    refine ⟨0, h, th h, ?_, ?_, w, J.fr (agr.uI rfl agr.rfl), agr.uI rfl agr.rfl, Or.inr rfl⟩
    · simp (disch := first | ((repeat (first | with_reducible apply WF_uI | with_reducible apply WF_uL | with_reducible apply WF_th)); with_reducible assumption) | omega | (simp only [uI_1, uL_1, th_1, uI_R, uL_R]; with_reducible assumption)) only [e_158, b_158_0, ↓c_isPerson', ↓c_within', ↓reduceIte, i10, av_cI_r, av_cL_r, av_cV_r, Option.bind_some, ↓zb_0, ↓zb_1, ↓zb_b, bI_0, tI_0, tI_99]
      cases q1 : rg a 0 9 <;> cases q2 : rg b 0 9 <;> by_cases q3 : a = b <;> cases q4 : rg n 0 99 <;> simp only [q3, if_true, if_false, Bool.true_eq_false]
      simp [okM, q1, q2, q3, q4] at ok
    · simp (disch := first | ((repeat (first | with_reducible apply WF_uI | with_reducible apply WF_uL | with_reducible apply WF_th)); with_reducible assumption) | omega | (simp only [uI_1, uL_1, th_1, uI_R, uL_R]; with_reducible assumption)) only [e_333, b_333_0, ↓pI_137, th_e, ↓s_isPerson', ↓s_within', ↓reduceIte, i10, av_cI_r, av_cL_r, av_cV_r, Option.bind_some, ↓zb_0, ↓zb_1, ↓zb_b, bI_0, tI_0, tI_99]
      cases q1 : rg a 0 9 <;> cases q2 : rg b 0 9 <;> by_cases q3 : a = b <;> cases q4 : rg n 0 99 <;> simp only [q3, if_true, if_false, Bool.true_eq_false]
      simp [okM, q1, q2, q3, q4] at ok
  | true =>
    obtain ⟨⟨⟨q1, q2⟩, q3⟩, q4⟩ : ((rg a 0 9 = true ∧ rg b 0 9 = true) ∧ ¬ a = b) ∧ rg n 0 99 = true := by simpa only [okM, Bool.and_eq_true, Bool.not_eq_true', decide_eq_false_iff_not] using ok
    obtain ⟨a, ha, rfl⟩ := rg_nI (b := 9) (by decide) q1
    obtain ⟨b, hb, rfl⟩ := rg_nI (b := 9) (by decide) q2
    obtain ⟨n, hn, rfl⟩ := rg_nI (b := 99) (by decide) q4
    refine ⟨1, av_uI (av_uI (av_uI h 30 (a * 10 + b) (nI n)) 30 (b * 10 + a) (nI n)) 27 13 0, av_uI (av_uI (th (av_uI (av_uI (av_uI h 30 (a * 10 + b) (nI n)) 30 (b * 10 + a) (nI n)) 27 13 0)) 190 (10 * a + b) (nI n)) 190 (10 * b + a) (nI n), ?_, ?_, w, fun x hx y hy => ?_, ?_, Or.inl ?_⟩
    · simp (disch := first | ((repeat (first | with_reducible apply WF_uI | with_reducible apply WF_uL | with_reducible apply WF_th)); with_reducible assumption) | omega | (simp only [uI_1, uL_1, th_1, uI_R, uL_R]; with_reducible assumption)) only [e_158, b_158_0, ↓c_isPerson', ↓c_within', ↓reduceIte, i10, av_cI_r, av_cL_r, av_cV_r, Option.bind_some, ↓zb_0, ↓zb_1, ↓zb_b, bI_0, tI_0, tI_99, q1, q2, q3, q4, Bool.true_eq_false, if_false, ↓gR_0_6, ↓is_27, ↓c_setTo']
    · simp only [e_333, b_333_0, lit_10, pk_mul, nI_add]
      simp (disch := first | ((repeat (first | with_reducible apply WF_uI | with_reducible apply WF_uL | with_reducible apply WF_th)); with_reducible assumption) | omega | (simp only [uI_1, uL_1, th_1, uI_R, uL_R]; with_reducible assumption)) only [↓pI_137, th_e, ↓s_isPerson', ↓s_within', ↓reduceIte, i10, av_cI_r, av_cL_r, av_cV_r, Option.bind_some, ↓zb_0, ↓zb_1, ↓zb_b, bI_0, tI_0, tI_99, q1, q2, q3, q4, Bool.true_eq_false, if_false, ↓gR_137_70, ↓st_190]
    · obtain ⟨m, m1, m2, m3⟩ := J x hx y hy
      by_cases z1 : 10 * x + y = 10 * b + a
      · obtain ⟨rfl, rfl⟩ : x = b ∧ y = a := by omega
        refine ⟨n, by omega, uI_eq, ?_⟩
        simp (disch := omega) only [th, uI_ne, uI_eq]
      · by_cases z2 : 10 * x + y = 10 * a + b
        · obtain ⟨rfl, rfl⟩ : x = a ∧ y = b := by omega
          refine ⟨n, by omega, ?_, ?_⟩
          · rw [uI_nk z1, uI_eq]
          · simp (disch := omega) only [th, uI_ne, uI_nk, uI_eq]
        · refine ⟨m, m1, ?_, ?_⟩
          · rw [uI_nk z1, uI_nk z2]
            simp (disch := omega) only [th, uI_ne]
            exact m2
          · simp (disch := omega) only [th, uI_ne, uI_nk]
            exact m3
    · exact agr.uI rfl (agr.uI rfl (agr.uI rfl (agr.uI rfl (agr.uI rfl (agr.uI rfl agr.rfl)))))
    · simp (disch := omega) only [th, uI_ne, uI_eq]
theorem c_setAw {p k b : Nat} (w : WF h) (hp : p < 10) (hk : k < 20) (hb : h.2.1 31 p = nI b) (y : Bool) : ev X (d + 3) 35 [vr (some 27), vi (nI p), vi (nI k), vi (bI y)] h = av_rV (av_uI h 31 p (nI (setB b k y))) := by
  have q1 : rg (nI p) 0 9 = true := rg_lt2 (n := 9) (by omega) (by decide)
  simp (disch := first | ((repeat (first | with_reducible apply WF_uI | with_reducible apply WF_uL | with_reducible apply WF_th)); with_reducible assumption) | omega | (simp only [uI_1, uL_1, th_1, uI_R, uL_R]; with_reducible assumption)) only [e_35, b_35_0, ↓c_isPerson', ↓reduceIte, i10, av_cI_r, av_cL_r, av_cV_r, Option.bind_some, ↓zb_0, ↓zb_1, ↓zb_b, q1, Bool.true_eq_false, if_false, ↓gR_27_5, ↓ld_31, hb, nb_sh1, nb_or, nb_andn, ↓st_31, bI_0, setB]
  cases y <;> rfl
theorem c_setAw' {p k b : Nat} (w : WF h) (hp : p < 10) (hk : k < 20) (hb : h.2.1 31 p = nI b) (y : Bool) {β : Type} (Kc : av_H → Option β) : (av_cV (ev X (d + 3) 35 [vr (some 27), vi (nI p), vi (nI k), vi (bI y)] h)).bind Kc = Kc (av_uI h 31 p (nI (setB b k y))) := by rw [c_setAw w hp hk hb y]; rfl
theorem away_ok (w : WF h) (J : J_aw h) (p k : Int32) (y : Bool) : ∃ z h1 h2, ev X (d + 4) 162 [vr (some 0), vi p, vi k, vi (bI y)] h = av_rI z h1 ∧ ev X (d + 4) 341 [vr (some 137), vi p, vi k, vi (bI y)] h1 = av_rI z h2 ∧ WF h2 ∧ J_aw h2 ∧ off false [31, 197] [(137, 0)] h h2 := by
  have e20 : ∀ v : Int32, rg v 0 ((20 : Int) - 1) = rg v 0 19 := fun _ => rfl
  cases ok : (rg p 0 9 && rg k 0 19) with
  | false =>
    refine ⟨0, h, th h, ?_, ?_, w, J.fr (agr.uI rfl agr.rfl), agr.uI rfl agr.rfl⟩
    · simp (disch := first | ((repeat (first | with_reducible apply WF_uI | with_reducible apply WF_uL | with_reducible apply WF_th)); with_reducible assumption) | omega | (simp only [uI_1, uL_1, th_1, uI_R, uL_R]; with_reducible assumption)) only [e_162, b_162_0, ↓c_isPerson', ↓c_below', ↓reduceIte, i10, av_cI_r, av_cL_r, av_cV_r, Option.bind_some, ↓zb_0, ↓zb_1, ↓zb_b, bI_0, tI_20, e20]
      cases q1 : rg p 0 9 <;> cases q2 : rg k 0 19 <;> simp only [if_true, if_false, Bool.true_eq_false]
      simp [q1, q2] at ok
    · simp (disch := first | ((repeat (first | with_reducible apply WF_uI | with_reducible apply WF_uL | with_reducible apply WF_th)); with_reducible assumption) | omega | (simp only [uI_1, uL_1, th_1, uI_R, uL_R]; with_reducible assumption)) only [e_341, b_341_0, ↓pI_137, th_e, ↓s_isPerson', ↓s_within', ↓reduceIte, i10, av_cI_r, av_cL_r, av_cV_r, Option.bind_some, ↓zb_0, ↓zb_1, ↓zb_b, bI_0, tI_0, tI_19]
      cases q1 : rg p 0 9 <;> cases q2 : rg k 0 19 <;> simp only [if_true, if_false, Bool.true_eq_false]
      simp [q1, q2] at ok
  | true =>
    obtain ⟨q1, q2⟩ : rg p 0 9 = true ∧ rg k 0 19 = true := by simpa only [Bool.and_eq_true] using ok
    obtain ⟨p, hp, rfl⟩ := rg_nI (b := 9) (by decide) q1
    obtain ⟨k, hk, rfl⟩ := rg_nI (b := 19) (by decide) q2
    obtain ⟨b, b1, b2, b3⟩ := J p (by omega)
    refine ⟨1, av_uI h 31 p (nI (setB b k y)), av_uI (th (av_uI h 31 p (nI (setB b k y)))) 197 (20 * p + k) (bI y), ?_, ?_, w, fun q hq => ?_, ?_⟩
    · simp (disch := first | ((repeat (first | with_reducible apply WF_uI | with_reducible apply WF_uL | with_reducible apply WF_th)); with_reducible assumption) | omega | (simp only [uI_1, uL_1, th_1, uI_R, uL_R]; with_reducible assumption)) only [e_162, b_162_0, ↓c_isPerson', ↓c_below', ↓reduceIte, i10, av_cI_r, av_cL_r, av_cV_r, Option.bind_some, ↓zb_0, ↓zb_1, ↓zb_b, bI_0, tI_20, e20, q1, q2, Bool.true_eq_false, if_false, ↓gR_0_6, ↓is_27, ↓c_setAw' (b := b)]
    · simp only [e_341, b_341_0, lit_20, pk_mul, nI_add]
      simp (disch := first | ((repeat (first | with_reducible apply WF_uI | with_reducible apply WF_uL | with_reducible apply WF_th)); with_reducible assumption) | omega | (simp only [uI_1, uL_1, th_1, uI_R, uL_R]; with_reducible assumption)) only [↓pI_137, th_e, ↓s_isPerson', ↓s_within', ↓reduceIte, i10, av_cI_r, av_cL_r, av_cV_r, Option.bind_some, ↓zb_0, ↓zb_1, ↓zb_b, bI_0, tI_0, tI_19, q1, q2, Bool.true_eq_false, if_false, ↓gR_137_77, ↓st_197, nar_b]
    · by_cases z : q = p
      · subst z
        refine ⟨setB b k y, setB_lt (n := 20) y b1 (by omega), ?_, fun j hj => ?_⟩
        · simp (disch := omega) only [th, uI_ne, uI_eq]
        · rw [setB_bit]
          by_cases e : j = k
          · subst e
            rw [uI_eq, if_pos rfl]
          · rw [uI_nk (by omega), if_neg e]
            simp (disch := omega) only [th, uI_ne]
            exact b3 j hj
      · obtain ⟨c, c1, c2, c3⟩ := J q hq
        refine ⟨c, c1, ?_, fun j hj => ?_⟩
        · simp (disch := omega) only [th, uI_ne, uI_nk]
          exact c2
        · rw [uI_nk (by omega)]
          simp (disch := omega) only [th, uI_ne]
          exact c3 j hj
    · exact agr.uI rfl (agr.uI rfl (agr.uI rfl agr.rfl))
theorem c_setOf (w : WF h) {o : Nat} (ho : o < 8) (c t m : Int32) : ev X (d + 2) 104 [vr (some 56), vi (nI o), vi c, vi t, vi m] h = av_rV (av_uI (av_uI (av_uI h 57 o c) 58 o t) 59 o m) := by
  have q1 : rg (nI o) 0 ((8 : Int) - 1) = true := rg_lt2 (n := 7) (by omega) (by decide)
  simp (disch := first | ((repeat (first | with_reducible apply WF_uI | with_reducible apply WF_uL | with_reducible apply WF_th)); with_reducible assumption) | omega | (simp only [uI_1, uL_1, th_1, uI_R, uL_R]; with_reducible assumption)) only [e_104, b_104_0, ↓c_below', ↓reduceIte, i10, av_cI_r, av_cL_r, av_cV_r, Option.bind_some, ↓zb_0, ↓zb_1, ↓zb_b, tI_8, bI_0, q1, Bool.true_eq_false, if_false, ↓gR_56_0, ↓ld_57, ↓st_57, ↓ln_57, ↓gR_56_1, ↓ld_58, ↓st_58, ↓ln_58, ↓gR_56_2, ↓ld_59, ↓st_59, ↓ln_59]
theorem c_setOf' (w : WF h) {o : Nat} (ho : o < 8) (c t m : Int32) {β : Type} (Kc : av_H → Option β) : (av_cV (ev X (d + 2) 104 [vr (some 56), vi (nI o), vi c, vi t, vi m] h)).bind Kc = Kc (av_uI (av_uI (av_uI h 57 o c) 58 o t) 59 o m) := by rw [c_setOf w ho c t m]; rfl
def okO (o c t m : Int32) : Bool := rg o 0 7 && rg c 0 9999 && rg t 0 63 && rg m 0 6
theorem offer_ok (w : WF h) (J : J_of h) (o c t m : Int32) : ∃ z h1 h2, ev X (d + 3) 160 [vr (some 0), vi o, vi c, vi t, vi m] h = av_rI z h1 ∧ ev X (d + 3) 337 [vr (some 137), vi o, vi c, vi t, vi m] h1 = av_rI z h2 ∧ WF h2 ∧ J_of h2 ∧ off false [57, 58, 59, 193, 194, 195] [(137, 0)] h h2 := by
  have e8 : ∀ v : Int32, rg v 0 ((8 : Int) - 1) = rg v 0 7 := fun _ => rfl
  have e64 : ∀ v : Int32, rg v 0 ((64 : Int) - 1) = rg v 0 63 := fun _ => rfl
  cases ok : okO o c t m with
  | false =>
    refine ⟨0, h, th h, ?_, ?_, w, J.fr (agr.uI rfl agr.rfl), agr.uI rfl agr.rfl⟩
    · simp (disch := first | ((repeat (first | with_reducible apply WF_uI | with_reducible apply WF_uL | with_reducible apply WF_th)); with_reducible assumption) | omega | (simp only [uI_1, uL_1, th_1, uI_R, uL_R]; with_reducible assumption)) only [e_160, b_160_0, ↓c_below', ↓c_within', ↓reduceIte, i10, av_cI_r, av_cL_r, av_cV_r, Option.bind_some, ↓zb_0, ↓zb_1, ↓zb_b, bI_0, tI_0, tI_6, tI_8, tI_64, tI_9999, e8, e64]
      cases q1 : rg o 0 7 <;> cases q2 : rg c 0 9999 <;> cases q3 : rg t 0 63 <;> cases q4 : rg m 0 6 <;> simp only [if_true, if_false, Bool.true_eq_false]
      simp [okO, q1, q2, q3, q4] at ok
    · simp (disch := first | ((repeat (first | with_reducible apply WF_uI | with_reducible apply WF_uL | with_reducible apply WF_th)); with_reducible assumption) | omega | (simp only [uI_1, uL_1, th_1, uI_R, uL_R]; with_reducible assumption)) only [e_337, b_337_0, ↓pI_137, th_e, ↓s_within', ↓reduceIte, i10, av_cI_r, av_cL_r, av_cV_r, Option.bind_some, ↓zb_0, ↓zb_1, ↓zb_b, bI_0, tI_0, tI_6, tI_7, tI_63, tI_9999]
      cases q1 : rg o 0 7 <;> cases q2 : rg c 0 9999 <;> cases q3 : rg t 0 63 <;> cases q4 : rg m 0 6 <;> simp only [if_true, if_false, Bool.true_eq_false]
      simp [okO, q1, q2, q3, q4] at ok
  | true =>
    obtain ⟨⟨⟨q1, q2⟩, q3⟩, q4⟩ : ((rg o 0 7 = true ∧ rg c 0 9999 = true) ∧ rg t 0 63 = true) ∧ rg m 0 6 = true := by simpa only [okO, Bool.and_eq_true] using ok
    obtain ⟨o, ho, rfl⟩ := rg_nI (b := 7) (by decide) q1
    obtain ⟨c, hc, rfl⟩ := rg_nI (b := 9999) (by decide) q2
    obtain ⟨t, ht, rfl⟩ := rg_nI (b := 63) (by decide) q3
    obtain ⟨m, hm, rfl⟩ := rg_nI (b := 6) (by decide) q4
    refine ⟨1, av_uI (av_uI (av_uI h 57 o (nI c)) 58 o (nI t)) 59 o (nI m), av_uI (av_uI (av_uI (th (av_uI (av_uI (av_uI h 57 o (nI c)) 58 o (nI t)) 59 o (nI m))) 193 o (if 0 < m then nI c else 0)) 194 o (if 0 < m then nI t else 0)) 195 o (nI m), ?_, ?_, w, fun q hq => ?_, ?_⟩
    · simp (disch := first | ((repeat (first | with_reducible apply WF_uI | with_reducible apply WF_uL | with_reducible apply WF_th)); with_reducible assumption) | omega | (simp only [uI_1, uL_1, th_1, uI_R, uL_R]; with_reducible assumption)) only [e_160, b_160_0, ↓c_below', ↓c_within', ↓reduceIte, i10, av_cI_r, av_cL_r, av_cV_r, Option.bind_some, ↓zb_0, ↓zb_1, ↓zb_b, bI_0, tI_0, tI_6, tI_8, tI_64, tI_9999, e8, e64, q1, q2, q3, q4, Bool.true_eq_false, if_false, ↓gR_0_10, ↓is_56, ↓c_setOf']
    · have e : ((0 : Int32) < nI m) = (0 < m) := by rw [lit_0, eq_iff_iff]; exact nI_ltI (by omega) (by omega)
      simp (disch := first | ((repeat (first | with_reducible apply WF_uI | with_reducible apply WF_uL | with_reducible apply WF_th)); with_reducible assumption) | omega | (simp only [uI_1, uL_1, th_1, uI_R, uL_R]; with_reducible assumption)) only [e_337, b_337_0, ↓pI_137, th_e, ↓s_within', ↓reduceIte, i10, av_cI_r, av_cL_r, av_cV_r, Option.bind_some, ↓zb_0, ↓zb_1, ↓zb_b, bI_0, tI_0, tI_6, tI_7, tI_63, tI_9999, q1, q2, q3, q4, Bool.true_eq_false, if_false, ↓gR_137_73, e]
      by_cases z : 0 < m <;> simp (disch := first | ((repeat (first | with_reducible apply WF_uI | with_reducible apply WF_uL | with_reducible apply WF_th)); with_reducible assumption) | omega | (simp only [uI_1, uL_1, th_1, uI_R, uL_R]; with_reducible assumption)) only [z, if_true, if_false, b_337_33, ↓pI_137, ↓gR_137_73, ↓ld_193, ↓st_193, ↓ln_193, ↓gR_137_74, ↓ld_194, ↓st_194, ↓ln_194, ↓gR_137_75, ↓ld_195, ↓st_195, ↓ln_195, ↓reduceIte, i10, av_cI_r, av_cL_r, av_cV_r, Option.bind_some, ↓zb_0, ↓zb_1, ↓zb_b, e]
    · by_cases z : q = o
      · subst z
        refine ⟨c, t, m, by omega, by omega, by omega, ?_, ?_, fun z => ?_⟩
        · simp (disch := omega) only [th, uI_ne, uI_eq]
        · simp (disch := omega) only [uI_eq]
        · simp (disch := omega) only [th, uI_ne, uI_eq, z, if_true, and_self]
      · simp (disch := omega) only [th, uI_ne, uI_nk]
        exact J q hq
    · exact agr.uI rfl (agr.uI rfl (agr.uI rfl (agr.uI rfl (agr.uI rfl (agr.uI rfl (agr.uI rfl agr.rfl))))))
end
