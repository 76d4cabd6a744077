/-! a tower told -/
theorem na_40 {β : Type} {g : av_H} (K : av_H → Option β) : (av_na g 100 40).bind K = K (av_new g 100 40) := by rw [av_na, if_neg (by decide)]; rfl
theorem na_4 {β : Type} {g : av_H} (K : av_H → Option β) : (av_na g 100 4).bind K = K (av_new g 100 4) := by rw [av_na, if_neg (by decide)]; rfl
theorem tw_pR {β : Type} {g : av_H} {a : Nat} (w : g.1[a]? = some (9, 0)) (k : Nat) (v : Option Nat) (K : av_H → Option β) : (av_pR g (some a) 9 k v).bind K = K (av_uR g a k v) := bS (k_pR w k v) K
theorem WF.len {h : av_H} (w : WF h) : 226 ≤ h.1.length := by
  obtain ⟨t, e⟩ := w.1
  rw [e, List.length_append, show gK.length = 226 from rfl]
  omega
theorem uR_ne {h : av_H} {a b k : Nat} {v : Option Nat} (hb : b ≠ a) : (av_uR h a k v).2.2.2 b = h.2.2.2 b := va_up_ne _ _ hb
theorem uR_eq {h : av_H} {a k : Nat} {v : Option Nat} : (av_uR h a k v).2.2.2 a k = v := by simp [av_uR, va_up]
theorem uR_nk {h : av_H} {a j k : Nat} {v : Option Nat} (hj : j ≠ k) : (av_uR h a k v).2.2.2 a j = h.2.2.2 a j := by simp [av_uR, va_up, hj]
theorem gP_lt : ∀ q ∈ gP, q.1 ≠ 1 ∧ q.1 < 226 := by decide +kernel
/-- the cells as a new tower's making leaves them -/
def twM (h : av_H) (F C : Int32) : av_H :=
  av_uI (av_uI (av_uR (av_new (av_uR (av_new (av_uI (av_uI (av_uI (av_new h 9 0) h.1.length 2 2) h.1.length 3 1000) h.1.length 4 0) 100 40) h.1.length 5 (some (h.1.length + 1))) 100 4) h.1.length 6 (some (h.1.length + 2))) h.1.length 0 F) h.1.length 1 C
theorem twM_1 {h : av_H} {F C : Int32} : (twM h F C).1 = h.1 ++ [(9, 0), (100, 40), (100, 4)] := by simp [twM, av_uI, av_uR, av_new]
theorem twM_k0 {h : av_H} {F C : Int32} : (twM h F C).1[h.1.length]? = some (9, 0) := by rw [twM_1]; simp
theorem twM_k1 {h : av_H} {F C : Int32} : (twM h F C).1[h.1.length + 1]? = some (100, 40) := by rw [twM_1]; simp
theorem twM_k2 {h : av_H} {F C : Int32} : (twM h F C).1[h.1.length + 2]? = some (100, 4) := by rw [twM_1]; simp
theorem twM_I {h : av_H} {F C : Int32} {b : Nat} (hb : b < h.1.length) : (twM h F C).2.1 b = h.2.1 b := by
  funext k
  simp [twM, av_uI, av_uR, av_new, va_up, show ¬ b = h.1.length by omega, show ¬ b = h.1.length + 1 by omega, show ¬ b = h.1.length + 1 + 1 by omega]
theorem twM_L {h : av_H} {F C : Int32} {b : Nat} (hb : b < h.1.length) : (twM h F C).2.2.1 b = h.2.2.1 b := by
  funext k
  simp [twM, av_uI, av_uR, av_new, va_up, show ¬ b = h.1.length by omega, show ¬ b = h.1.length + 1 by omega, show ¬ b = h.1.length + 1 + 1 by omega]
theorem twM_R {h : av_H} {F C : Int32} {b : Nat} (hb : b < h.1.length) : (twM h F C).2.2.2 b = h.2.2.2 b := by
  funext k
  simp [twM, av_uI, av_uR, av_new, va_up, show ¬ b = h.1.length by omega, show ¬ b = h.1.length + 1 by omega, show ¬ b = h.1.length + 1 + 1 by omega]
theorem twM_0 {h : av_H} {F C : Int32} : (twM h F C).2.1 h.1.length 0 = F ∧ (twM h F C).2.1 h.1.length 1 = C ∧ (twM h F C).2.1 h.1.length 2 = 2 ∧ (twM h F C).2.1 h.1.length 3 = 1000 ∧ (twM h F C).2.1 h.1.length 4 = 0 ∧ (twM h F C).2.2.2 h.1.length 5 = some (h.1.length + 1) ∧ (twM h F C).2.2.2 h.1.length 6 = some (h.1.length + 2) ∧
    (∀ k, (twM h F C).2.1 (h.1.length + 1) k = 0) ∧ (∀ k, (twM h F C).2.1 (h.1.length + 2) k = 0) := by
  refine ⟨?_, ?_, ?_, ?_, ?_, ?_, ?_, fun k => ?_, fun k => ?_⟩ <;> simp [twM, av_uI, av_uR, av_new, va_up, upd]
theorem twM_wf {h : av_H} {F C : Int32} (w : WF h) : WF (twM h F C) := by
  have hl := w.len
  obtain ⟨⟨t, e⟩, w2, w3, w4⟩ := w
  refine ⟨⟨t ++ [(9, 0), (100, 40), (100, 4)], by rw [twM_1, e, List.append_assoc]⟩, fun q hq => ?_, fun k hk => ?_, ?_⟩
  · rw [twM_R (by have := (gP_lt q hq).2; omega)]
    exact w2 q hq
  · rw [twM_R (by omega)]
    exact w3 k hk
  · rw [twM_R (by omega)]
    exact w4
theorem WF_uR1 {h : av_H} {k : Nat} {v : Option Nat} (w : WF h) : WF (av_uR h 1 k v) := by
  obtain ⟨w1, w2, w3, w4⟩ := w
  refine ⟨w1, fun q hq => ?_, fun k hk => ?_, ?_⟩
  · rw [uR_ne (gP_lt q hq).1]
    exact w2 q hq
  · rw [uR_ne (by decide)]
    exact w3 k hk
  · exact w4
theorem sR1 {β : Type} {g : av_H} (w : WF g) {j a : Nat} (hj : j < 6) (k : g.1[a]? = some (9, 0)) (K : av_H → Option β) : (av_sR g (some 1) 104 9 (nI j) (some a)).bind K = K (av_uR g 1 j (some a)) := by
  have hk := w.k (a := 1) (q := (104, 6)) rfl
  have h1 : av_at g (some 1) 104 (nI j) = true := by
    simp only [av_at, hk, nI_clamp (show j < 2 ^ 31 by omega), nI_pos (show j < 2 ^ 31 by omega), decide_false, Bool.not_false, Bool.true_and, Bool.and_eq_true]
    exact ⟨rfl, Nat.blt_eq.mpr hj⟩
  simp only [av_sR, h1, av_is_k k, and_self, if_true, Option.bind_some, av_ad, Option.getD_some, nI_clamp (show j < 2 ^ 31 by omega)]
theorem uR_1 {h : av_H} {a k : Nat} {v : Option Nat} : (av_uR h a k v).1 = h.1 := rfl
theorem uR_I {h : av_H} {a k : Nat} {v : Option Nat} : (av_uR h a k v).2.1 = h.2.1 := rfl
theorem new_1 {h : av_H} {c n : Nat} : (av_new h c n).1 = h.1 ++ [(c, n)] := rfl
section
variable {X : av_X} {d : Nat} {h : av_H}
theorem c_init9 (F C : Int32) : ev X (d + 1) 116 [vr (some h.1.length), vi F, vi C] (av_new h 9 0) = av_rV (twM h F C) := by
  simp (disch := simp [av_new, av_uI, av_uR]) only [e_116, b_116_0, ↓tw_is, ↓tw_pI, ↓tw_pR, ↓na_40, ↓na_4]
  simp only [twM, uI_1, uR_1, new_1, List.length_append, List.length_cons, List.length_nil, Nat.zero_add, Nat.add_assoc, Nat.reduceAdd]
theorem c_init9' (F C : Int32) {β : Type} (K : av_H → Option β) : (av_cV (ev X (d + 1) 116 [vr (some h.1.length), vi F, vi C] (av_new h 9 0))).bind K = K (twM h F C) := by rw [c_init9]; rfl
/-- a tower may be told -/
def okT (h : av_H) (t F C : Int32) : Bool := rg t 0 5 && !told h t && rg F 1 12 && rg C 1 10
theorem C_tower0 (w : WF h) (J : J_tow h) (t F C : Int32) (ok : okT h t F C = false) : ev X (d + 2) 127 [vr (some 0), vi t, vi F, vi C] h = av_rI 0 h := by
  simp (disch := first | ((repeat (first | with_reducible apply WF_uI | with_reducible apply WF_uL | with_reducible apply WF_th)); with_reducible assumption) | omega | (simp only [uI_1, uL_1, th_1, uI_R, uL_R]; with_reducible assumption)) only [e_127, b_127_0, ↓c_below', ↓reduceIte, i10, av_cI_r, av_cL_r, av_cV_r, Option.bind_some, ↓zb_0, ↓zb_1, ↓zb_b, bI_0, tI_6]
  by_cases hr : rg t 0 5 = true
  · obtain ⟨j, hj, rfl⟩ := rg_nI (b := 5) (by decide) hr
    have hr6 : rg (nI j) 0 ((6 : Int) - 1) = true := hr
    simp (disch := first | ((repeat (first | with_reducible apply WF_uI | with_reducible apply WF_uL | with_reducible apply WF_th)); with_reducible assumption) | omega | (simp only [uI_1, uL_1, th_1, uI_R, uL_R]; with_reducible assumption)) only [hr6, ↓gR_0_0, ↓ld_1, ↓reduceIte, i10, av_cI_r, av_cL_r, av_cV_r, Option.bind_some, ↓zb_0, ↓zb_1, ↓zb_b, Bool.true_eq_false, if_false]
    cases ht : told h (nI j) with
    | true =>
      obtain ⟨t', a, h6, e, h1, -⟩ := told_ex J ht
      obtain rfl : j = t' := (nI_eq (by omega) (by omega)).mp e
      simp only [h1, Option.isNone_some, Bool.false_eq_true, if_false]
    | false =>
      have h0 := (told_no J hj ht).1
      simp only [h0, Option.isNone_none, if_true]
      simp (disch := first | ((repeat (first | with_reducible apply WF_uI | with_reducible apply WF_uL | with_reducible apply WF_th)); with_reducible assumption) | omega | (simp only [uI_1, uL_1, th_1, uI_R, uL_R]; with_reducible assumption)) only [↓c_within', ↓reduceIte, i10, av_cI_r, av_cL_r, av_cV_r, Option.bind_some, ↓zb_0, ↓zb_1, ↓zb_b, tI_1, tI_12, tI_10, bI_0]
      cases q2 : rg F 1 12 <;> cases q3 : rg C 1 10 <;> simp only [if_true, if_false, Bool.true_eq_false]
      simp [okT, hr, ht, q2, q3] at ok
  · have hr6 : rg t 0 ((6 : Int) - 1) = false := by simpa using hr
    simp only [hr6, if_true]
theorem C_tower1 (w : WF h) (J : J_tow h) {t : Nat} (F C : Int32) (h6 : t < 6) (ok : okT h (nI t) F C = true) : ev X (d + 2) 127 [vr (some 0), vi (nI t), vi F, vi C] h = av_rI 1 (av_uR (twM h F C) 1 t (some h.1.length)) := by
  simp only [okT, Bool.and_eq_true, Bool.not_eq_true'] at ok
  obtain ⟨⟨⟨hr, ht⟩, q2⟩, q3⟩ := ok
  have hr6 : rg (nI t) 0 ((6 : Int) - 1) = true := hr
  have h0 := (told_no J h6 ht).1
  have w2 := twM_wf (F := F) (C := C) w
  have k0 := twM_k0 (h := h) (F := F) (C := C)
  have hn : (av_new h 9 0).1[h.1.length]? = some (9, 0) := by simp [av_new]
  simp (disch := first | ((repeat (first | with_reducible apply WF_uI | with_reducible apply WF_uL | with_reducible apply WF_th)); with_reducible assumption) | omega | (simp only [uI_1, uL_1, th_1, uI_R, uL_R]; with_reducible assumption)) only [e_127, b_127_0, ↓c_below', ↓reduceIte, i10, av_cI_r, av_cL_r, av_cV_r, Option.bind_some, ↓zb_0, ↓zb_1, ↓zb_b, bI_0, tI_6, hr6, ↓gR_0_0, ↓ld_1, Bool.true_eq_false, if_false, h0, Option.isNone_none, if_true, ↓c_within', tI_1, tI_12, tI_10, q2, q3, ↓tw_is, ↓c_init9', ↓sR1]
theorem R_tower0 (w : WF h) (t F C : Int32) (ok : okT h t F C = false) : ev X (d + 2) 262 [vr (some 137), vi t, vi F, vi C] h = av_rI 0 (th h) := by
  simp (disch := first | ((repeat (first | with_reducible apply WF_uI | with_reducible apply WF_uL | with_reducible apply WF_th)); with_reducible assumption) | omega | (simp only [uI_1, uL_1, th_1, uI_R, uL_R]; with_reducible assumption)) only [e_262, b_262_0, ↓pI_137, th_e, ↓s_within', ↓reduceIte, i10, av_cI_r, av_cL_r, av_cV_r, Option.bind_some, ↓zb_0, ↓zb_1, ↓zb_b, bI_0, tI_0, tI_5]
  by_cases hr : rg t 0 5 = true
  · obtain ⟨j, hj, rfl⟩ := rg_nI (b := 5) (by decide) hr
    simp (disch := first | ((repeat (first | with_reducible apply WF_uI | with_reducible apply WF_uL | with_reducible apply WF_th)); with_reducible assumption) | omega | (simp only [uI_1, uL_1, th_1, uI_R, uL_R]; with_reducible assumption)) only [hr, ↓gR_137_10, ↓ld_143, ↓s_within', ↓reduceIte, i10, av_cI_r, av_cL_r, av_cV_r, Option.bind_some, ↓zb_0, ↓zb_1, ↓zb_b, bI_0, tI_1, tI_12, tI_10, Bool.true_eq_false, if_false]
    have e : told h (nI j) = decide (0 < (th h).2.1 143 j) := by rw [th_I (by decide), told_nI (by omega)]
    by_cases ht : 0 < (th h).2.1 143 j
    · simp only [ht, if_true]
    · cases q2 : rg F 1 12 <;> cases q3 : rg C 1 10 <;> simp only [ht, if_true, if_false, Bool.true_eq_false]
      simp [okT, hr, e, ht, q2, q3] at ok
  · have hr : rg t 0 5 = false := by simpa using hr
    simp only [hr, if_true]
theorem R_tower1 (w : WF h) {t : Nat} (F C : Int32) (h6 : t < 6) (ok : okT h (nI t) F C = true) : ev X (d + 2) 262 [vr (some 137), vi (nI t), vi F, vi C] h = av_rI 1 (av_uI (av_uI (th h) 143 t F) 144 t C) := by
  simp only [okT, Bool.and_eq_true, Bool.not_eq_true'] at ok
  obtain ⟨⟨⟨hr, ht⟩, q2⟩, q3⟩ := ok
  have e : ¬ 0 < (th h).2.1 143 t := by
    rw [th_I (by decide)]
    rw [told_nI h6, decide_eq_false_iff_not] at ht
    exact ht
  simp (disch := first | ((repeat (first | with_reducible apply WF_uI | with_reducible apply WF_uL | with_reducible apply WF_th)); with_reducible assumption) | omega | (simp only [uI_1, uL_1, th_1, uI_R, uL_R]; with_reducible assumption)) only [e_262, b_262_0, ↓pI_137, th_e, ↓s_within', ↓reduceIte, i10, av_cI_r, av_cL_r, av_cV_r, Option.bind_some, ↓zb_0, ↓zb_1, ↓zb_b, bI_0, tI_0, tI_5, hr, ↓gR_137_10, ↓gR_137_11, ↓ld_143, ↓st_143, ↓st_144, tI_1, tI_12, tI_10, Bool.true_eq_false, if_false, e, q2, q3]
theorem tower_ok (w : WF h) (J : J_tow h) (t F C : Int32) : ∃ z h1 h2, ev X (d + 2) 127 [vr (some 0), vi t, vi F, vi C] h = av_rI z h1 ∧ ev X (d + 2) 262 [vr (some 137), vi t, vi F, vi C] h1 = av_rI z h2 ∧ WF h2 ∧ J_tow h2 ∧
    off true [1, 143, 144] [(137, 0)] h h2 ∧ h2.1.length ≤ h.1.length + 3 := by
  cases ok : okT h t F C with
  | false => exact ⟨0, h, th h, C_tower0 w J t F C ok, R_tower0 w t F C ok, w, J.fr (agr.uI rfl agr.rfl), agr.uI rfl agr.rfl, Nat.le_add_right _ _⟩
  | true =>
    obtain ⟨⟨⟨hr, q1⟩, q2⟩, q3⟩ : ((rg t 0 5 = true ∧ told h t = false) ∧ rg F 1 12 = true) ∧ rg C 1 10 = true := by simpa only [okT, Bool.and_eq_true, Bool.not_eq_true'] using ok
    obtain ⟨t, h6, rfl⟩ := rg_nI (b := 5) (by decide) hr
    obtain ⟨F, f1, f2, rfl⟩ := rg_nI1 (b := 12) (by decide) q2
    obtain ⟨C, c1, c2, rfl⟩ := rg_nI1 (b := 10) (by decide) q3
    have hl := w.len
    obtain ⟨n0, n1⟩ := told_no J h6 q1
    obtain ⟨m1, m2, m3, m4, m5, m6, m7, m8, m9⟩ := twM_0 (h := h) (F := nI F) (C := nI C)
    have eI : ∀ b, b < h.1.length → (av_uR (twM h (nI F) (nI C)) 1 t (some h.1.length)).2.1 b = h.2.1 b := fun b hb => twM_I hb
    refine ⟨1, _, _, C_tower1 w J (nI F) (nI C) h6 ok, R_tower1 (h := av_uR (twM h (nI F) (nI C)) 1 t (some h.1.length)) (WF_uR1 (twM_wf w)) (nI F) (nI C) h6 ?_, WF_uR1 (twM_wf w), ?_, ?_, ?_⟩
    · rw [← ok]
      simp only [okT, told, eI 143 (by omega)]
    · have eR : ∀ u, u ≠ t → (av_uR (twM h (nI F) (nI C)) 1 t (some h.1.length)).2.2.2 1 u = h.2.2.2 1 u := fun u hu => by
        rw [uR_nk hu, twM_R (by omega)]
      have eT : (av_uR (twM h (nI F) (nI C)) 1 t (some h.1.length)).2.2.2 1 t = some h.1.length := by
        exact uR_eq
      have lt : ∀ u a, u < 6 → u ≠ t → h.2.2.2 1 u = some a → twA h u a ∧ a + 3 ≤ h.1.length := fun u a hu e z => by
        rcases J.1 u hu with ⟨h1, h2⟩ | ⟨b, h1, h2⟩
        · rw [h1] at z; cases z
        · obtain rfl : a = b := by rw [h1] at z; exact (Option.some.inj z).symm
          refine ⟨h2, ?_⟩
          have := h2.2.2.2.1
          rcases Nat.lt_or_ge (a + 2) h.1.length with y | y
          · omega
          · rw [List.getElem?_eq_none y] at this; cases this
      have rS : ∀ u, u ≠ t → rowS u h (av_uI (av_uI (th (av_uR (twM h (nI F) (nI C)) 1 t (some h.1.length))) 143 t (nI F)) 144 t (nI C)) := fun u hu => by
        refine rowS.tr (g := th (av_uR (twM h (nI F) (nI C)) 1 t (some h.1.length))) ?_ ((rowS_c (by decide) hu).tr (rowS_c (by decide) hu))
        refine rowS.tr (g := av_uR (twM h (nI F) (nI C)) 1 t (some h.1.length)) ?_ (rowS_u (by decide))
        refine ⟨?_, ?_, ?_, ?_, ?_, fun _ _ _ _ _ _ => ?_, fun _ _ _ _ => ?_⟩ <;> rw [eI _ (by omega)]
      refine ⟨fun u hu => ?_, fun u v a b hu hv e z1 z2 => ?_⟩
      · by_cases e : u = t
        · subst e
          obtain ⟨u1, u2, u3, u4, u5, u6⟩ := n1
          refine Or.inr ⟨h.1.length, eT, hl, twM_k0 (F := nI F) (C := nI C), twM_k1 (F := nI F) (C := nI C), twM_k2 (F := nI F) (C := nI C), ?_, ?_, ⟨F, C, 2, 1000, 0, f1, f2, c1, c2, by decide, by decide, by decide, by decide, by decide, ?_⟩, fun s hs c hc => ⟨0, by decide, ?_, fun f hf => ?_⟩, fun s hs => ⟨0, by decide, ?_, fun x hx => ?_⟩⟩
          · exact (congrFun (uR_ne (h := twM h (nI F) (nI C)) (a := 1) (k := u) (v := some h.1.length) (b := h.1.length) (by omega)) 5).trans m6
          · exact (congrFun (uR_ne (h := twM h (nI F) (nI C)) (a := 1) (k := u) (v := some h.1.length) (b := h.1.length) (by omega)) 6).trans m7
          · simp (disch := omega) only [th, uI_ne, uI_eq, eI]
            simp only [uR_I]
            exact ⟨m1, trivial, m2, trivial, m3, u2, m4, u3, m5, u4⟩
          · simp (disch := omega) only [th, uI_ne]
            exact m8 _
          · simp (disch := omega) only [th, uI_ne, eI]
            rw [u5 s hs c hc f hf]
            simp [bI]
          · simp (disch := omega) only [th, uI_ne]
            exact m9 _
          · simp (disch := omega) only [th, uI_ne, eI]
            rw [u6 s hs x hx]
            simp [bI]
        · rcases J.1 u hu with ⟨z1, z2⟩ | ⟨a, z1, z2⟩
          · exact Or.inl ⟨(eR u e).trans z1, z2.fr (rS u e)⟩
          · have y := (lt u a hu e z1).2
            have y0 := z2.1
            refine Or.inr ⟨a, (eR u e).trans z1, z2.fr ⟨[(9, 0), (100, 40), (100, 4)], twM_1 (F := nI F) (C := nI C)⟩ ⟨?_, ?_, ?_, ?_⟩ (rS u e)⟩
            · exact (uR_ne (by omega)).trans (twM_R (by omega))
            · simp (disch := omega) only [th, uI_ne, eI]
            · simp (disch := omega) only [th, uI_ne, eI]
            · simp (disch := omega) only [th, uI_ne, eI]
      · by_cases e1 : u = t
        · subst e1
          have e2 : v ≠ u := fun z => e z.symm
          obtain rfl : a = h.1.length := (Option.some.inj (z1.symm.trans eT))
          exact Or.inr (lt v b hv e2 ((eR v e2).symm.trans z2)).2
        · by_cases e2 : v = t
          · subst e2
            obtain rfl : b = h.1.length := (Option.some.inj (z2.symm.trans eT))
            exact Or.inl (lt u a hu e1 ((eR u e1).symm.trans z1)).2
          · exact J.2 u v a b hu hv e ((eR u e1).symm.trans z1) ((eR v e2).symm.trans z2)
    · refine agr.uI rfl (agr.uI rfl (agr.uI rfl ⟨⟨[(9, 0), (100, 40), (100, 4)], twM_1 (F := nI F) (C := nI C)⟩, fun a k e => ?_⟩))
      have ha : a ≠ 1 ∧ a < 226 := by
        simp [FP] at e
        omega
      refine ⟨congrFun (twM_I (F := nI F) (C := nI C) (by omega)) k, congrFun (twM_L (F := nI F) (C := nI C) (by omega)) k, ?_⟩
      rw [uR_ne ha.1]
      exact congrFun (twM_R (F := nI F) (C := nI C) (by omega)) k
    · show (twM h (nI F) (nI C)).1.length ≤ _
      rw [twM_1]
      simp
end
