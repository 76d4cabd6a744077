/-! want -/
/-- what is wanted, and its order by worth -/
def J_wa (h : av_H) : Prop := ∃ (n : Nat) (p S W : Nat → Nat), n ≤ 8 ∧ h.2.1 46 0 = nI n ∧ h.2.1 137 64 = nI n ∧
  (∀ k, k < n → S k < 4 ∧ 1 ≤ W k ∧ W k ≤ 99 ∧ h.2.1 47 k = nI (S k) ∧ h.2.1 186 k = nI (S k) ∧ h.2.1 48 k = nI (W k) ∧ h.2.1 187 k = nI (W k)) ∧
  (∀ i, i < n → p i < n ∧ h.2.1 49 i = nI (p i)) ∧
  (∀ i j, i < j → j < n → W (p j) < W (p i) ∨ (W (p i) = W (p j) ∧ p i < p j)) ∧ (∀ k, k < n → ∃ i, i < n ∧ p i = k)
theorem J_wa.fr {h h' : av_H} (J : J_wa h) (A : agr (FP false [47, 48, 49, 186, 187] [(46, 0), (137, 64)]) h h') : J_wa h' := by
  obtain ⟨n, p, S, W, h1, h2, h3, h4, h5, h6, h7⟩ := J
  refine ⟨n, p, S, W, h1, (A.I rfl).trans h2, (A.I rfl).trans h3, fun k hk => ?_, fun i hi => ?_, h6, h7⟩
  · rw [A.I rfl, A.I rfl, A.I rfl, A.I rfl]
    exact h4 k hk
  · rw [A.I rfl]
    exact h5 i hi
/-- the order from i on moved up by one -/
def shO (h : av_H) (i n : Nat) : av_H := (h.1, va_up h.2.1 49 (fun j => if i < j ∧ j ≤ n then h.2.1 49 (j - 1) else h.2.1 49 j), h.2.2.1, h.2.2.2)
theorem shO_n {h : av_H} {n : Nat} : shO h n n = h := by
  have : va_up h.2.1 49 (fun j => if n < j ∧ j ≤ n then h.2.1 49 (j - 1) else h.2.1 49 j) = h.2.1 := by
    funext b j
    by_cases e : b = 49
    · subst e
      rw [va_up_self, if_neg (by omega)]
    · rw [va_up_ne _ _ e]
  simp only [shO, this]
theorem shO_s {h : av_H} {i n : Nat} (hi : i + 1 ≤ n) : av_uI (shO h (i + 1) n) 49 (i + 1) (h.2.1 49 i) = shO h i n := by
  have : va_up (va_up h.2.1 49 (fun j => if i + 1 < j ∧ j ≤ n then h.2.1 49 (j - 1) else h.2.1 49 j)) 49 (upd (va_up h.2.1 49 (fun j => if i + 1 < j ∧ j ≤ n then h.2.1 49 (j - 1) else h.2.1 49 j) 49) (i + 1) (h.2.1 49 i)) = va_up h.2.1 49 (fun j => if i < j ∧ j ≤ n then h.2.1 49 (j - 1) else h.2.1 49 j) := by
    funext b j
    by_cases e : b = 49
    · subst e
      rw [va_up_self, va_up_self, va_up_self]
      by_cases e2 : j = i + 1
      · subst e2
        rw [pk_us, if_pos (by omega)]
        rfl
      · rw [pk_un e2]
        by_cases e3 : i + 1 < j ∧ j ≤ n
        · rw [if_pos e3, if_pos (by omega)]
        · rw [if_neg e3, if_neg (by omega)]
    · rw [va_up_ne _ _ e, va_up_ne _ _ e, va_up_ne _ _ e]
  simp only [av_uI, shO, this]
theorem shO_ne {h : av_H} {i n b : Nat} (e : b ≠ 49) : (shO h i n).2.1 b = h.2.1 b := va_up_ne _ _ e
theorem shO_49 {h : av_H} {i n j : Nat} : (shO h i n).2.1 49 j = if i < j ∧ j ≤ n then h.2.1 49 (j - 1) else h.2.1 49 j := by simp [shO, va_up]
theorem WF_shO {h : av_H} {i n : Nat} (w : WF h) : WF (shO h i n) := w
section
variable {X : av_X} {d : Nat} {h : av_H}
theorem ins_lp (w : WF h) {n : Nat} (hn : n < 8) (p : Nat → Nat) (hp : ∀ i, i < n → p i < 8 ∧ h.2.1 49 i = nI (p i)) (v : Int32) : ∀ i, i ≤ n → ∃ q, q ≤ i ∧ (∀ k, q ≤ k → k < i → h.2.1 48 (p k) < v) ∧ (q = 0 ∨ ¬ h.2.1 48 (p (q - 1)) < v) ∧
    bd X d 43 24 [(0, vr (some 46)), (2, vi v), (3, vi (nI i)), (4, vi (nI i))] [] (shO h i n) = bd X d 43 53 [(0, vr (some 46)), (3, vi (nI q))] [] (shO h q n)
  | 0, hi => ⟨0, by omega, fun k a b => by omega, Or.inl rfl, by rw [b_43_24, if_neg (by decide)]⟩
  | i + 1, hi => by
    obtain ⟨p1, p2⟩ := hp i (by omega)
    have w' : WF (shO h (i + 1) n) := w
    have l1 : (shO h (i + 1) n).2.1 49 i = nI (p i) := by rw [shO_49, if_neg (by omega), p2]
    have c0 : (0 : Int32) < nI (i + 1) := nI_lt (a := 0) (by omega) (by omega)
    by_cases q : h.2.1 48 (p i) < v
    · obtain ⟨r, r1, r2, r3, r4⟩ := ins_lp w hn p hp v i (by omega)
      refine ⟨r, by omega, fun k a b => ?_, r3, ?_⟩
      · by_cases e : k = i
        · subst e
          exact q
        · exact r2 k a (by omega)
      · rw [b_43_24, if_pos c0, gR_46_6 w', gR_46_7 w', nI_pred, ld_49 w' (by omega), l1, ld_48 w' p1, shO_ne (by decide), if_pos q, gR_46_7 w', gR_46_7 w', ld_49 w' (by omega), l1, st_49 w' (by omega), ← p2, shO_s (by omega), pk_m1]
        exact r4
    · refine ⟨i + 1, by omega, fun k a b => by omega, Or.inr q, ?_⟩
      rw [b_43_24, if_pos c0, gR_46_6 w', gR_46_7 w', nI_pred, ld_49 w' (by omega), l1, ld_48 w' p1, shO_ne (by decide), if_neg q]
theorem gIv_46_0 {β : Type} {g : av_H} (w : WF g) {v : Int32} (e : g.2.1 46 0 = v) (K : Int32 → Option β) : (av_gI g (some 46) 4 0).bind K = K v := by rw [gI_46_0 w, e]
theorem gIv_137_64 {β : Type} {g : av_H} (w : WF g) {v : Int32} (e : g.2.1 137 64 = v) (K : Int32 → Option β) : (av_gI g (some 137) 11 64).bind K = K v := by rw [gI_137_64 w, e]
/-- the class's cells with one more wanted, at place q of the order -/
def waC (h : av_H) (n q : Nat) (s v : Int32) : av_H := fgt (av_uI (av_uI (shO (av_uI (av_uI h 47 n s) 48 n v) q n) 49 q (nI n)) 46 0 (nI (n + 1)))
theorem c_addW (w : WF h) {n : Nat} (hm : h.2.1 46 0 = nI n) (hn : n < 8) (p : Nat → Nat) (hp : ∀ i, i < n → p i < n ∧ h.2.1 49 i = nI (p i)) (s v : Int32) : ∃ q, q ≤ n ∧ (∀ k, q ≤ k → k < n → h.2.1 48 (p k) < v) ∧ (q = 0 ∨ ¬ h.2.1 48 (p (q - 1)) < v) ∧
    ev X (d + 3) 43 [vr (some 46), vi s, vi v] h = av_rI (nI n) (waC h n q s v) := by
  have n48 : ∀ k, k < n → (av_uI (av_uI h 47 n s) 48 n v).2.1 48 (p k) = h.2.1 48 (p k) := fun k hk => by
    have := (hp k hk).1
    rw [uI_nk (by omega), uI_ne (by decide)]
  obtain ⟨q, q1, q2, q3, q4⟩ := ins_lp (X := X) (d := d + 2) (h := av_uI (av_uI h 47 n s) 48 n v) w hn p (fun i hi => by
    obtain ⟨a, b⟩ := hp i hi
    exact ⟨by omega, by simp (disch := omega) only [uI_ne]; exact b⟩) v n (Nat.le_refl n)
  refine ⟨q, q1, fun k a b => by rw [← n48 k b]; exact q2 k a b, ?_, ?_⟩
  · rcases q3 with e | e
    · exact Or.inl e
    · by_cases z : q = 0
      · exact Or.inl z
      · exact Or.inr (by rw [← n48 _ (by omega)]; exact e)
  · rw [shO_n] at q4
    have c8 : nI n < (8 : Int32) := nI_lt (b := 8) hn (by omega)
    simp (disch := first | ((repeat (first | with_reducible apply WF_uI | with_reducible apply WF_uL | with_reducible apply WF_th | with_reducible apply WF_fillL | with_reducible apply WF_fgt)); with_reducible assumption) | omega | (simp (disch := omega) only [uI_ne, uI_nk, uI_eq, nI_1, th_I, th_k, hm]; done) | (simp only [uI_1, uL_1, th_1, uI_R, uL_R]; with_reducible assumption)) only [e_43, b_43_0, ↓gIv_46_0 (v := nI n), ↓gR_46_5, ↓ld_47, ↓st_47, ↓ln_47, ↓gR_46_6, ↓ld_48, ↓st_48, ↓ln_48, ↓gR_46_7, ↓ld_49, ↓st_49, ↓ln_49, ↓pI_46, ↓is_46, ↓reduceIte, i10, av_cI_r, av_cL_r, av_cV_r, Option.bind_some, ↓zb_0, ↓zb_1, ↓zb_b, c8]
    rw [q4, b_43_53]
    have w2 : WF (shO (av_uI (av_uI h 47 n s) 48 n v) q n) := w
    have e1 : (shO (av_uI (av_uI h 47 n s) 48 n v) q n).2.1 46 0 = nI n := by rw [shO_ne (by decide)]; simp (disch := omega) only [uI_ne, hm]
    rw [gR_46_7 w2, gIv_46_0 w2 e1, st_49 w2 (by omega), gIv_46_0 (v := nI n) (WF_uI w2) (by rw [uI_ne (by decide)]; exact e1), pI_46 (WF_uI w2), nI_1, is_46 (WF_uI (WF_uI w2)), c_forget' (WF_uI (WF_uI w2)), gIv_46_0 (v := nI (n + 1)) (WF_fgt (WF_uI (WF_uI w2))) (by rw [fgt_I, uI_eq]), nI_pred]
    rfl
def okWa (n : Nat) (s v : Int32) : Bool := rg s 0 3 && rg v 1 99 && decide (n < 8)
def waR (h : av_H) (n : Nat) (s v : Int32) : av_H := av_uI (av_uI (av_uI (th h) 186 n s) 187 n v) 137 64 (nI (n + 1))
theorem R_want (w : WF h) {n : Nat} (hm : h.2.1 137 64 = nI n) (hn : n < 8) (s v : Int32) (q1 : rg s 0 3 = true) (q2 : rg v 1 99 = true) : ev X (d + 3) 319 [vr (some 137), vi s, vi v] h = av_rI (nI n) (waR h n s v) := by
  have q : ¬ nI n = (8 : Int32) := fun e => by have := (nI_eq (a := n) (b := 8) (by omega) (by omega)).mp e; omega
  simp (disch := first | ((repeat (first | with_reducible apply WF_uI | with_reducible apply WF_uL | with_reducible apply WF_th | with_reducible apply WF_fillL | with_reducible apply WF_fgt)); with_reducible assumption) | omega | (simp (disch := omega) only [uI_ne, uI_nk, uI_eq, nI_1, th_I, th_k, hm]; done) | (simp only [uI_1, uL_1, th_1, uI_R, uL_R]; with_reducible assumption)) only [e_319, b_319_0, ↓gIv_137_64 (v := nI n), ↓pI_137, ↓gR_137_65, ↓ld_186, ↓st_186, ↓ln_186, ↓gR_137_66, ↓ld_187, ↓st_187, ↓ln_187, th_e, ↓s_isSide', ↓s_within', ↓reduceIte, i10, av_cI_r, av_cL_r, av_cV_r, Option.bind_some, ↓zb_0, ↓zb_1, ↓zb_b, bI_0, tI_1, tI_99, q1, q2, q, nI_1, Bool.true_eq_false, ↓gIv_137_64 (v := nI (n + 1)), nI_pred, waR]
theorem want_ok (w : WF h) (J : J_wa h) (s v : Int32) : ∃ z h1 h2, ev X (d + 4) 151 [vr (some 0), vi s, vi v] h = av_rI z h1 ∧ ev X (d + 4) 319 [vr (some 137), vi s, vi v] h1 = av_rI z h2 ∧ WF h2 ∧ J_wa h2 ∧ off false [47, 48, 49, 52, 186, 187] [(46, 0), (46, 1), (46, 2), (137, 64), (137, 0)] h h2 ∧ (K0 h2 ∨ h2 = th h) := by
  have J0 := J
  obtain ⟨n, p, S, W, h1, h2, h3, h4, h5, h6, h7⟩ := J
  cases ok : okWa n s v with
  | false =>
    refine ⟨-1, h, th h, ?_, ?_, w, J0.fr (agr.uI rfl agr.rfl), agr.uI rfl agr.rfl, Or.inr rfl⟩
    · rcases bdi (rg s 0 3) with q1 | q1
      · simp (disch := first | ((repeat (first | with_reducible apply WF_uI | with_reducible apply WF_uL | with_reducible apply WF_th | with_reducible apply WF_fillL | with_reducible apply WF_fgt)); with_reducible assumption) | omega | (simp only [uI_1, uL_1, th_1, uI_R, uL_R]; with_reducible assumption)) only [e_151, b_151_0, ↓c_isSide', ↓c_within', ↓reduceIte, i10, av_cI_r, av_cL_r, av_cV_r, Option.bind_some, ↓zb_0, ↓zb_1, ↓zb_b, bI_0, tI_1, tI_99, q1, Bool.true_eq_false]
      rcases bdi (rg v 1 99) with q2 | q2
      · simp (disch := first | ((repeat (first | with_reducible apply WF_uI | with_reducible apply WF_uL | with_reducible apply WF_th | with_reducible apply WF_fillL | with_reducible apply WF_fgt)); with_reducible assumption) | omega | (simp only [uI_1, uL_1, th_1, uI_R, uL_R]; with_reducible assumption)) only [e_151, b_151_0, ↓c_isSide', ↓c_within', ↓reduceIte, i10, av_cI_r, av_cL_r, av_cV_r, Option.bind_some, ↓zb_0, ↓zb_1, ↓zb_b, bI_0, tI_1, tI_99, q1, q2, Bool.true_eq_false]
      have q3 : n = 8 := by
        have : ¬ n < 8 := by simpa [okWa, q1, q2] using ok
        omega
      subst q3
      simp (disch := first | ((repeat (first | with_reducible apply WF_uI | with_reducible apply WF_uL | with_reducible apply WF_th | with_reducible apply WF_fillL | with_reducible apply WF_fgt)); with_reducible assumption) | omega | (simp (disch := omega) only [uI_ne, uI_nk, uI_eq, nI_1, th_I, th_k, h2]; done) | (simp only [uI_1, uL_1, th_1, uI_R, uL_R]; with_reducible assumption)) only [e_151, b_151_0, ↓c_isSide', ↓c_within', ↓reduceIte, i10, av_cI_r, av_cL_r, av_cV_r, Option.bind_some, ↓zb_0, ↓zb_1, ↓zb_b, bI_0, tI_1, tI_99, q1, q2, Bool.true_eq_false, ↓gR_0_9, ↓is_46, e_43, b_43_0, ↓gIv_46_0 (v := nI 8), show ¬ nI 8 < (8 : Int32) by decide]
    · rcases bdi (rg s 0 3) with q1 | q1
      · simp (disch := first | ((repeat (first | with_reducible apply WF_uI | with_reducible apply WF_uL | with_reducible apply WF_th | with_reducible apply WF_fillL | with_reducible apply WF_fgt)); with_reducible assumption) | omega | (simp only [uI_1, uL_1, th_1, uI_R, uL_R]; with_reducible assumption)) only [e_319, b_319_0, ↓pI_137, th_e, ↓s_isSide', ↓s_within', ↓reduceIte, i10, av_cI_r, av_cL_r, av_cV_r, Option.bind_some, ↓zb_0, ↓zb_1, ↓zb_b, bI_0, tI_1, tI_99, q1, Bool.true_eq_false]
      rcases bdi (rg v 1 99) with q2 | q2
      · simp (disch := first | ((repeat (first | with_reducible apply WF_uI | with_reducible apply WF_uL | with_reducible apply WF_th | with_reducible apply WF_fillL | with_reducible apply WF_fgt)); with_reducible assumption) | omega | (simp only [uI_1, uL_1, th_1, uI_R, uL_R]; with_reducible assumption)) only [e_319, b_319_0, ↓pI_137, th_e, ↓s_isSide', ↓s_within', ↓reduceIte, i10, av_cI_r, av_cL_r, av_cV_r, Option.bind_some, ↓zb_0, ↓zb_1, ↓zb_b, bI_0, tI_1, tI_99, q1, q2, Bool.true_eq_false]
      have q3 : n = 8 := by
        have : ¬ n < 8 := by simpa [okWa, q1, q2] using ok
        omega
      subst q3
      simp (disch := first | ((repeat (first | with_reducible apply WF_uI | with_reducible apply WF_uL | with_reducible apply WF_th | with_reducible apply WF_fillL | with_reducible apply WF_fgt)); with_reducible assumption) | omega | (simp (disch := omega) only [uI_ne, uI_nk, uI_eq, nI_1, th_I, th_k, h3]; done) | (simp only [uI_1, uL_1, th_1, uI_R, uL_R]; with_reducible assumption)) only [e_319, b_319_0, ↓pI_137, th_e, ↓s_isSide', ↓s_within', ↓reduceIte, i10, av_cI_r, av_cL_r, av_cV_r, Option.bind_some, ↓zb_0, ↓zb_1, ↓zb_b, bI_0, tI_1, tI_99, q1, q2, Bool.true_eq_false, ↓gIv_137_64 (v := nI 8), lit_8]
  | true =>
    obtain ⟨⟨q1, q2⟩, q3⟩ : (rg s 0 3 = true ∧ rg v 1 99 = true) ∧ n < 8 := by simpa only [okWa, Bool.and_eq_true, decide_eq_true_eq] using ok
    obtain ⟨q, r1, r2, r3, r4⟩ := c_addW (X := X) (d := d) w h2 q3 p h5 s v
    obtain ⟨s, hs, rfl⟩ := rg_nI (b := 3) (by decide) q1
    obtain ⟨v, v1, v2, rfl⟩ := rg_nI1 (b := 99) (by decide) q2
    refine ⟨nI n, waC h n q (nI s) (nI v), waR (waC h n q (nI s) (nI v)) n (nI s) (nI v), ?_, R_want (d := d + 1) (h := waC h n q (nI s) (nI v)) w ?_ q3 _ _ q1 q2, w, ?_, ?_, Or.inl fgt_K0⟩
    · simp (disch := first | ((repeat (first | with_reducible apply WF_uI | with_reducible apply WF_uL | with_reducible apply WF_th | with_reducible apply WF_fillL | with_reducible apply WF_fgt)); with_reducible assumption) | omega | (simp only [uI_1, uL_1, th_1, uI_R, uL_R]; with_reducible assumption)) only [e_151, b_151_0, ↓c_isSide', ↓c_within', ↓reduceIte, i10, av_cI_r, av_cL_r, av_cV_r, Option.bind_some, ↓zb_0, ↓zb_1, ↓zb_b, bI_0, tI_1, tI_99, q1, q2, Bool.true_eq_false, ↓gR_0_9, ↓is_46, r4]
    · simp (disch := omega) only [waC, fgt_I, uI_ne, shO_ne, h3]
    · have lt : ∀ k, k < n → (h.2.1 48 (p k) < nI v ↔ W (p k) < v) := fun k hk => by
        have a := (h5 k hk).1
        obtain ⟨-, -, b1, -, -, b2, -⟩ := h4 (p k) a
        rw [b2]
        exact nI_ltI (by omega) (by omega)
      have s1 : ∀ k, q ≤ k → k < n → W (p k) < v := fun k a b => (lt k b).mp (r2 k a b)
      have s2 : ∀ k, k < q → v ≤ W (p k) := fun k a => by
        rcases r3 with e | e
        · omega
        · have e2 : ¬ W (p (q - 1)) < v := fun z => e ((lt (q - 1) (by omega)).mpr z)
          by_cases e3 : k = q - 1
          · subst e3
            omega
          · rcases h6 k (q - 1) (by omega) (by omega) with z | z <;> omega
      refine ⟨n + 1, fun i => if i < q then p i else if i = q then n else p (i - 1), fun k => if k = n then s else S k, fun k => if k = n then v else W k, by omega, ?_, ?_, fun k hk => ?_, fun i hi => ?_, fun i j hij hj => ?_, fun k hk => ?_⟩
      · simp (disch := omega) only [waR, th, waC, fgt_I, uI_ne, uI_eq]
      · simp (disch := omega) only [waR, uI_eq]
      · by_cases e : k = n
        · subst e
          simp (disch := omega) only [waR, th, waC, fgt_I, uI_ne, uI_nk, uI_eq, shO_ne, if_true, and_self, and_true]
          omega
        · simp (disch := omega) only [waR, th, waC, fgt_I, uI_ne, uI_nk, shO_ne, if_neg e]
          exact h4 k (by omega)
      · have e49 : (waR (waC h n q (nI s) (nI v)) n (nI s) (nI v)).2.1 49 i = (av_uI (shO (av_uI (av_uI h 47 n (nI s)) 48 n (nI v)) q n) 49 q (nI n)).2.1 49 i := by simp (disch := omega) only [waR, th, waC, fgt_I, uI_ne]
        rw [e49]
        show (if i < q then p i else if i = q then n else p (i - 1)) < n + 1 ∧ _ = nI (if i < q then p i else if i = q then n else p (i - 1))
        by_cases e1 : i < q
        · have := h5 i (by omega)
          rw [if_pos e1, uI_nk (by omega), shO_49, if_neg (by omega), uI_ne (by decide), uI_ne (by decide)]
          exact ⟨by omega, this.2⟩
        · rw [if_neg e1]
          by_cases e2 : i = q
          · subst e2
            rw [if_pos rfl, uI_eq]
            exact ⟨by omega, rfl⟩
          · have := h5 (i - 1) (by omega)
            rw [if_neg e2, uI_nk e2, shO_49, if_pos (by omega), uI_ne (by decide), uI_ne (by decide)]
            exact ⟨by omega, this.2⟩
      · have pn : ∀ k, k < n → (p k = n) = False := fun k hk => by
          have := (h5 k hk).1
          simp only [eq_iff_iff, iff_false]
          omega
        by_cases i1 : i < q
        · simp only [if_pos i1, pn i (by omega), if_false]
          by_cases j1 : j < q
          · simp only [if_pos j1, pn j (by omega), if_false]
            exact h6 i j hij (by omega)
          · simp only [if_neg j1]
            by_cases j2 : j = q
            · simp only [if_pos j2, if_true]
              have := s2 i i1
              have := (h5 i (by omega)).1
              omega
            · simp only [if_neg j2, pn (j - 1) (by omega), if_false]
              exact h6 i (j - 1) (by omega) (by omega)
        · simp only [if_neg i1, if_neg (show ¬ j < q by omega), if_neg (show ¬ j = q by omega), pn (j - 1) (by omega), if_false]
          by_cases i2 : i = q
          · simp only [if_pos i2, if_true]
            have := s1 (j - 1) (by omega) (by omega)
            omega
          · simp only [if_neg i2, pn (i - 1) (by omega), if_false]
            exact h6 (i - 1) (j - 1) (by omega) (by omega)
      · by_cases e : k = n
        · subst e
          exact ⟨q, by omega, by simp⟩
        · obtain ⟨i, i1, i2⟩ := h7 k (by omega)
          by_cases i3 : i < q
          · exact ⟨i, by omega, by simp only [if_pos i3, i2]⟩
          · exact ⟨i + 1, by omega, by simp only [if_neg (show ¬ i + 1 < q by omega), if_neg (show ¬ i + 1 = q by omega), Nat.add_sub_cancel, i2]⟩
    · have A : agr (fun a k => !FP false [47, 48, 49, 52, 186, 187] [(46, 0), (46, 1), (46, 2), (137, 64), (137, 0)] a k) (av_uI (av_uI h 47 n (nI s)) 48 n (nI v)) (shO (av_uI (av_uI h 47 n (nI s)) 48 n (nI v)) q n) := by
        refine ⟨⟨[], by simp [shO]⟩, fun a k e => ⟨?_, rfl, rfl⟩⟩
        rw [shO_ne (fun z => by subst z; simp [FP] at e)]
      exact agr.uI rfl (agr.uI rfl (agr.uI rfl (agr.uI rfl (agr.fgt (fun _ => rfl) rfl rfl (agr.uI rfl (agr.uI rfl (agr.tr (agr.uI rfl (agr.uI rfl agr.rfl)) A)))))))
end
