/-! what lies on the marks -/
def mkB (h : av_H) (m : Nat) (D : Nat → Nat → Nat) (M : Nat → Nat) (k c : Nat) (v : Nat → Nat) : Prop := c ≤ m ∧ h.2.1 61 k = nI c ∧ h.2.1 222 k = nI c ∧ (∀ t, t < 6 → h.2.1 62 (k * 6 + t) = nI (v t) ∧ h.2.1 223 (6 * k + t) = nI (v t) ∧ v t ≤ 9999 ∧ (h.2.1 143 t = 0 → v t = 0)) ∧ ∀ t, t < 6 → ∀ s, s < 4 → ∀ f, f < 12 → ∀ cc, cc < 10 → h.2.1 224 (2880 * k + (((4 * t + s) * 12 + f) * 10 + cc)) = oI (wsh D M t s f cc c)
def MK (K : Nat) (h : av_H) (m : Nat) (D : Nat → Nat → Nat) (M : Nat → Nat) : Prop := ∃ (L : Nat) (O c : Nat → Nat) (v : Nat → Nat → Nat), L ≤ K ∧ h.2.1 60 3 = nI L ∧ h.2.1 137 105 = nI L ∧ (∀ k, k < 4 → h.2.1 63 k = nI (O k) ∧ h.2.1 221 k = nI (O k) ∧ O k ≤ L ∧ (O k ≠ 0 → mkB h m D M k (c k) (v k))) ∧ ∀ j k, j < 4 → k < 4 → O j ≠ 0 → O j ≤ O k → c j ≤ c k
def J_mk (K : Nat) (h : av_H) : Prop := ∃ m D M N, DB m D M N ∧ DC h m D M ∧ MK K h m D M
theorem MK.mono {K K' : Nat} {h : av_H} {m : Nat} {D : Nat → Nat → Nat} {M : Nat → Nat} (J : MK K h m D M) (q : K ≤ K') : MK K' h m D M := by
  obtain ⟨L, O, c, v, h1, h2⟩ := J
  exact ⟨L, O, c, v, by omega, h2⟩
theorem J_mk.mono {K K' : Nat} {h : av_H} (J : J_mk K h) (q : K ≤ K') : J_mk K' h := by
  obtain ⟨m, D, M, N, B, C, E⟩ := J
  exact ⟨m, D, M, N, B, C, E.mono q⟩
theorem mkB.fr {h h' : av_H} {m m' : Nat} {D D' : Nat → Nat → Nat} {M M' : Nat → Nat} {k c : Nat} {v : Nat → Nat} (J : mkB h m D M k c v) (A : agr (FP false [61, 62, 222, 223, 224] []) h h') (F : ∀ t, t < 6 → h'.2.1 143 t = 0 → h.2.1 143 t = 0) (mm : c ≤ m → c ≤ m') (DD : ∀ i, i < c → D' i = D i ∧ M' i = M i) : mkB h' m' D' M' k c v := by
  obtain ⟨h1, h2, h3, h4, h5⟩ := J
  refine ⟨mm h1, (A.I rfl).trans h2, (A.I rfl).trans h3, fun t ht => ?_, fun t ht s hs f hf cc hc => ?_⟩
  · obtain ⟨z1, z2, z3, z4⟩ := h4 t ht
    exact ⟨(A.I rfl).trans z1, (A.I rfl).trans z2, z3, fun y => z4 (F t ht y)⟩
  · rw [wsh_cg c DD]
    exact (A.I rfl).trans (h5 t ht s hs f hf cc hc)
theorem MK.fr {K : Nat} {h h' : av_H} {m m' : Nat} {D D' : Nat → Nat → Nat} {M M' : Nat → Nat} (J : MK K h m D M) (A : agr (FP false [61, 62, 63, 221, 222, 223, 224] [(60, 3), (137, 105)]) h h') (F : ∀ t, t < 6 → h'.2.1 143 t = 0 → h.2.1 143 t = 0) (mm : m ≤ m') (DD : ∀ i, i < m → D' i = D i ∧ M' i = M i) : MK K h' m' D' M' := by
  obtain ⟨L, O, c, v, h1, h2, h3, h4, h5⟩ := J
  refine ⟨L, O, c, v, h1, (A.I rfl).trans h2, (A.I rfl).trans h3, fun k hk => ?_, h5⟩
  obtain ⟨z1, z2, z3, z4⟩ := h4 k hk
  exact ⟨(A.I rfl).trans z1, (A.I rfl).trans z2, z3, fun y => (z4 y).fr (A.sub (by decide)) F (fun q => by omega) (fun i hi => DD i (by have := (z4 y).1; omega))⟩
/-- the drops' numbers are told by the class's cells -/
theorem lN_inj {a b : Nat} (ha : a < 2 ^ 63) (hb : b < 2 ^ 63) (e : lN a = lN b) : a = b := by
  have z := congrArg Int64.toNatClampNeg e
  rw [lN, lN] at z
  simpa [Int64.toNatClampNeg_ofNat_of_lt, ha, hb] using z
theorem dpb_lt {D : Nat → Nat} {M N : Nat} (B : dpb D M N) {j : Nat} (hj : j < 18) : D j < 2147483648 := by
  obtain ⟨b0, b1, b2, b3, b4, b5, b6, b7, b8, b9, b10, b11, b12, b13, b14, b15, b16, b17, b18, b19, -⟩ := B
  match j, hj with
  | 0, _ => omega
  | 1, _ => omega
  | 2, _ => omega
  | 3, _ => omega
  | 4, _ => omega
  | 5, _ => omega
  | 6, _ => omega
  | 7, _ => omega
  | 8, _ => omega
  | 9, _ => omega
  | 10, _ => omega
  | 11, _ => omega
  | 12, _ =>
    have : D 12 ≤ 64 := by rw [b13]; exact fb_ct_le _ _
    omega
  | 13, _ => omega
  | 14, _ => omega
  | 15, _ => omega
  | 16, _ => omega
  | 17, _ => omega
  | _ + 18, hj => exact absurd hj (by omega)
theorem DC_u {h : av_H} {m m' : Nat} {D D' : Nat → Nat → Nat} {M M' N N' : Nat → Nat} (B : DB m D M N) (C : DC h m D M) (B' : DB m' D' M' N') (C' : DC h m' D' M') : m = m' ∧ ∀ i, i < m → (∀ j, j < 18 → D' i j = D i j) ∧ M' i = M i := by
  have em : m = m' := (nI_eq (by have := B.1; omega) (by have := B'.1; omega)).mp (C.1.symm.trans C'.1)
  refine ⟨em, fun i hi => ⟨fun j hj => ?_, ?_⟩⟩
  · exact ((nI_eq (dpb_lt (B.2.1 i hi) hj) (dpb_lt (B'.2.1 i (by omega)) hj)).mp (((C.2 i hi).1 j hj).symm.trans ((C'.2 i (by omega)).1 j hj))).symm
  · have b1 := (B.2.1 i hi).2.2.2.2.2.2.2.2.2.2.2.2.2.2.2.2.2.2.2.2.1
    have b2 := (B'.2.1 i (by omega)).2.2.2.2.2.2.2.2.2.2.2.2.2.2.2.2.2.2.2.2.1
    exact (lN_inj (by omega) (by omega) ((C.2 i hi).2.symm.trans (C'.2 i (by omega)).2)).symm
theorem wsh_cu {D D' : Nat → Nat → Nat} {M M' : Nat → Nat} {t s f c : Nat} : ∀ n, (∀ i, i < n → (∀ j, j < 18 → D' i j = D i j) ∧ M' i = M i) → wsh D' M' t s f c n = wsh D M t s f c n
  | 0, _ => rfl
  | n + 1, q => by
    have z := q n (by omega)
    have r : rch (D' n) (M' n) t s f c = rch (D n) (M n) t s f c := by
      unfold rch
      rw [z.1 0 (by decide), z.1 1 (by decide), z.1 2 (by decide), z.2]
    rw [wsh, wsh, wsh_cu n (fun i hi => q i (by omega)), r, z.1 4 (by decide)]
theorem J_mk.at {K : Nat} {h : av_H} (J : J_mk K h) {m : Nat} {D : Nat → Nat → Nat} {M N : Nat → Nat} (B : DB m D M N) (C : DC h m D M) : MK K h m D M := by
  obtain ⟨m', D', M', N', B', C', L, O, c, v, h1, h2, h3, h4, h5⟩ := J
  obtain ⟨em, u⟩ := DC_u B' C' B C
  subst em
  refine ⟨L, O, c, v, h1, h2, h3, fun k hk => ?_, h5⟩
  obtain ⟨z1, z2, z3, z4⟩ := h4 k hk
  refine ⟨z1, z2, z3, fun y => ?_⟩
  obtain ⟨y1, y2, y3, y4, y5⟩ := z4 y
  refine ⟨y1, y2, y3, y4, fun t ht s hs f hf cc hc => ?_⟩
  rw [wsh_cu (c k) (fun i hi => u i (by omega))]
  exact y5 t ht s hs f hf cc hc
theorem J_mk.grow {K : Nat} {h h' : av_H} (J : J_mk K h) (G : grew h h') (A : agr (FP false [61, 62, 63, 143, 221, 222, 223, 224] [(60, 3), (137, 105)]) h h') : J_mk K h' := by
  obtain ⟨m, D, M, N, m', D', M', N', B, C, B', C', mm, DD⟩ := G
  exact ⟨m', D', M', N', B', C', (J.at B C).fr (A.sub (by decide)) (fun t ht z => by rw [A.I rfl] at z; exact z) mm DD⟩
theorem J_mk.fr {K : Nat} {h h' : av_H} (J : J_mk K h) (A : agr (FP false ([61, 62, 63, 221, 222, 223, 224] ++ dCells) [(0, 17), (60, 3), (137, 105)]) h h') (F : ∀ t, t < 6 → h'.2.1 143 t = 0 → h.2.1 143 t = 0) : J_mk K h' := by
  obtain ⟨m, D, M, N, B, C, E⟩ := J
  exact ⟨m, D, M, N, B, C.fr B.1 (A.sub (by decide +kernel)), E.fr (A.sub (by decide +kernel)) F (Nat.le_refl m) (fun i _ => ⟨rfl, rfl⟩)⟩
theorem J_tow.TK {h : av_H} (J : J_tow h) : ∀ t a, t < 6 → h.2.2.2 1 t = some a → 226 ≤ a ∧ h.1[a]? = some (9, 0) := fun t a ht e => by
  rcases J.1 t ht with ⟨z, -⟩ | ⟨b, z, T⟩
  · rw [e] at z; cases z
  · rw [e] at z
    injection z with z
    rw [z]
    exact ⟨T.1, T.2.1⟩
theorem J_tow.f0 {h : av_H} (J : J_tow h) {t : Nat} (ht : t < 6) : h.2.1 143 t = 0 ↔ h.2.2.2 1 t = none := by
  rcases J.1 t ht with ⟨z, T⟩ | ⟨b, z, T⟩
  · exact ⟨fun _ => z, fun _ => T.1⟩
  · obtain ⟨F, C, W, L, V, p1, p2, p3, p4, p5, p6, p7, p8, p9, r1, r2, -⟩ := T.2.2.2.2.2.2.1
    constructor
    · intro y
      rw [r2] at y
      exact absurd y (nI_ne0 (by omega) (by omega))
    · intro y
      rw [z] at y
      cases y
section
variable {X : av_X} {d : Nat} {h : av_H}
theorem mark_ok (w : WF h) (J : J_tow h) (Dp : J_dp h) {K : Nat} (Mk : J_mk K h) (hK : K < 100000) (p b : Int32) : ∃ v h1 h2, ev X (d + 5) 181 [vr (some 0), vi p, vi b] h = av_rI v h1 ∧ ev X (d + 5) 375 [vr (some 137), vi p, vi b] h1 = av_rI v h2 ∧ WF h2 ∧ J_tow h2 ∧ J_dp h2 ∧ J_mk (K + 1) h2 ∧ off true [61, 62, 63, 146, 150, 221, 222, 223, 224] [(0, 17), (60, 3), (137, 0), (137, 45), (137, 105)] h h2 := by
  have Dp0 := Dp
  obtain ⟨m, D, M, N, B, Dc, Dr, Wd⟩ := Dp
  have h60 := B.1
  have mk := Mk.at B Dc
  have TK := J.TK
  have fth : off true [61, 62, 63, 146, 150, 221, 222, 223, 224] [(0, 17), (60, 3), (137, 0), (137, 45), (137, 105)] h (th h) := agr.uI rfl agr.rfl
  have no : (bI false : Int32) = 0 := rfl
  have refuse : J_mk (K + 1) (th h) := (Mk.fr (agr.uI rfl agr.rfl) (fun t ht z => by rw [uI_ne (by decide)] at z; exact z)).mono (by omega)
  cases q1 : rg p 0 3 with
  | false =>
    refine ⟨0, h, th h, ?_, ?_, w, J.fr (agr.uI rfl agr.rfl), Dp0.fr (agr.uI rfl agr.rfl), refuse, fth⟩
    · rw [e_181, b_181_0, c_below', tI_4, show rg p 0 ((4 : Int) - 1) = false from q1, if_pos no]
      rfl
    · rw [e_375, b_375_0, pI_137 w, th_e, s_within', tI_0, tI_3, q1, if_pos no]
      rfl
  | true =>
    obtain ⟨k, k4, rfl⟩ := rg_nI (b := 3) (by decide) q1
    have k4 : k < 4 := by omega
    have g1 : rg (nI k) 0 ((4 : Int) - 1) = true := q1
    obtain ⟨L, O, c, v, l1, l2, l3, l4, l5⟩ := mk
    by_cases zb : b = 0
    · -- lay
      obtain ⟨V, V9, Vr, Vc, V0⟩ := J.V
      have wn : ∀ t, t < 6 → wnI h t = nI (V t) := fun t ht => by
        unfold wnI
        cases e : h.2.2.2 1 t with
        | none => rw [V0 t ht e]; rfl
        | some a => exact Vc t a ht e
      generalize eh1 : setC (av_uI h 61 k (nI m)) 62 (cpF (h.2.1 62) (k * 6) (wnI h) 6) = hc1
      have w1 : WF hc1 := by rw [← eh1]; exact w
      have o1 : off false [61, 62] [] h hc1 := by rw [← eh1]; exact agr.setC (fun j => rfl) (agr.uI rfl agr.rfl)
      have e603 : hc1.2.1 60 3 = nI L := ((o1.fr (q := false) (cs := [60]) (fs := []) (by decide)).I rfl).trans l2
      generalize eh2 : av_uI (av_uI hc1 60 3 (nI (L + 1))) 63 k (nI (L + 1)) = hc2
      have w2 : WF hc2 := by rw [← eh2]; exact w1
      have o2 : off false [61, 62] [(60, 3), (63, k)] h hc2 := by
        rw [← eh2]
        exact agr.uI (by simp [FP]) (agr.uI (by simp [FP]) (o1.mono (fun a j e => by simp [FP] at e ⊢; omega)))
      have x61 : hc2.2.1 61 k = nI m := by rw [← eh2, uI_ne (by decide), uI_ne (by decide), ← eh1, setC_ne (by decide), uI_eq]
      have x61' : ∀ j, j ≠ k → hc2.2.1 61 j = h.2.1 61 j := fun j z => by rw [← eh2, uI_ne (by decide), uI_ne (by decide), ← eh1, setC_ne (by decide), uI_nk z]
      have x62 : hc2.2.1 62 = cpF (h.2.1 62) (k * 6) (wnI h) 6 := by rw [← eh2, uI_ne (by decide), uI_ne (by decide), ← eh1, setC_eq]
      have x63 : hc2.2.1 63 k = nI (L + 1) := by rw [← eh2, uI_eq]
      have x603 : hc2.2.1 60 3 = nI (L + 1) := by rw [← eh2, uI_ne (by decide), uI_eq]
      have A2 := o2.mono (F := FP true ([1, 143, 144, 145, 146, 147, 148, 149, 150, 221, 222, 223, 224] ++ dCells ++ rCells) [(0, 17), (137, 45), (137, 105)]) (fun a j e => by
        have D : fpD true ([1, 143, 144, 145, 146, 147, 148, 149, 150, 221, 222, 223, 224] ++ dCells ++ rCells) [(0, 17), (137, 45), (137, 105)] false [61, 62, 60, 63] [] = true := by decide +kernel
        have z := fpD_ok D e
        simp [FP] at z ⊢
        omega)
      have ec : ev X (d + 5) 181 [vr (some 0), vi (nI k), vi b] h = av_rI 1 hc2 := by
        have hw : WF (av_uI hc1 60 3 (nI (L + 1))) := w1
        rw [e_181, b_181_0, c_below', tI_4, g1, if_neg (show ¬ bI true = 0 by decide), if_pos zb, gR_0_11 w, gIv_0_17 w Dc.1, gR_0_0 w, is_60 w, e_19, b_19_0, c_below', tI_4, g1, if_neg (show ¬ bI true = 0 by decide), is_60 w, c_hold w (by omega) TK, eh1, av_cV_r, Option.bind_some, gI_60_3 w1, e603, nI_1, pI_60 w1, gR_60_2 hw, gI_60_3 hw, uI_eq, st_63 hw k4, eh2, av_cV_r, Option.bind_some]
        rfl
      -- the reference
      have W2 : WF (th hc2) := w2
      have T2 : agr (FP true ([1, 143, 144, 145, 146, 147, 148, 149, 150, 221, 222, 223, 224] ++ dCells ++ rCells) [(0, 17), (137, 45), (137, 105)]) h (th hc2) := agr.uI (by decide +kernel) A2
      generalize hg : av_uI (av_uI (av_uI (th hc2) 137 105 (nI (L + 1))) 221 k (nI (L + 1))) 222 k (nI m) = g
      have wg : WF g := by rw [← hg]; exact w2
      have e45 : (av_uI (av_uI (th hc2) 137 105 (nI (L + 1))) 221 k (nI (L + 1))).2.1 137 45 = nI m := by
        rw [uI_ne (by decide), uI_nk (by decide), T2.I (a := 137) (k := 45) (by decide +kernel)]
        exact Dr.1
      have Lp1 := sm_wl (X := X) (d := d + 3) wg k4 6 0 (by omega)
      rw [cpF_0, setC_id] at Lp1
      generalize hg2 : setC g 223 (cpF (g.2.1 223) (6 * k) (g.2.1 150) 6) = g2 at Lp1
      have wg2 : WF g2 := by rw [← hg2]; exact wg
      have Lp2 := sm_pl (X := X) (d := d + 3) wg2 k4 2880 0 (by omega)
      rw [cpF_0, setC_id] at Lp2
      generalize hg3 : setC g2 224 (cpF (g2.2.1 224) (2880 * k) (g2.2.1 146) 2880) = g3 at Lp2
      have wg3 : WF g3 := by rw [← hg3]; exact wg2
      have er : ev X (d + 5) 375 [vr (some 137), vi (nI k), vi b] hc2 = av_rI 1 g3 := by
        have e1 : (th hc2).2.1 137 105 = nI L := by
          rw [T2.I (a := 137) (k := 105) (by decide +kernel)]
          exact l3
        have wa : WF (av_uI (th hc2) 137 105 (nI (L + 1))) := w2
        have wb : WF (av_uI (av_uI (th hc2) 137 105 (nI (L + 1))) 221 k (nI (L + 1))) := w2
        rw [e_375, b_375_0, pI_137 w2, th_e, s_within', tI_0, tI_3, q1, if_neg (show ¬ bI true = 0 by decide), if_pos zb, zb, b_375_17, if_pos rfl, gI_137_105 W2, e1, nI_1, pI_137 W2, gR_137_106 wa, gI_137_105 wa, uI_eq, st_221 wa k4, gR_137_107 wb, gIv_137_45 wb e45, st_222 wb k4, hg]
        exact Lp1.trans Lp2
      have og : off false [223, 224] [(137, 0), (137, 105), (221, k), (222, k)] hc2 g3 := by
        rw [← hg3]
        refine agr.setC (fun j => by simp [FP]) ?_
        rw [← hg2]
        refine agr.setC (fun j => by simp [FP]) ?_
        rw [← hg]
        exact agr.uI (by simp [FP]) (agr.uI (by simp [FP]) (agr.uI (by simp [FP]) (agr.uI (by simp [FP]) agr.rfl)))
      have g150 : g.2.1 150 = h.2.1 150 := by
        rw [← hg, uI_ne (by decide), uI_ne (by decide), uI_ne (by decide)]
        exact funext (fun j => T2.I (by simp [FP]))
      have g146 : g2.2.1 146 = h.2.1 146 := by
        rw [← hg2, setC_ne (by decide), ← hg, uI_ne (by decide), uI_ne (by decide), uI_ne (by decide)]
        exact funext (fun j => T2.I (by simp [FP]))
      have g223 : g.2.1 223 = h.2.1 223 := by
        rw [← hg, uI_ne (by decide), uI_ne (by decide), uI_ne (by decide)]
        exact funext (fun j => T2.I (by simp [FP]))
      have g224 : g2.2.1 224 = h.2.1 224 := by
        rw [← hg2, setC_ne (by decide), ← hg, uI_ne (by decide), uI_ne (by decide), uI_ne (by decide)]
        exact funext (fun j => T2.I (by simp [FP]))
      have y223 : g3.2.1 223 = cpF (h.2.1 223) (6 * k) (h.2.1 150) 6 := by rw [← hg3, setC_ne (by decide), ← hg2, setC_eq, g223, g150]
      have y224 : g3.2.1 224 = cpF (h.2.1 224) (2880 * k) (h.2.1 146) 2880 := by rw [← hg3, setC_eq, g224, g146]
      have y221 : g3.2.1 221 k = nI (L + 1) := by rw [← hg3, setC_ne (by decide), ← hg2, setC_ne (by decide), ← hg, uI_ne (by decide), uI_eq]
      have y222 : g3.2.1 222 k = nI m := by rw [← hg3, setC_ne (by decide), ← hg2, setC_ne (by decide), ← hg, uI_eq]
      have y105 : g3.2.1 137 105 = nI (L + 1) := by rw [← hg3, setC_ne (by decide), ← hg2, setC_ne (by decide), ← hg, uI_ne (by decide), uI_ne (by decide), uI_eq]
      have o3 : off false [61, 62, 223, 224] [(60, 3), (63, k), (137, 0), (137, 105), (221, k), (222, k)] h g3 := agr.tr (o2.mono (fun a j e => by simp [FP] at e ⊢; omega)) (og.mono (fun a j e => by simp [FP] at e ⊢; omega))
      have o4 : off true [61, 62, 63, 146, 150, 221, 222, 223, 224] [(0, 17), (60, 3), (137, 0), (137, 45), (137, 105)] h g3 := o3.mono (fun a j e => by simp [FP] at e ⊢; omega)
      have c61 : ∀ j, g3.2.1 61 j = hc2.2.1 61 j := fun j => og.I (by simp [FP])
      have c62 : ∀ j, g3.2.1 62 j = hc2.2.1 62 j := fun j => og.I (by simp [FP])
      have o5 := o3.mono (F := FP true ([1, 143, 144, 145, 146, 147, 148, 149, 150] ++ dCells ++ rCells) [(0, 17), (137, 45)]) (fun a j e => by
        have D : fpD true ([1, 143, 144, 145, 146, 147, 148, 149, 150] ++ dCells ++ rCells) [(0, 17), (137, 45)] false [61, 62, 60, 63, 223, 224, 221, 222] [(137, 0), (137, 105)] = true := by decide +kernel
        have z := fpD_ok D e
        simp [FP] at z ⊢
        omega)
      refine ⟨1, hc2, g3, ec, er, wg3, J.fr (o5.sub (by decide +kernel)), Dp0.fr (o5.sub (by decide +kernel)), ⟨m, D, M, N, B, Dc.fr B.1 (o5.sub (by decide +kernel)), L + 1, fun j => if j = k then L + 1 else O j, fun j => if j = k then m else c j, fun j => if j = k then V else v j, by omega, ?_, y105, fun j j4 => ?_, fun i j i4 j4 => ?_⟩, o4⟩
      · rw [og.I (by simp [FP])]
        exact x603
      · by_cases z : j = k
        · subst z
          simp only [if_pos]
          refine ⟨(og.I (by simp [FP])).trans x63, y221, Nat.le_refl _, fun _ => ⟨Nat.le_refl m, (c61 j).trans x61, y222, fun t ht => ⟨?_, ?_, V9 t, fun y => ?_⟩, fun t ht s hs f hf cc hc => ?_⟩⟩
          · rw [c62, x62, cpF_in ht]
            exact wn t ht
          · rw [y223, cpF_in ht]
            exact Vr t ht
          · rw [o5.I (by simp [FP])] at y
            exact V0 t ht ((J.f0 ht).mp y)
          · rw [y224, cpF_in (by omega)]
            exact Wd.1 t ht s hs f hf cc hc
        · obtain ⟨z1, z2, z3, z4⟩ := l4 j j4
          simp only [if_neg z]
          refine ⟨(o3.I (by simp [FP, z])).trans z1, (o3.I (by simp [FP, z])).trans z2, by omega, fun y => ?_⟩
          obtain ⟨y1, y2, y3, y4, y5⟩ := z4 y
          refine ⟨y1, ((c61 j).trans (x61' j z)).trans y2, (o3.I (by simp [FP, z])).trans y3, fun t ht => ?_, fun t ht s hs f hf cc hc => ?_⟩
          · obtain ⟨u1, u2, u3, u4⟩ := y4 t ht
            refine ⟨?_, ?_, u3, fun y => u4 (by rw [o5.I (by simp [FP])] at y; exact y)⟩
            · rw [c62, x62, cpF_out (by omega)]
              exact u1
            · rw [y223, cpF_out (by omega)]
              exact u2
          · rw [y224, cpF_out (by omega)]
            exact y5 t ht s hs f hf cc hc
      · dsimp only
        intro y1 y2
        by_cases zi : i = k
        · rw [if_pos zi] at y1 y2 ⊢
          by_cases zj : j = k
          · rw [if_pos zj]
            exact Nat.le_refl m
          · rw [if_neg zj] at y2 ⊢
            have := (l4 j j4).2.2.1
            omega
        · rw [if_neg zi] at y1 y2 ⊢
          by_cases zj : j = k
          · rw [if_pos zj]
            exact ((l4 i i4).2.2.2 y1).1
          · rw [if_neg zj] at y2 ⊢
            exact l5 i j i4 j4 y1 y2
    · obtain ⟨z1, z2, z3, z4⟩ := l4 k k4
      by_cases zo : O k = 0
      · refine ⟨0, h, th h, ?_, ?_, w, J.fr (agr.uI rfl agr.rfl), Dp0.fr (agr.uI rfl agr.rfl), refuse, fth⟩
        · rw [e_181, b_181_0, c_below', tI_4, g1, if_neg (show ¬ bI true = 0 by decide), if_neg zb, gR_0_11 w, is_60 w, e_18, b_18_0, c_below', tI_4, g1, if_neg (show ¬ bI true = 0 by decide), gR_60_2 w, ld_63 w k4, z1, zo, if_pos (show nI 0 = 0 from rfl)]
          rfl
        · have wt : WF (th h) := w
          rw [e_375, b_375_0, pI_137 w, th_e, s_within', tI_0, tI_3, q1, if_neg (show ¬ bI true = 0 by decide), if_neg zb, gR_137_106 wt, ld_221 wt k4, th_I (by decide), z2, zo, if_pos (show nI 0 = 0 from rfl)]
          rfl
      · obtain ⟨y1, y2, y3, y4, y5⟩ := z4 zo
        have n0 : ¬ nI (O k) = 0 := nI_ne0 (by omega) (by omega)
        -- the class
        generalize hE' : setC h 63 (erF (h.2.1 63) k 4) = hE
        have wE : WF hE := by rw [← hE']; exact w
        have oE : off false [63] [] h hE := by rw [← hE']; exact agr.setC (fun j => by simp [FP]) agr.rfl
        have JE : J_tow hE := J.fr (oE.fr (by decide))
        have TE := JE.TK
        have DE : ∀ t u a b, t < 6 → u < 6 → t ≠ u → hE.2.2.2 1 t = some a → hE.2.2.2 1 u = some b → a ≠ b := fun t u a b ht hu ne ea eb => by
          have := JE.2 t u a b ht hu ne ea eb
          omega
        have e17 : (rcH hE k 6).2.1 0 17 = (rcH hE k 6).2.1 0 17 := rfl
        generalize hh1 : av_uI (rcH hE k 6) 0 17 (nI (c k)) = h1
        have w1 : WF h1 := by rw [← hh1]; exact rcH_w wE 6
        have oR : off true [] [(0, 17)] hE h1 := by
          rw [← hh1]
          exact agr.uI (by simp [FP]) (rcH_a (fun t a ht e => by have := (TE t a ht e).1; simp [FP, this]) 6 (by omega))
        have o1 : off true [63] [(0, 17)] h h1 := agr.tr (oE.up (by decide)) (oR.up (by decide))
        have ec : ev X (d + 5) 181 [vr (some 0), vi (nI k), vi b] h = av_rI 1 h1 := by
          rw [e_181, b_181_0, c_below', tI_4, g1, if_neg (show ¬ bI true = 0 by decide), if_neg zb, gR_0_11 w, is_60 w, e_18, b_18_0, c_below', tI_4, g1, if_neg (show ¬ bI true = 0 by decide), gR_60_2 w, ld_63 w k4, z1, if_neg n0]
          show (av_cI (av_rI 1 h)).bind _ = _
          rw [av_cI_r, Option.bind_some, if_neg (show ¬ (1 : Int32) = 0 by decide), gR_0_11 w, gR_0_0 w, is_60 w, c_goBack w k4 TK, hE', av_cI_r, Option.bind_some, y2, pI_0 (rcH_w wE 6), hh1]
          rfl
        have V9 : ∀ t, (if t < 6 then v k t else 0) ≤ 9999 := fun t => by
          by_cases q : t < 6
          · rw [if_pos q]; exact (y4 t q).2.2.1
          · rw [if_neg q]; omega
        have S1 : SC hE h1 (c k) D M (fun t => if t < 6 then v k t else 0) := by
          refine ⟨w1, ?_, ⟨?_, fun i hi => ?_⟩, fun t a ht e => ?_⟩
          · rw [← hh1]
            exact agr.uI fT_17 (rcH_a (fun t a ht e => fT_4 ht e) 6 (by omega))
          · rw [← hh1]
            exact uI_eq
          · have A := o1.fr (q := false) (cs := dCells) (fs := []) (by decide +kernel)
            have e : ∀ j, FP false dCells [] (77 + i) j = true := fun j => by simp only [FP, dCells_in i (by omega), Bool.false_and, Bool.false_or, Bool.true_or]
            have z := Dc.2 i (by omega)
            exact ⟨fun j hj => (A.I (e j)).trans (z.1 j hj), (A.L (e 18)).trans z.2⟩
          · dsimp only
            rw [if_pos ht, ← hh1, uI_ne (by have := (TE t a ht e).1; omega), rcH_t DE e 6 (by omega) ht, (oE.fr (q := false) (cs := [62]) (fs := []) (by decide)).I rfl]
            exact (y4 t ht).1
        -- the reference
        have W1 : WF (th h1) := w1
        have T1 : off true [63] [(0, 17), (137, 0)] h (th h1) := agr.uI (by simp [FP]) (o1.up (by decide))
        have B1 := T1.fr (q := false) (cs := [143, 146, 150, 221, 222, 223, 224]) (fs := [(137, 45), (137, 105)]) (by decide)
        generalize hg : av_uI (th h1) 137 45 (nI (c k)) = g
        have wg : WF g := by rw [← hg]; exact w1
        have gB : ∀ a, (a = 146 ∨ a = 150 ∨ a = 221 ∨ a = 223 ∨ a = 224) → g.2.1 a = h.2.1 a := fun a q => by
          rw [← hg, uI_ne (by omega)]
          exact funext (fun j => B1.I (by simp [FP]; omega))
        have L1 := sm_er (X := X) (d := d + 3) wg (v2 := b) k4 4 0 (by omega)
        rw [erF_0, setC_id] at L1
        generalize hg1 : setC g 221 (erF (g.2.1 221) k 4) = g1' at L1
        have wg1 : WF g1' := by rw [← hg1]; exact wg
        have L2 := sm_wb (X := X) (d := d + 3) wg1 zb k4 6 0 (by omega)
        rw [cpF_0, setC_id] at L2
        generalize hg2 : setC g1' 150 (cpF (g1'.2.1 150) 0 (fun i => g1'.2.1 223 (6 * k + i)) 6) = g2 at L2
        have wg2 : WF g2 := by rw [← hg2]; exact wg1
        have L3 := sm_pb (X := X) (d := d + 3) wg2 zb k4 2880 0 (by omega)
        rw [cpF_0, setC_id] at L3
        generalize hg3 : setC g2 146 (cpF (g2.2.1 146) 0 (fun i => g2.2.1 224 (2880 * k + i)) 2880) = g3 at L3
        have wg3 : WF g3 := by rw [← hg3]; exact wg2
        have er : ev X (d + 5) 375 [vr (some 137), vi (nI k), vi b] h1 = av_rI 1 g3 := by
          rw [e_375, b_375_0, pI_137 w1, th_e, s_within', tI_0, tI_3, q1, if_neg (show ¬ bI true = 0 by decide), if_neg zb, gR_137_106 W1, ld_221 W1 k4, B1.I (show FP false [143, 146, 150, 221, 222, 223, 224] [(137, 45), (137, 105)] 221 k = true by simp [FP]), z2, if_neg n0, b_375_17, if_neg zb, gR_137_107 W1, ld_222 W1 k4, B1.I (show FP false [143, 146, 150, 221, 222, 223, 224] [(137, 45), (137, 105)] 222 k = true by simp [FP]), y3, pI_137 W1, hg]
          exact L1.trans (L2.trans L3)
        have og : off false [146, 150, 221] [(137, 0), (137, 45)] h1 g3 := by
          rw [← hg3]
          refine agr.setC (fun j => by simp [FP]) ?_
          rw [← hg2]
          refine agr.setC (fun j => by simp [FP]) ?_
          rw [← hg1]
          refine agr.setC (fun j => by simp [FP]) ?_
          rw [← hg]
          exact agr.uI (by simp [FP]) (agr.uI (by simp [FP]) agr.rfl)
        have o3 : off true [63, 146, 150, 221] [(0, 17), (137, 0), (137, 45)] h g3 := agr.tr (o1.up (by decide)) (og.up (by decide))
        have x221 : g3.2.1 221 = erF (h.2.1 221) k 4 := by rw [← hg3, setC_ne (by decide), ← hg2, setC_ne (by decide), ← hg1, setC_eq, gB 221 (by omega)]
        have x150 : g3.2.1 150 = cpF (h.2.1 150) 0 (fun i => h.2.1 223 (6 * k + i)) 6 := by
          rw [← hg3, setC_ne (by decide), ← hg2, setC_eq, ← hg1, setC_ne (by decide), setC_ne (by decide), gB 150 (by omega), gB 223 (by omega)]
        have x146 : g3.2.1 146 = cpF (h.2.1 146) 0 (fun i => h.2.1 224 (2880 * k + i)) 2880 := by
          rw [← hg3, setC_eq, ← hg2, setC_ne (by decide), setC_ne (by decide), ← hg1, setC_ne (by decide), setC_ne (by decide), gB 146 (by omega), gB 224 (by omega)]
        have x45 : g3.2.1 137 45 = nI (c k) := by rw [← hg3, setC_ne (by decide), ← hg2, setC_ne (by decide), ← hg1, setC_ne (by decide), ← hg, uI_eq]
        have x63 : ∀ j, g3.2.1 63 j = erF (h.2.1 63) k 4 j := fun j => by
          rw [og.I (by simp [FP]), (oR.fr (q := false) (cs := [63]) (fs := []) (by decide)).I rfl, ← hE', setC_eq]
        have B' : DB (c k) D M N := ⟨by omega, fun i hi => B.2.1 i (by omega), fun i j hij hj => B.2.2 i j hij (by omega)⟩
        have C' : DC g3 (c k) D M := S1.2.2.1.fr (by omega) (og.fr (by decide +kernel))
        refine ⟨1, h1, g3, ec, er, wg3, ?_, ⟨c k, D, M, N, B', C', ⟨x45, fun i hi => ?_⟩, ⟨fun t ht s hs f hf cc hc => ?_, fun i hi => ?_⟩⟩, ⟨c k, D, M, N, B', C', L, fun j => if O k < O j then 0 else O j, c, v, by omega, ?_, ?_, fun j j4 => ?_, fun i j i4 j4 => ?_⟩, o3.up (by decide)⟩
        · refine tow_back JE V9 S1 (fun t ht => ?_) (og.fr (by decide)) (agr.tr (oR.fr (by decide)) (og.fr (by decide))) (fun t ht z => ?_)
          · rw [if_pos ht, x150, show t = 0 + t by omega, cpF_in ht, Nat.zero_add]
            exact (y4 t ht).2.1
          · rw [if_pos ht]
            refine (y4 t ht).2.2.2 ?_
            rw [← (oE.fr (q := false) (cs := [143]) (fs := []) (by decide)).I (show FP false [143] [] 143 t = true from rfl)]
            exact (JE.f0 ht).mpr z
        · have A := o3.fr (q := false) (cs := rCells) (fs := []) (by decide)
          have z := Dr.2 i (by omega)
          unfold dpr at z ⊢
          rw [A.I rfl, A.I rfl, A.I rfl, A.I rfl, A.I rfl, A.I rfl, A.I rfl, A.I rfl, A.I rfl, A.I rfl, A.I rfl, A.I rfl, A.I rfl, A.I rfl, A.I rfl, A.I rfl, A.I rfl, A.L rfl]
          exact z
        · rw [x146, show ((4 * t + s) * 12 + f) * 10 + cc = 0 + (((4 * t + s) * 12 + f) * 10 + cc) by omega, cpF_in (by omega)]
          exact y5 t ht s hs f hf cc hc
        · rw [(o3.fr (q := false) (cs := [143]) (fs := []) (by decide)).I rfl]
          exact Wd.2 i (by omega)
        · rw [(o3.fr (q := false) (cs := [60]) (fs := []) (by decide)).I rfl]
          exact l2
        · rw [(o3.fr (q := false) (cs := []) (fs := [(137, 105)]) (by decide)).I rfl]
          exact l3
        · obtain ⟨u1, u2, u3, u4⟩ := l4 j j4
          have ee : ∀ f : Nat → Int32, f k = nI (O k) → f j = nI (O j) → erF f k 4 j = nI (if O k < O j then 0 else O j) := fun f e1 e2 => by
            rw [erF]
            by_cases q : O k < O j
            · rw [if_pos ⟨j4, by rw [e1, e2]; exact nI_lt q (by omega)⟩, if_pos q]
              rfl
            · rw [if_neg (fun y => by rw [e1, e2] at y; exact nI_nlt (by omega) (by omega) y.2), if_neg q]
              exact e2
          refine ⟨(x63 j).trans (ee _ z1 u1), by rw [x221]; exact ee _ z2 u2, ?_, fun y => ?_⟩
          · dsimp only
            split <;> omega
          · dsimp only at y
            by_cases q : O k < O j
            · rw [if_pos q] at y
              exact absurd rfl y
            · rw [if_neg q] at y
              exact (u4 y).fr (o3.fr (by decide)) (fun t ht y => by rw [(o3.fr (q := false) (cs := [143]) (fs := []) (by decide)).I rfl] at y; exact y) (fun _ => l5 j k j4 k4 y (by omega)) (fun i _ => ⟨rfl, rfl⟩)
        · dsimp only
          intro e1 e2
          by_cases q1 : O k < O i
          · rw [if_pos q1] at e1
            exact absurd rfl e1
          · rw [if_neg q1] at e1 e2
            by_cases q2 : O k < O j
            · rw [if_pos q2] at e2
              omega
            · rw [if_neg q2] at e2
              exact l5 i j i4 j4 e1 e2
end
