/-! tried, with the law's array written in between -/
section
variable {X : av_X} {d : Nat} {h : av_H}
theorem tried_ok2 (w : WF h) (J : J_tow h) (Jw : J_wi h) (Jf : J_fi h) (Jl : J_lv h) (Jk : J_ke h) (Jn : J_ne h) (Jr : J_ru h) (Je : J_el h) (Jd : J_dr h) (Dp : J_dp h) (Ro : J_ro h) {K : Nat} (Mk : J_mk K h) (q : Int32) :
    (∃ v h1, ev X (d + 9) 180 [vr (some 0), vi q] h = av_rL v h1 ∧ WF h1 ∧ ∀ y : Int64, ∃ h2, ev X (d + 9) 370 [vr (some 137), vi q] (av_uL h1 225 0 y) = av_rL v h2 ∧ h2.2.1 137 0 = 0 ∧ h2.2.2.1 225 0 = y ∧ WF h2 ∧ J_tow h2 ∧ J_dp h2 ∧ J_mk K h2 ∧ off true ([61, 62, 64, 71, 76, 146, 150, 166, 167, 216, 217, 218, 219, 225] ++ dCells ++ rCells) [(0, 17), (137, 0), (137, 45)] h h2) ∨
    (ev X (d + 9) 180 [vr (some 0), vi q] h = av_rX (av_new h 12 0) ∧ ev X (d + 9) 370 [vr (some 137), vi q] (av_new h 12 0) = av_rL 0 (av_uI (av_new h 12 0) 137 0 1)) := by
  cases q1 : rg q 0 4 with
  | false =>
    refine Or.inr ⟨?_, ?_⟩
    · rw [e_180, b_180_0, c_within', tI_0, tI_4, q1, if_pos (show bI false = 0 from rfl)]
    · have wn : WF (av_new h 12 0) := WF_new w
      have wt : WF (th (av_new h 12 0)) := wn
      rw [e_370, b_370_0, pI_137 wn, th_e, s_within', tI_0, tI_4, q1, if_pos (show bI false = 0 from rfl), pI_137 wt]
      show av_rL 0 (av_uI (av_uI (av_new h 12 0) 137 0 0) 137 0 1) = _
      rw [uI_set, uI_set, setC_2, setC_eq, uI_set]
      congr 2
      funext j
      by_cases z : j = 0
      · rw [z, pk_us, pk_us]
      · rw [pk_un z, pk_un z, pk_un z]
  | true =>
    obtain ⟨k, k5, rfl⟩ := rg_nI (b := 4) (by decide) q1
    have k5 : k < 5 := by omega
    obtain ⟨m, D, M, N, B, Dc, Dr, Wd⟩ := Dp
    have h60 := B.1
    obtain ⟨V, V9, Vr, Vc, V0⟩ := J.V
    obtain ⟨R, R12, r18, r98, row⟩ := Ro
    have TK := J.TK
    have wn : ∀ t, t < 6 → wnI h t = nI (V t) := fun t ht => by
      unfold wnI
      cases e : h.2.2.2 1 t with
      | none => rw [V0 t ht e]; rfl
      | some a => exact Vc t a ht e
    have hold := c_hold (X := X) (d := d + 6) (h := h) (p := 4) (m := m) w (by decide) TK
    generalize ehH : setC (av_uI h 61 4 (nI m)) 62 (cpF (h.2.1 62) (4 * 6) (wnI h) 6) = hH at hold
    have wH : WF hH := by rw [← ehH]; exact WF_sC (WF_uI w)
    have oH : off false [62] [(61, 4)] h hH := by rw [← ehH]; exact agr.setC (fun j => by simp [FP]) (agr.uI (by simp [FP]) agr.rfl)
    have oH' : off false [61, 62] [] h hH := by rw [← ehH]; exact agr.setC (fun j => by simp [FP]) (agr.uI (by simp [FP]) agr.rfl)
    have x61 : hH.2.1 61 4 = nI m := by rw [← ehH, setC_ne (by decide), uI_eq]
    have x62 : hH.2.1 62 = cpF (h.2.1 62) 24 (wnI h) 6 := by rw [← ehH, setC_eq]
    have JH : J_tow hH := J.fr (oH'.fr (by decide))
    have DcH : DC hH m D M := Dc.fr h60 (oH'.fr (by decide +kernel))
    have T1 : ∀ t, hH.2.2.2 1 t = h.2.2.2 1 t := fun t => (oH'.fr (q := false) (cs := [1]) (fs := []) (by decide)).R rfl
    have VcH : ∀ t a, t < 6 → hH.2.2.2 1 t = some a → hH.2.1 a 4 = nI (V t) := fun t a ht e => by
      rw [T1] at e
      have := (TK t a ht e).1
      rw [(oH'.fr (q := true) (cs := []) (fs := []) (by decide)).I (by simp [FP, this])]
      exact Vc t a ht e
    have ScH : SC hH hH m D M V := ⟨wH, agr.rfl, DcH, VcH⟩
    have rH := oH'.fr (q := false) (cs := [66, 215]) (fs := [(0, 18), (137, 98)]) (by decide)
    obtain ⟨f, hc, m', D', M', N', V', ec, Sc, B', V9', mm, ag, V0', Oc, rr⟩ := try_lp (X := X) (d := d) JH (Jw.fr (oH'.fr (by decide))) (Jf.fr (oH'.fr (by decide))) (Jl.fr (oH'.fr (by decide))) (Jk.fr (oH'.fr (by decide))) (Jn.fr (oH'.fr (by decide))) (Jr.fr (oH'.fr (by decide))) (Je.fr (oH'.fr (by decide))) (Jd.fr (oH'.fr (by decide))) (m0 := m) (v1 := nI m) R12 ((rH.I rfl).trans r18) ((rH.I rfl).trans r98) (fun j hj => by rw [rH.I rfl, rH.I rfl]; exact row j hj) R 0 m D M N V hH (by omega) (by omega) B V9 ScH
    obtain ⟨Tc, TKc⟩ := Sc.TK JH
    have c61 := agr.mono Sc.2.1 (fT_up JH (cs := [60, 61, 62, 63]) (fs := []) (by decide +kernel) (by decide) (by decide))
    have rec' := c_recall (X := X) (d := d + 6) (h := hc) (p := 4) Sc.1 (by decide) TKc
    have e61 : hc.2.1 61 4 = nI m := (c61.I rfl).trans x61
    rw [e61] at rec'
    generalize hh1 : av_uI (rcH hc 4 6) 0 17 (nI m) = h1
    have w1 : WF h1 := by rw [← hh1]; exact WF_uI (rcH_w Sc.1 6)
    have oR : off true [] [(0, 17)] hc h1 := by
      rw [← hh1]
      exact agr.uI (by simp [FP]) (rcH_a (fun t a ht e => by have := (TKc t a ht e).1; simp [FP, this]) 6 (by omega))
    have O1 : off true ([61, 62, 64, 71, 76] ++ dCells) [(0, 17)] h h1 := agr.tr (oH'.up (by decide +kernel)) (agr.tr (Oc.up (by decide +kernel)) (oR.up (by decide +kernel)))
    have OH1 : off true ([64, 71, 76] ++ dCells) [(0, 17)] hH h1 := agr.tr Oc (oR.up (by decide +kernel))
    have e45 : h1.2.1 137 45 = nI m := ((O1.fr (q := false) (cs := []) (fs := [(137, 45)]) (by decide +kernel)).I rfl).trans Dr.1
    have DE : ∀ t u a b, t < 6 → u < 6 → t ≠ u → hc.2.2.2 1 t = some a → hc.2.2.2 1 u = some b → a ≠ b := fun t u a b ht hu ne ea eb => by
      rw [Tc] at ea eb
      have := JH.2 t u a b ht hu ne ea eb
      omega
    -- the class's state behind its trying
    have S1 : SC hH h1 m D M V := by
      refine ⟨w1, ?_, ⟨?_, fun i hi => ?_⟩, fun t a ht e => ?_⟩
      · rw [← hh1]
        exact agr.uI fT_17 (agr.tr Sc.2.1 (rcH_a (fun t a ht e => by rw [Tc] at e; exact fT_4 ht e) 6 (by omega)))
      · rw [← hh1]
        exact uI_eq
      · have A := oR.fr (q := false) (cs := dCells) (fs := []) (by decide +kernel)
        have e : ∀ j, FP false dCells [] (77 + i) j = true := fun j => by simp only [FP, dCells_in i (by omega), Bool.false_and, Bool.false_or, Bool.true_or]
        have z := Sc.2.2.1.2 i (by omega)
        rw [(ag i hi).1, (ag i hi).2.1] at z
        exact ⟨fun j hj => (A.I (e j)).trans (z.1 j hj), (A.L (e 18)).trans z.2⟩
      · have e2 : hc.2.2.2 1 t = some a := (Tc t).trans e
        rw [← hh1, uI_ne (by have := (TKc t a ht e2).1; omega), rcH_t DE e2 6 (by omega) ht, c61.I (show FP false [60, 61, 62, 63] [] 62 _ = true from rfl), x62, show 4 * 6 + t = 24 + t by omega, cpF_in ht]
        exact wn t ht
    refine Or.inl ⟨trA k f m m' D' N', h1, ?_, w1, fun y => ?_⟩
    · rw [e_180, b_180_0, c_within', tI_0, tI_4, q1, if_neg (show ¬ bI true = 0 by decide), gIv_0_17 w Dc.1, gR_0_11 w, gR_0_0 w, is_60 w, show (4 : Int32) = nI 4 from rfl, show ev X (d + 8) 21 [vr (some 60), vi (nI 4), vi (nI m), vr (some 1)] h = av_rV hH from hold, av_cV_r, Option.bind_some, is_0 wH, e_232, b_232_0, show bd X (d + 7) 232 2 [(0, vr (some 0)), (1, vi 0)] [] hH = av_rI f hc from ec, av_cI_r, Option.bind_some, is_0 Sc.1, c_trA (d := d + 4) Sc.1 B' Sc.2.2.1 mm k5, av_cL_r, Option.bind_some, gR_0_11 Sc.1, gR_0_0 Sc.1, is_60 Sc.1, show ev X (d + 8) 22 [vr (some 60), vi (nI 4), vr (some 1)] hc = av_rI (nI m) (rcH hc 4 6) from rec', av_cI_r, Option.bind_some, pI_0 (rcH_w Sc.1 6), hh1]
    have Oz : off false [225] [] h1 (av_uL h1 225 0 y) := agr.uL rfl agr.rfl
    have wz : WF (av_uL h1 225 0 y) := WF_uL w1
    have zy : (av_uL h1 225 0 y).2.2.1 225 0 = y := uL_eq
    generalize av_uL h1 225 0 y = hz at Oz wz zy
    have O1z : off true ([61, 62, 64, 71, 76, 225] ++ dCells) [(0, 17)] h hz := agr.tr (O1.up (by decide +kernel)) (Oz.up (by decide +kernel))
    have OHz : off true ([64, 71, 76, 225] ++ dCells) [(0, 17)] hH hz := agr.tr (OH1.up (by decide +kernel)) (Oz.up (by decide +kernel))
    have e45z : hz.2.1 137 45 = nI m := ((Oz.fr (q := false) (cs := []) (fs := [(137, 45)]) (by decide)).I rfl).trans e45
    obtain ⟨hr', h2, S', er, w2, x0, x45, x146, x150, Ar, O2z⟩ := s_tries (X := X) (d := d) (h0 := hH) (h1 := hz) (k := k) (f := f) (m := m) (m' := m') (D := D) (D' := D') (M := M) (N := N) (V := V) (M' := M') (N' := N') (V' := V') wz e45z k5 (fun g wg og => by
      have A : off true ([61, 62, 64, 71, 76, 216, 217, 218, 219, 225] ++ dCells) [(0, 17), (137, 0)] h g := agr.tr (O1z.up (by decide +kernel)) (og.up (by decide +kernel))
      exact ⟨wg, agr.tr (OHz.fr (by decide +kernel)) (og.fr (by decide +kernel)), Dr.fr (A.fr (by decide +kernel)), Wd.fr (A.fr (by decide +kernel)), fun t ht => by
        rw [(A.fr (q := false) (cs := [150]) (fs := []) (by decide +kernel)).I rfl]
        exact Vr t ht⟩) (OHz.fr (by decide +kernel)) rr
    have O2 : off false ([146, 150, 166, 167, 216, 217, 218, 219, 225] ++ rCells) [(137, 0), (137, 45)] h1 h2 := agr.tr (Oz.up (by decide +kernel)) (O2z.up (by decide +kernel))
    refine ⟨h2, er, x0, ((O2z.fr (q := false) (cs := [225]) (fs := []) (by decide +kernel)).L rfl).trans zy, w2, ?_, ⟨m, D, M, N, B, S1.2.2.1.fr h60 (O2.fr (by decide +kernel)), ⟨x45, fun i hi => ?_⟩, ⟨fun t ht s hs f hf c hc => ?_, fun i hi => ?_⟩⟩, ?_, agr.tr (O1.up (by decide +kernel)) (O2.up (by decide +kernel))⟩
    · exact tow_back JH V9 S1 (fun t ht => by
        rw [x150 t ht, (O1z.fr (q := false) (cs := [150]) (fs := []) (by decide +kernel)).I rfl]
        exact Vr t ht) (O2.fr (by decide +kernel)) (agr.tr (OH1.fr (by decide +kernel)) (O2.fr (by decide +kernel))) (fun t ht z => V0 t ht (by rw [← T1]; exact z))
    · have z := S'.2.2.1.2 i (by omega)
      rw [(ag i hi).1, (ag i hi).2.2] at z
      unfold dpr at z ⊢
      rw [Ar.I rfl, Ar.I rfl, Ar.I rfl, Ar.I rfl, Ar.I rfl, Ar.I rfl, Ar.I rfl, Ar.I rfl, Ar.I rfl, Ar.I rfl, Ar.I rfl, Ar.I rfl, Ar.I rfl, Ar.I rfl, Ar.I rfl, Ar.I rfl, Ar.I rfl, Ar.L rfl]
      exact z
    · rw [x146 _ (by omega), (O1z.fr (q := false) (cs := [146]) (fs := []) (by decide +kernel)).I rfl]
      exact Wd.1 t ht s hs f hf c hc
    · rw [(O2.fr (q := false) (cs := [143]) (fs := []) (by decide +kernel)).I rfl, (O1.fr (q := false) (cs := [143]) (fs := []) (by decide +kernel)).I rfl]
      exact Wd.2 i hi
    · obtain ⟨L, O, c, v, l1, l2, l3, l4, l5⟩ := Mk.at B Dc
      have A2 : ∀ {cs : List Nat} {fs : List (Nat × Nat)}, fpD false cs fs true ([64, 71, 76, 146, 150, 166, 167, 216, 217, 218, 219, 225] ++ dCells ++ rCells) [(0, 17), (137, 0), (137, 45)] = true → agr (FP false cs fs) hH h2 := fun D => (show off true ([64, 71, 76, 146, 150, 166, 167, 216, 217, 218, 219, 225] ++ dCells ++ rCells) [(0, 17), (137, 0), (137, 45)] hH h2 from agr.tr (OH1.up (by decide +kernel)) (O2.up (by decide +kernel))).fr D
      have A3 := A2 (cs := [60, 61, 62, 63, 143, 221, 222, 223, 224]) (fs := [(137, 105)]) (by decide +kernel)
      have A4 := oH'.fr (q := false) (cs := [60, 63, 143, 221, 222, 223, 224]) (fs := [(137, 105)]) (by decide)
      refine ⟨m, D, M, N, B, S1.2.2.1.fr h60 (O2.fr (by decide +kernel)), L, O, c, v, l1, (A3.I rfl).trans ((A4.I rfl).trans l2), (A3.I rfl).trans ((A4.I rfl).trans l3), fun j j4 => ?_, l5⟩
      obtain ⟨z1, z2, z3, z4⟩ := l4 j j4
      refine ⟨(A3.I rfl).trans ((A4.I rfl).trans z1), (A3.I rfl).trans ((A4.I rfl).trans z2), z3, fun y => ?_⟩
      obtain ⟨y1, y2, y3, y4, y5⟩ := z4 y
      refine ⟨y1, ?_, (A3.I rfl).trans ((A4.I rfl).trans y3), fun t ht => ?_, fun t ht s hs f hf cc hc => (A3.I rfl).trans ((A4.I rfl).trans (y5 t ht s hs f hf cc hc))⟩
      · rw [A3.I rfl, oH.I (by simp [FP]; omega)]
        exact y2
      · obtain ⟨u1, u2, u3, u4⟩ := y4 t ht
        refine ⟨?_, (A3.I rfl).trans ((A4.I rfl).trans u2), u3, fun y => u4 (by rw [A3.I rfl, A4.I rfl] at y; exact y)⟩
        rw [A3.I rfl, x62, cpF_out (by omega)]
        exact u1
end
