/-! the reader: lines that are told once -/
section
variable {X : av_X} {d e : Nat} {T P : Nat → Nat} {n : Nat} {hc0 hr0 hc hr : av_H} {u : Ru} {rt dt : Bool} {a len c : Nat}
theorem LF.once {m m' : Int32} {h : av_H} (hR : u.R = 67 ∨ u.R = 72) (L : LF u m h) : LF u m' (av_uI h 37 9 m') := by
  obtain ⟨h1, h2, h3, h4, h5, h6⟩ := L
  refine ⟨uI_eq, ?_, ?_, ?_, ?_, ?_⟩
  · rw [uI_ne (by omega)]; exact h2
  · rw [uI_ne (by omega)]; exact h3
  · rw [uI_ne (by omega)]; exact h4
  · rw [uI_ne (by omega)]; exact h5
  · rw [uI_ne (by omega)]; exact h6
theorem KC.byF {h h' : av_H} (hR : u.R = 67 ∨ u.R = 72) (kc : KC u h len) (A : agr (cF u.R) h h') (o : h'.2.1 (u.R + 1) = h.2.1 (u.R + 1)) : KC u h' len := by
  have q2 : ∀ j, cF u.R (u.R + 2) j = true := fun j => by rcases hR with e | e <;> rw [e] <;> rfl
  have q3 : ∀ j, cF u.R (u.R + 3) j = true := fun j => by rcases hR with e | e <;> rw [e] <;> rfl
  refine kc.cg o ?_ ?_
  · funext j
    exact A.I (q2 j)
  · funext j
    exact A.I (q3 j)
theorem KC.uI {h : av_H} {x k : Nat} {v : Int32} (kc : KC u h len) (e1 : u.R + 1 ≠ x) (e2 : u.R + 2 ≠ x) (e3 : u.R + 3 ≠ x) : KC u (av_uI h x k v) len := kc.cg (uI_ne e1) (uI_ne e2) (uI_ne e3)
theorem LF.byF {m : Int32} {h h' : av_H} (hR : u.R = 67 ∨ u.R = 72) (L : LF u m h) (A : agr (cF u.R) h h') : LF u m h' := L.fr hR (agr.mono A (fun _ _ z => cF_G z))
theorem agr.LF {R : Nat} {h0 h h' : av_H} (A : agr (cL R) h0 h) (B : agr (cF R) h h') : agr (cL R) h0 h' := agr.tr A (agr.mono B (fun _ _ z => cL_F z))
/-- the class, at a word that is told once: it was, or it is now -/
theorem c_told (H : LnH T P n hc0 hr0 u rt dt hc hr a len c) {t : Nat} {m' : Int32} (z : T a = t) : (¬ oMu u rt dt &&& oB t = 0 → ∃ h', ev X (d + 2) 82 [vr (some 37)] hc = av_rI (bI false) h' ∧ LX u.R hc0 h' (3 + 16 * P a)) ∧ (oMu u rt dt &&& oB t = 0 → oMu u rt dt ||| oB t = m' → ∃ h', ev X (d + 2) 82 [vr (some 37)] hc = av_rI (bI true) h' ∧ WF h' ∧ agr (cL u.R) hc0 h' ∧ h'.2.1 37 6 = nI (a + 1) ∧ h'.2.1 37 7 = nI (T (a + 1)) ∧ h'.2.1 37 8 = 0 ∧ h'.2.1 u.R 9 = nI len ∧ LF u m' h' ∧ KC u h' len ∧ TC T P n h') := by
  have S := H.S
  have C := H.C
  obtain ⟨hR, o, K, TW, C0, _, ha, hl, hcc, ⟨w, A, c6, c7, c8, c9, LFc, kc⟩, _⟩ := H
  have kn := K.1
  refine ⟨fun z1 => ?_, fun z1 z2 => ?_⟩
  · obtain ⟨h', e1, B1⟩ := c_once0 (X := X) (d := d) hR K C S (Nat.le_of_lt ha) (by omega) LFc.1 z z1
    exact ⟨h', e1, LX.of A B1⟩
  · obtain ⟨h', e1, ⟨y0, y1, y2, y3, y4, y5⟩, o1⟩ := c_once1 (X := X) (d := d) hR K C w c6 c7 c8 c9 ha LFc.1 z z1 z2
    have A' : agr (cL u.R) hc0 (av_uI hc 37 9 m') := agr.uI (cL_37 (by omega)) A
    have A2 := A'.LF y1
    exact ⟨h', e1, y0, A2, y2, y3, y4, y5, (LFc.once hR).byF hR y1, KC.byF hR (kc.uI (by omega) (by omega) (by omega)) y1 (o1.trans (uI_ne (by omega)).symm), C0.fL hR A2⟩
theorem oMu_put_2 {es : List Nat} {c : Nat} : oMu (u.put 12 es c) rt dt = oM true (u.q 1) (u.q 2) rt dt u.ky := by
  show oM (u.q 0 || decide (12 + 0 = 12)) (u.q 1 || decide (12 + 1 = 12)) (u.q 2 || decide (12 + 2 = 12)) rt dt u.ky = _
  simp only [Nat.reduceAdd, Nat.reduceEqDiff, decide_true, decide_false, Bool.or_true, Bool.or_false]
theorem ln_w2 (H : LnH T P n hc0 hr0 u rt dt hc hr a len c) (z : T a = 10002) : LnR T n hc0 hr0 u.R a (ev X (d + 40) 84 [vr (some 37), vr (some u.R)] hc) (ev X (e + 39) 277 [vr (some 137)] hr) := by
  have U := H.U
  have CR := H.CR
  obtain ⟨told1, told0⟩ := c_told (X := X) (d := d + 37) (m' := oM true (u.q 1) (u.q 2) rt dt u.ky) H z
  obtain ⟨hR, o, K, TW, _, _, ha, hl, hcc, ⟨w, A, c6, c7, c8, c9, LFc, kc⟩, ⟨wr, Ar, r7, r8, r31, kpr, RFr, kr⟩⟩ := H
  have kn := K.1
  have kp := K.2.2.2 a (Nat.le_of_lt ha)
  have rl : ev X (d + 40) 84 [vr (some 37), vr (some u.R)] hc = (av_cI (ev X (d + 39) 82 [vr (some 37)] hc)).bind fun q4 => if q4.1 = 0 then ((av_bz (0 : Int32)).bind fun w => av_rI w q4.2) else if av_is q4.2 (some 37) 5 = true then ((av_cI (ev X (d + 39) 90 [vr (some 37), vr (some u.R), vi (nI 12)] q4.2)).bind fun q5 => if q5.1 = 0 then ((av_bz (0 : Int32)).bind fun w => av_rI w q5.2) else (av_bz (1 : Int32)).bind fun w => av_rI w q5.2) else none := by
    rw [e_84, b_84_0, gI_37_7 w, c7, z]
    simp only [show ¬ nI 10002 = 10000 by decide, show ¬ nI 10002 = 10001 by decide, if_false]
    rw [if_pos (show nI 10002 = 10002 from rfl)]
    rw [is_37 w]
    rfl
  have vv : (if 10002 ≤ T a ∧ T a < 10007 then nI (T a - 10000) else -1) = nI 2 := by rw [if_pos (by omega), z]
  have sl : ev X (e + 39) 277 [vr (some 137)] hr = if hr.2.1 165 (3 + 0) < 0 then bd X (e + 38) 277 137 [(0, vr (some 137)), (1, vi (nI 2))] [] hr else bd X (e + 38) 277 134 [(0, vr (some 137)), (1, vi (nI 2))] [] hr := by
    rw [s_ln92 (e := e + 37) K CR U (Nat.le_of_lt ha) (by omega) (by omega) (by omega), vv, b_277_92, if_pos (show (6 : Int32) < nI 7 by decide), if_neg (show ¬ nI 2 < 0 by decide), if_neg (show ¬ nI 2 = 5 by decide), if_neg (show ¬ nI 2 = 6 by decide), gR_137_36 wr, show (3 : Int32) + nI 2 - 2 = nI (3 + 0) from rfl, ld_165 wr (by omega)]
  have e165 := kr.2.2.2 0 (by omega)
  cases qj : u.q 0 with
  | true =>
    rw [if_pos qj] at e165
    obtain ⟨L1, _, _⟩ := kr.1 12 (Or.inr (Or.inr ⟨by omega, by omega, qj⟩))
    have L2 : u.L (12 + 0) + u.l (12 + 0) < c := L1
    obtain ⟨h', e1, X1⟩ := told1 (by rw [oMu, qj]; exact (oM_2 _ _ _ _ _).2)
    obtain ⟨g', f1, U1, m1⟩ := s_wr0 (X := X) (d := e + 37) CR K U (Nat.le_of_lt ha) (k := 3)
    refine Or.inr ⟨3 + 16 * P a, h', g', by omega, by omega, ?_, ?_, X1, LY.of Ar kpr U1 m1⟩
    · rw [rl, e1, av_cI_r, Option.bind_some, if_pos (show bI false = 0 from rfl), zb_0]
      rfl
    · rw [sl, e165, if_neg (nI_pos (by omega)), b_277_134, is_137 wr, show (3 : Int32) = nI 3 from rfl, f1, av_cV_r, Option.bind_some]
      exact s_lnF U1.1 (by omega) (by omega) U1.2.2.2.1
  | false =>
    rw [if_neg (by rw [qj]; decide)] at e165
    obtain ⟨h1, e1, y0, y1, y2, y3, y4, y5, y6, y7, y8⟩ := told0 (by rw [oMu, qj]; exact (oM_2 _ _ _ _ _).1.1) (by rw [oMu, qj]; exact (oM_2 _ _ _ _ _).1.2)
    have g1 : WF (av_uI hr 137 7 (nI (a + 1))) := WF_uI wr
    have g2 : WF (av_uI (av_uI hr 137 7 (nI (a + 1))) 165 (3 + 0) (nI c)) := WF_uI g1
    have rr : ev X (e + 39) 277 [vr (some 137)] hr = (av_cV (ev X (e + 38) 278 [vr (some 137)] (av_uI (av_uI hr 137 7 (nI (a + 1))) 165 (3 + 0) (nI c)))).bind fun q11 => av_rV q11 := by
      rw [sl, e165, if_pos (show (-1 : Int32) < 0 by decide), b_277_137, gI_137_8 wr, r8, if_neg (show ¬ (0 : Int32) < nI 0 by decide), gI_137_7 wr, r7, nI_1, pI_137 wr, if_neg (show ¬ nI 2 = 5 by decide), if_neg (show ¬ nI 2 = 6 by decide), gR_137_36 g1, gI_137_31 g1, uI_nk (by decide), r31, show (3 : Int32) + nI 2 - 2 = nI (3 + 0) from rfl, st_165 g1 (by omega), is_137 g2]
    have Ag : agr (fun x k => !FP false [165] [(137, 7)] x k) hr (av_uI (av_uI hr 137 7 (nI (a + 1))) 165 (3 + 0) (nI c)) := agr.uI rfl (agr.uI rfl agr.rfl)
    have Ao : off false [165] [(137, 7)] hr (av_uI (av_uI hr 137 7 (nI (a + 1))) 165 (3 + 0) (nI c)) := Ag
    rcases ln_E (X := X) (d := d + 1) (e := e) (hc0 := hc0) (hr0 := hr0) (rt := rt) (dt := dt) hR K TW y8 (CR.fr (Ao.fr (by decide))) (p := 12) (a := a + 1) (by omega) ⟨o.1, o.2.1, Or.inr (Or.inr ⟨by omega, by omega, qj⟩)⟩ o.2.2.2.2.1 y0 y1 y2 y3 y4 y5 y6 y7 g2 (agr.tr Ar (Ao.up (by decide))) (by rw [uI_ne (by decide), uI_eq]) (by rw [uI_ne (by decide), uI_nk (by decide)]; exact r8) (by rw [uI_ne (by decide), uI_nk (by decide)]; exact r31) ⟨fun j hj => by rw [uI_ne (by decide), uI_ne (by decide), uI_ne (by decide), uI_ne (by decide)]; exact kpr.1 j hj, fun j hj => by rw [uI_ne (by decide), uI_ne (by decide)]; exact kpr.2.1 j hj, fun j hj => by rw [uI_ne (by decide), uI_ne (by decide)]; exact kpr.2.2.1 j hj, fun j hj => by rw [uI_nk (by omega), uI_ne (by decide)]; exact kpr.2.2.2 j hj⟩ (RFr.fr (Ao.fr (by decide))) kr (by rw [uI_ne (by decide), uI_ne (by decide)]) (by rw [uI_ne (by decide), uI_ne (by decide)]) (fun k => by rw [uI_ne (by decide), uI_ne (by decide), if_neg (by omega)]) (fun k hk => by
        by_cases x : k = 0
        · rw [x, if_pos (by omega), uI_eq]
        · rw [if_neg (by omega), uI_nk (by omega), uI_ne (by decide)]) (by omega) (by omega) (by omega) with ⟨a', es, hc', hr', q1, q2, q3, q4, q5, q6, q7, q8, q9⟩ | ⟨F, hc', hr', q1, q2, q3, q4, q5, q6⟩
    · refine Or.inl ⟨u.put 12 es c, rt, dt, a', len + es.length, c + es.length + 1, hc', hr', rfl, ⟨o.1, o.2.1, o.2.2.1, o.2.2.2.1, q5, o.2.2.2.2.2.1, o.2.2.2.2.2.2⟩, by omega, q2, q3, q4, ?_, ?_, by rw [oMu_put_2]; exact q8, q9⟩
      · rw [rl, e1, av_cI_r, Option.bind_some, if_neg (show ¬ bI true = 0 by decide), is_37 y0, q6, av_cI_r, Option.bind_some, if_neg (show ¬ bI true = 0 by decide), zb_1]
        rfl
      · rw [rr, q7, av_cV_r, Option.bind_some]
    · refine Or.inr ⟨F, hc', hr', q1, q2, ?_, ?_, q5, q6⟩
      · rw [rl, e1, av_cI_r, Option.bind_some, if_neg (show ¬ bI true = 0 by decide), is_37 y0, q3, av_cI_r, Option.bind_some, if_pos (show bI false = 0 from rfl), zb_0]
        rfl
      · rw [rr, q4, av_cV_r, Option.bind_some]
theorem oMu_put_3 {es : List Nat} {c : Nat} : oMu (u.put 13 es c) rt dt = oM (u.q 0) true (u.q 2) rt dt u.ky := by
  show oM (u.q 0 || decide (12 + 0 = 13)) (u.q 1 || decide (12 + 1 = 13)) (u.q 2 || decide (12 + 2 = 13)) rt dt u.ky = _
  simp only [Nat.reduceAdd, Nat.reduceEqDiff, decide_true, decide_false, Bool.or_true, Bool.or_false]
theorem ln_w3 (H : LnH T P n hc0 hr0 u rt dt hc hr a len c) (z : T a = 10003) : LnR T n hc0 hr0 u.R a (ev X (d + 40) 84 [vr (some 37), vr (some u.R)] hc) (ev X (e + 39) 277 [vr (some 137)] hr) := by
  have U := H.U
  have CR := H.CR
  obtain ⟨told1, told0⟩ := c_told (X := X) (d := d + 37) (m' := oM (u.q 0) true (u.q 2) rt dt u.ky) H z
  obtain ⟨hR, o, K, TW, _, _, ha, hl, hcc, ⟨w, A, c6, c7, c8, c9, LFc, kc⟩, ⟨wr, Ar, r7, r8, r31, kpr, RFr, kr⟩⟩ := H
  have kn := K.1
  have kp := K.2.2.2 a (Nat.le_of_lt ha)
  have rl : ev X (d + 40) 84 [vr (some 37), vr (some u.R)] hc = (av_cI (ev X (d + 39) 82 [vr (some 37)] hc)).bind fun q4 => if q4.1 = 0 then ((av_bz (0 : Int32)).bind fun w => av_rI w q4.2) else if av_is q4.2 (some 37) 5 = true then ((av_cI (ev X (d + 39) 90 [vr (some 37), vr (some u.R), vi (nI 13)] q4.2)).bind fun q5 => if q5.1 = 0 then ((av_bz (0 : Int32)).bind fun w => av_rI w q5.2) else (av_bz (1 : Int32)).bind fun w => av_rI w q5.2) else none := by
    rw [e_84, b_84_0, gI_37_7 w, c7, z]
    simp only [show ¬ nI 10003 = 10000 by decide, show ¬ nI 10003 = 10001 by decide, if_false]
    rw [if_neg (show ¬ nI 10003 = 10002 by decide), if_pos (show nI 10003 = 10003 from rfl)]
    rw [is_37 w]
    rfl
  have vv : (if 10002 ≤ T a ∧ T a < 10007 then nI (T a - 10000) else -1) = nI 3 := by rw [if_pos (by omega), z]
  have sl : ev X (e + 39) 277 [vr (some 137)] hr = if hr.2.1 165 (3 + 1) < 0 then bd X (e + 38) 277 137 [(0, vr (some 137)), (1, vi (nI 3))] [] hr else bd X (e + 38) 277 134 [(0, vr (some 137)), (1, vi (nI 3))] [] hr := by
    rw [s_ln92 (e := e + 37) K CR U (Nat.le_of_lt ha) (by omega) (by omega) (by omega), vv, b_277_92, if_pos (show (6 : Int32) < nI 7 by decide), if_neg (show ¬ nI 3 < 0 by decide), if_neg (show ¬ nI 3 = 5 by decide), if_neg (show ¬ nI 3 = 6 by decide), gR_137_36 wr, show (3 : Int32) + nI 3 - 2 = nI (3 + 1) from rfl, ld_165 wr (by omega)]
  have e165 := kr.2.2.2 1 (by omega)
  cases qj : u.q 1 with
  | true =>
    rw [if_pos qj] at e165
    obtain ⟨L1, _, _⟩ := kr.1 13 (Or.inr (Or.inr ⟨by omega, by omega, qj⟩))
    have L2 : u.L (12 + 1) + u.l (12 + 1) < c := L1
    obtain ⟨h', e1, X1⟩ := told1 (by rw [oMu, qj]; exact (oM_3 _ _ _ _ _).2)
    obtain ⟨g', f1, U1, m1⟩ := s_wr0 (X := X) (d := e + 37) CR K U (Nat.le_of_lt ha) (k := 3)
    refine Or.inr ⟨3 + 16 * P a, h', g', by omega, by omega, ?_, ?_, X1, LY.of Ar kpr U1 m1⟩
    · rw [rl, e1, av_cI_r, Option.bind_some, if_pos (show bI false = 0 from rfl), zb_0]
      rfl
    · rw [sl, e165, if_neg (nI_pos (by omega)), b_277_134, is_137 wr, show (3 : Int32) = nI 3 from rfl, f1, av_cV_r, Option.bind_some]
      exact s_lnF U1.1 (by omega) (by omega) U1.2.2.2.1
  | false =>
    rw [if_neg (by rw [qj]; decide)] at e165
    obtain ⟨h1, e1, y0, y1, y2, y3, y4, y5, y6, y7, y8⟩ := told0 (by rw [oMu, qj]; exact (oM_3 _ _ _ _ _).1.1) (by rw [oMu, qj]; exact (oM_3 _ _ _ _ _).1.2)
    have g1 : WF (av_uI hr 137 7 (nI (a + 1))) := WF_uI wr
    have g2 : WF (av_uI (av_uI hr 137 7 (nI (a + 1))) 165 (3 + 1) (nI c)) := WF_uI g1
    have rr : ev X (e + 39) 277 [vr (some 137)] hr = (av_cV (ev X (e + 38) 278 [vr (some 137)] (av_uI (av_uI hr 137 7 (nI (a + 1))) 165 (3 + 1) (nI c)))).bind fun q11 => av_rV q11 := by
      rw [sl, e165, if_pos (show (-1 : Int32) < 0 by decide), b_277_137, gI_137_8 wr, r8, if_neg (show ¬ (0 : Int32) < nI 0 by decide), gI_137_7 wr, r7, nI_1, pI_137 wr, if_neg (show ¬ nI 3 = 5 by decide), if_neg (show ¬ nI 3 = 6 by decide), gR_137_36 g1, gI_137_31 g1, uI_nk (by decide), r31, show (3 : Int32) + nI 3 - 2 = nI (3 + 1) from rfl, st_165 g1 (by omega), is_137 g2]
    have Ag : agr (fun x k => !FP false [165] [(137, 7)] x k) hr (av_uI (av_uI hr 137 7 (nI (a + 1))) 165 (3 + 1) (nI c)) := agr.uI rfl (agr.uI rfl agr.rfl)
    have Ao : off false [165] [(137, 7)] hr (av_uI (av_uI hr 137 7 (nI (a + 1))) 165 (3 + 1) (nI c)) := Ag
    rcases ln_E (X := X) (d := d + 1) (e := e) (hc0 := hc0) (hr0 := hr0) (rt := rt) (dt := dt) hR K TW y8 (CR.fr (Ao.fr (by decide))) (p := 13) (a := a + 1) (by omega) ⟨o.1, o.2.1, Or.inr (Or.inr ⟨by omega, by omega, qj⟩)⟩ o.2.2.2.2.1 y0 y1 y2 y3 y4 y5 y6 y7 g2 (agr.tr Ar (Ao.up (by decide))) (by rw [uI_ne (by decide), uI_eq]) (by rw [uI_ne (by decide), uI_nk (by decide)]; exact r8) (by rw [uI_ne (by decide), uI_nk (by decide)]; exact r31) ⟨fun j hj => by rw [uI_ne (by decide), uI_ne (by decide), uI_ne (by decide), uI_ne (by decide)]; exact kpr.1 j hj, fun j hj => by rw [uI_ne (by decide), uI_ne (by decide)]; exact kpr.2.1 j hj, fun j hj => by rw [uI_ne (by decide), uI_ne (by decide)]; exact kpr.2.2.1 j hj, fun j hj => by rw [uI_nk (by omega), uI_ne (by decide)]; exact kpr.2.2.2 j hj⟩ (RFr.fr (Ao.fr (by decide))) kr (by rw [uI_ne (by decide), uI_ne (by decide)]) (by rw [uI_ne (by decide), uI_ne (by decide)]) (fun k => by rw [uI_ne (by decide), uI_ne (by decide), if_neg (by omega)]) (fun k hk => by
        by_cases x : k = 1
        · rw [x, if_pos (by omega), uI_eq]
        · rw [if_neg (by omega), uI_nk (by omega), uI_ne (by decide)]) (by omega) (by omega) (by omega) with ⟨a', es, hc', hr', q1, q2, q3, q4, q5, q6, q7, q8, q9⟩ | ⟨F, hc', hr', q1, q2, q3, q4, q5, q6⟩
    · refine Or.inl ⟨u.put 13 es c, rt, dt, a', len + es.length, c + es.length + 1, hc', hr', rfl, ⟨o.1, o.2.1, o.2.2.1, o.2.2.2.1, q5, o.2.2.2.2.2.1, o.2.2.2.2.2.2⟩, by omega, q2, q3, q4, ?_, ?_, by rw [oMu_put_3]; exact q8, q9⟩
      · rw [rl, e1, av_cI_r, Option.bind_some, if_neg (show ¬ bI true = 0 by decide), is_37 y0, q6, av_cI_r, Option.bind_some, if_neg (show ¬ bI true = 0 by decide), zb_1]
        rfl
      · rw [rr, q7, av_cV_r, Option.bind_some]
    · refine Or.inr ⟨F, hc', hr', q1, q2, ?_, ?_, q5, q6⟩
      · rw [rl, e1, av_cI_r, Option.bind_some, if_neg (show ¬ bI true = 0 by decide), is_37 y0, q3, av_cI_r, Option.bind_some, if_pos (show bI false = 0 from rfl), zb_0]
        rfl
      · rw [rr, q4, av_cV_r, Option.bind_some]
theorem oMu_put_4 {es : List Nat} {c : Nat} : oMu (u.put 14 es c) rt dt = oM (u.q 0) (u.q 1) true rt dt u.ky := by
  show oM (u.q 0 || decide (12 + 0 = 14)) (u.q 1 || decide (12 + 1 = 14)) (u.q 2 || decide (12 + 2 = 14)) rt dt u.ky = _
  simp only [Nat.reduceAdd, Nat.reduceEqDiff, decide_true, decide_false, Bool.or_true, Bool.or_false]
theorem ln_w4 (H : LnH T P n hc0 hr0 u rt dt hc hr a len c) (z : T a = 10004) : LnR T n hc0 hr0 u.R a (ev X (d + 40) 84 [vr (some 37), vr (some u.R)] hc) (ev X (e + 39) 277 [vr (some 137)] hr) := by
  have U := H.U
  have CR := H.CR
  obtain ⟨told1, told0⟩ := c_told (X := X) (d := d + 37) (m' := oM (u.q 0) (u.q 1) true rt dt u.ky) H z
  obtain ⟨hR, o, K, TW, _, _, ha, hl, hcc, ⟨w, A, c6, c7, c8, c9, LFc, kc⟩, ⟨wr, Ar, r7, r8, r31, kpr, RFr, kr⟩⟩ := H
  have kn := K.1
  have kp := K.2.2.2 a (Nat.le_of_lt ha)
  have rl : ev X (d + 40) 84 [vr (some 37), vr (some u.R)] hc = (av_cI (ev X (d + 39) 82 [vr (some 37)] hc)).bind fun q4 => if q4.1 = 0 then ((av_bz (0 : Int32)).bind fun w => av_rI w q4.2) else if av_is q4.2 (some 37) 5 = true then ((av_cI (ev X (d + 39) 90 [vr (some 37), vr (some u.R), vi (nI 14)] q4.2)).bind fun q5 => if q5.1 = 0 then ((av_bz (0 : Int32)).bind fun w => av_rI w q5.2) else (av_bz (1 : Int32)).bind fun w => av_rI w q5.2) else none := by
    rw [e_84, b_84_0, gI_37_7 w, c7, z]
    simp only [show ¬ nI 10004 = 10000 by decide, show ¬ nI 10004 = 10001 by decide, if_false]
    rw [if_neg (show ¬ nI 10004 = 10002 by decide), if_neg (show ¬ nI 10004 = 10003 by decide), if_pos (show nI 10004 = 10004 from rfl)]
    rw [is_37 w]
    rfl
  have vv : (if 10002 ≤ T a ∧ T a < 10007 then nI (T a - 10000) else -1) = nI 4 := by rw [if_pos (by omega), z]
  have sl : ev X (e + 39) 277 [vr (some 137)] hr = if hr.2.1 165 (3 + 2) < 0 then bd X (e + 38) 277 137 [(0, vr (some 137)), (1, vi (nI 4))] [] hr else bd X (e + 38) 277 134 [(0, vr (some 137)), (1, vi (nI 4))] [] hr := by
    rw [s_ln92 (e := e + 37) K CR U (Nat.le_of_lt ha) (by omega) (by omega) (by omega), vv, b_277_92, if_pos (show (6 : Int32) < nI 7 by decide), if_neg (show ¬ nI 4 < 0 by decide), if_neg (show ¬ nI 4 = 5 by decide), if_neg (show ¬ nI 4 = 6 by decide), gR_137_36 wr, show (3 : Int32) + nI 4 - 2 = nI (3 + 2) from rfl, ld_165 wr (by omega)]
  have e165 := kr.2.2.2 2 (by omega)
  cases qj : u.q 2 with
  | true =>
    rw [if_pos qj] at e165
    obtain ⟨L1, _, _⟩ := kr.1 14 (Or.inr (Or.inr ⟨by omega, by omega, qj⟩))
    have L2 : u.L (12 + 2) + u.l (12 + 2) < c := L1
    obtain ⟨h', e1, X1⟩ := told1 (by rw [oMu, qj]; exact (oM_4 _ _ _ _ _).2)
    obtain ⟨g', f1, U1, m1⟩ := s_wr0 (X := X) (d := e + 37) CR K U (Nat.le_of_lt ha) (k := 3)
    refine Or.inr ⟨3 + 16 * P a, h', g', by omega, by omega, ?_, ?_, X1, LY.of Ar kpr U1 m1⟩
    · rw [rl, e1, av_cI_r, Option.bind_some, if_pos (show bI false = 0 from rfl), zb_0]
      rfl
    · rw [sl, e165, if_neg (nI_pos (by omega)), b_277_134, is_137 wr, show (3 : Int32) = nI 3 from rfl, f1, av_cV_r, Option.bind_some]
      exact s_lnF U1.1 (by omega) (by omega) U1.2.2.2.1
  | false =>
    rw [if_neg (by rw [qj]; decide)] at e165
    obtain ⟨h1, e1, y0, y1, y2, y3, y4, y5, y6, y7, y8⟩ := told0 (by rw [oMu, qj]; exact (oM_4 _ _ _ _ _).1.1) (by rw [oMu, qj]; exact (oM_4 _ _ _ _ _).1.2)
    have g1 : WF (av_uI hr 137 7 (nI (a + 1))) := WF_uI wr
    have g2 : WF (av_uI (av_uI hr 137 7 (nI (a + 1))) 165 (3 + 2) (nI c)) := WF_uI g1
    have rr : ev X (e + 39) 277 [vr (some 137)] hr = (av_cV (ev X (e + 38) 278 [vr (some 137)] (av_uI (av_uI hr 137 7 (nI (a + 1))) 165 (3 + 2) (nI c)))).bind fun q11 => av_rV q11 := by
      rw [sl, e165, if_pos (show (-1 : Int32) < 0 by decide), b_277_137, gI_137_8 wr, r8, if_neg (show ¬ (0 : Int32) < nI 0 by decide), gI_137_7 wr, r7, nI_1, pI_137 wr, if_neg (show ¬ nI 4 = 5 by decide), if_neg (show ¬ nI 4 = 6 by decide), gR_137_36 g1, gI_137_31 g1, uI_nk (by decide), r31, show (3 : Int32) + nI 4 - 2 = nI (3 + 2) from rfl, st_165 g1 (by omega), is_137 g2]
    have Ag : agr (fun x k => !FP false [165] [(137, 7)] x k) hr (av_uI (av_uI hr 137 7 (nI (a + 1))) 165 (3 + 2) (nI c)) := agr.uI rfl (agr.uI rfl agr.rfl)
    have Ao : off false [165] [(137, 7)] hr (av_uI (av_uI hr 137 7 (nI (a + 1))) 165 (3 + 2) (nI c)) := Ag
    rcases ln_E (X := X) (d := d + 1) (e := e) (hc0 := hc0) (hr0 := hr0) (rt := rt) (dt := dt) hR K TW y8 (CR.fr (Ao.fr (by decide))) (p := 14) (a := a + 1) (by omega) ⟨o.1, o.2.1, Or.inr (Or.inr ⟨by omega, by omega, qj⟩)⟩ o.2.2.2.2.1 y0 y1 y2 y3 y4 y5 y6 y7 g2 (agr.tr Ar (Ao.up (by decide))) (by rw [uI_ne (by decide), uI_eq]) (by rw [uI_ne (by decide), uI_nk (by decide)]; exact r8) (by rw [uI_ne (by decide), uI_nk (by decide)]; exact r31) ⟨fun j hj => by rw [uI_ne (by decide), uI_ne (by decide), uI_ne (by decide), uI_ne (by decide)]; exact kpr.1 j hj, fun j hj => by rw [uI_ne (by decide), uI_ne (by decide)]; exact kpr.2.1 j hj, fun j hj => by rw [uI_ne (by decide), uI_ne (by decide)]; exact kpr.2.2.1 j hj, fun j hj => by rw [uI_nk (by omega), uI_ne (by decide)]; exact kpr.2.2.2 j hj⟩ (RFr.fr (Ao.fr (by decide))) kr (by rw [uI_ne (by decide), uI_ne (by decide)]) (by rw [uI_ne (by decide), uI_ne (by decide)]) (fun k => by rw [uI_ne (by decide), uI_ne (by decide), if_neg (by omega)]) (fun k hk => by
        by_cases x : k = 2
        · rw [x, if_pos (by omega), uI_eq]
        · rw [if_neg (by omega), uI_nk (by omega), uI_ne (by decide)]) (by omega) (by omega) (by omega) with ⟨a', es, hc', hr', q1, q2, q3, q4, q5, q6, q7, q8, q9⟩ | ⟨F, hc', hr', q1, q2, q3, q4, q5, q6⟩
    · refine Or.inl ⟨u.put 14 es c, rt, dt, a', len + es.length, c + es.length + 1, hc', hr', rfl, ⟨o.1, o.2.1, o.2.2.1, o.2.2.2.1, q5, o.2.2.2.2.2.1, o.2.2.2.2.2.2⟩, by omega, q2, q3, q4, ?_, ?_, by rw [oMu_put_4]; exact q8, q9⟩
      · rw [rl, e1, av_cI_r, Option.bind_some, if_neg (show ¬ bI true = 0 by decide), is_37 y0, q6, av_cI_r, Option.bind_some, if_neg (show ¬ bI true = 0 by decide), zb_1]
        rfl
      · rw [rr, q7, av_cV_r, Option.bind_some]
    · refine Or.inr ⟨F, hc', hr', q1, q2, ?_, ?_, q5, q6⟩
      · rw [rl, e1, av_cI_r, Option.bind_some, if_neg (show ¬ bI true = 0 by decide), is_37 y0, q3, av_cI_r, Option.bind_some, if_pos (show bI false = 0 from rfl), zb_0]
        rfl
      · rw [rr, q4, av_cV_r, Option.bind_some]
end
