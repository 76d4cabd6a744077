/-! the reader: rate and drill -/
section
variable {X : av_X} {d e : Nat} {T P : Nat → Nat} {n : Nat} {hc0 hr0 hc hr : av_H} {u : Ru} {rt dt : Bool} {a len c : Nat}
theorem LY.w39 {F : Nat} {h : av_H} {k : Nat} {v : Int32} (L : LY hr0 h F) (hk : k = 39 ∨ k = 40) : LY hr0 (av_uI h 137 k v) F := by
  obtain ⟨w, A, kp, e8⟩ := L
  refine ⟨WF_uI w, ?_, kp.tr (fun j _ => ⟨by rw [uI_ne (by decide)], by rw [uI_ne (by decide)]⟩) ?_, by rw [uI_nk (by omega)]; exact e8⟩
  · rcases hk with rfl | rfl <;> exact agr.uI rfl A
  · rcases hk with rfl | rfl <;> exact agr.uI rfl agr.rfl
theorem LY.at {F k c : Nat} {h g : av_H} {a : Nat} (A : offL hr0 h) (kp : kpR hr0 h) (U : RS h g a c F) (m : sm6 h g) : LY hr0 g F := LY.of A kp U m
theorem ln_w5 (H : LnH T P n hc0 hr0 u rt dt hc hr a len c) (z : T a = 10005) : LnR T n hc0 hr0 u.R a (ev X (d + 40) 84 [vr (some 37), vr (some u.R)] hc) (ev X (e + 39) 277 [vr (some 137)] hr) := by
  have U := H.U
  have CR := H.CR
  obtain ⟨told1, told0⟩ := c_told (X := X) (d := d + 37) (m' := oM (u.q 0) (u.q 1) (u.q 2) true dt u.ky) H z
  obtain ⟨hR, o, K, TW, C0, _, ha, hl, hcc, ⟨w, A, c6, c7, c8, c9, LFc, kc⟩, ⟨wr, Ar, r7, r8, r31, kpr, RFr, kr⟩⟩ := H
  have kn := K.1
  have kp := K.2.2.2 a (Nat.le_of_lt ha)
  have kp' := K.2.2.2 (a + 1) ha
  have rl : ev X (d + 40) 84 [vr (some 37), vr (some u.R)] hc = (av_cI (ev X (d + 39) 82 [vr (some 37)] hc)).bind fun q4 => if q4.1 = 0 then ((av_bz (0 : Int32)).bind fun w => av_rI w q4.2) else if av_is q4.2 (some 37) 5 = true then ((av_cI (ev X (d + 39) 87 [vr (some 37), vr (some u.R)] q4.2)).bind fun q5 => if q5.1 = 0 then ((av_bz (0 : Int32)).bind fun w => av_rI w q5.2) else (av_bz (1 : Int32)).bind fun w => av_rI w q5.2) else none := by
    rw [e_84, b_84_0, gI_37_7 w, c7, z]
    rw [if_neg (show ¬ nI 10005 = 10000 by decide), if_neg (show ¬ nI 10005 = 10001 by decide), if_neg (show ¬ nI 10005 = 10002 by decide), if_neg (show ¬ nI 10005 = 10003 by decide), if_neg (show ¬ nI 10005 = 10004 by decide), if_pos (show nI 10005 = 10005 from rfl)]
    rw [is_37 w]
  have vv : (if 10002 ≤ T a ∧ T a < 10007 then nI (T a - 10000) else -1) = nI 5 := by rw [if_pos (by omega), z]
  have sl : ev X (e + 39) 277 [vr (some 137)] hr = if hr.2.1 137 39 < 0 then bd X (e + 38) 277 137 [(0, vr (some 137)), (1, vi (nI 5))] [] hr else bd X (e + 38) 277 134 [(0, vr (some 137)), (1, vi (nI 5))] [] hr := by
    rw [s_ln92 (e := e + 37) K CR U (Nat.le_of_lt ha) (by omega) (by omega) (by omega), vv, b_277_92, if_pos (show (6 : Int32) < nI 7 by decide), if_neg (show ¬ nI 5 < 0 by decide), if_pos (show nI 5 = 5 from rfl), gI_137_39 wr]
  have eg : hr.2.1 137 39 = if rt = true then nI u.r else -1 := RFr.2.2.1
  cases hf : rt with
  | true =>
    rw [if_pos hf] at eg
    have hb := o.2.2.1
    obtain ⟨h', e1, X1⟩ := told1 (by rw [oMu, hf]; exact (oM_5 _ _ _ _ _).2)
    obtain ⟨g', f1, U1, m1⟩ := s_wr0 (X := X) (d := e + 37) CR K U (Nat.le_of_lt ha) (k := 3)
    refine Or.inr ⟨3 + 16 * P a, h', g', by omega, by omega, ?_, ?_, X1, LY.of Ar kpr U1 m1⟩
    · rw [rl, e1, av_cI_r, Option.bind_some, if_pos (show bI false = 0 from rfl), zb_0]
      rfl
    · rw [sl, eg, if_neg (nI_pos (by omega)), b_277_134, is_137 wr, show (3 : Int32) = nI 3 from rfl, f1, av_cV_r, Option.bind_some]
      exact s_lnF U1.1 (by omega) (by omega) U1.2.2.2.1
  | false =>
    rw [if_neg (by rw [hf]; decide)] at eg
    obtain ⟨h1, e1, y0, y1, y2, y3, y4, y5, y6, y7, y8⟩ := told0 (by rw [oMu, hf]; exact (oM_5 _ _ _ _ _).1.1) (by rw [oMu, hf]; exact (oM_5 _ _ _ _ _).1.2)
    have S1 : CS T u.R h1 h1 (a + 1) len := ⟨y0, agr.rfl, y2, y3, y4, y5⟩
    have g1 : WF (av_uI hr 137 7 (nI (a + 1))) := WF_uI wr
    have Ao : off false [] [(137, 7)] hr (av_uI hr 137 7 (nI (a + 1))) := agr.uI rfl agr.rfl
    have U1 : RS (av_uI hr 137 7 (nI (a + 1))) (av_uI hr 137 7 (nI (a + 1))) (a + 1) c 0 := ⟨g1, agr.rfl, uI_eq, by rw [uI_nk (by decide)]; exact r8, by rw [uI_nk (by decide)]; exact r31⟩
    have CR1 := CR.fr (Ao.fr (by decide))
    have Ar1 : offL hr0 (av_uI hr 137 7 (nI (a + 1))) := agr.tr Ar (Ao.up (by decide))
    have kp1 : kpR hr0 (av_uI hr 137 7 (nI (a + 1))) := kpr.tr (fun j _ => ⟨by rw [uI_ne (by decide)], by rw [uI_ne (by decide)]⟩) (Ao.fr (by decide))
    have rl2 : ev X (d + 40) 84 [vr (some 37), vr (some u.R)] hc = (av_cI ((av_cI (ev X (d + 38) 83 [vr (some 37), vi (nI 12)] h1)).bind fun q2 => if q2.1 = 0 then ((av_bz (0 : Int32)).bind fun w => av_rI w q2.2) else (av_pI q2.2 (some u.R) 6 2 (nI (T (a + 1)))).bind fun g3 => (av_bz (1 : Int32)).bind fun w => av_rI w g3)).bind fun q5 => if q5.1 = 0 then ((av_bz (0 : Int32)).bind fun w => av_rI w q5.2) else (av_bz (1 : Int32)).bind fun w => av_rI w q5.2 := by
      rw [rl, e1, av_cI_r, Option.bind_some, if_neg (show ¬ bI true = 0 by decide), is_37 y0, e_87, b_87_0, gI_37_7 y0, y3, is_37 y0]
      rfl
    have rr : ev X (e + 39) 277 [vr (some 137)] hr = (av_cI (ev X (e + 38) 276 [vr (some 137), vi 1, vi (nI 12)] (av_uI hr 137 7 (nI (a + 1))))).bind fun q4 => (av_pI q4.2 (some 137) 11 39 q4.1).bind fun g5 => av_rV g5 := by
      rw [sl, eg, if_pos (show (-1 : Int32) < 0 by decide), b_277_137, gI_137_8 wr, r8, if_neg (show ¬ (0 : Int32) < nI 0 by decide), gI_137_7 wr, r7, nI_1, pI_137 wr, if_pos (show nI 5 = 5 from rfl), is_137 g1]
      rfl
    obtain ⟨n1, n2, n3⟩ := c_num (X := X) (d := d + 36) (b := 12) hR K y8 S1 ha (by omega) (by omega)
    obtain ⟨s1, s2, s3⟩ := s_num (X := X) (d := e + 36) (b := 12) K CR1 U1 ha (by omega)
    by_cases t1 : 1 ≤ T (a + 1) ∧ T (a + 1) ≤ 12
    · obtain ⟨h2, e2, ⟨x0, x1, x2, x3, x4, x5⟩, o2⟩ := n1 t1
      have an : a + 1 < n := K.lt ha (by omega)
      have g2 : WF (av_uI (av_uI hr 137 7 (nI (a + 1))) 137 7 (nI (a + 1 + 1))) := WF_uI g1
      have A2 : agr (cL u.R) hc0 h2 := y1.LF x1
      have L2 := y6.byF hR x1
      refine Or.inl ⟨u.setr (T (a + 1)), true, dt, a + 1 + 1, len, c, av_uI h2 u.R 2 (nI (T (a + 1))), av_uI (av_uI (av_uI hr 137 7 (nI (a + 1))) 137 7 (nI (a + 1 + 1))) 137 39 (nI (T (a + 1))), rfl, ⟨o.1, o.2.1, t1, o.2.2.2.1, o.2.2.2.2.1, fun q => absurd q (by decide), o.2.2.2.2.2.2⟩, by omega, an, by omega, by omega, ?_, ?_, ⟨WF_uI x0, agr.uI cL_R A2, ?_, ?_, ?_, ?_, ?_, ?_⟩, ⟨WF_uI g2, ?_, ?_, ?_, ?_, ?_, ?_, ?_⟩⟩
      · rw [rl2, e2, av_cI_r, Option.bind_some, if_neg (show ¬ bI true = 0 by decide), pI_Ru hR x0, zb_1, av_cI_r, Option.bind_some, if_neg (show ¬ (1 : Int32) = 0 by decide), zb_1]
        rfl
      · rw [rr, s1 t1, av_cI_r, Option.bind_some, pI_137 g2]
      · rw [uI_ne (by omega)]; exact x2
      · rw [uI_ne (by omega)]; exact x3
      · rw [uI_ne (by omega)]; exact x4
      · show (av_uI h2 u.R 2 (nI (T (a + 1)))).2.1 u.R 9 = _
        rw [uI_nk (by decide)]; exact x5
      · obtain ⟨l1, l2, l3, l4, l5, l6⟩ := L2
        have ll : ∀ q, q ≠ 2 → (av_uI h2 u.R 2 (nI (T (a + 1)))).2.1 u.R q = h2.2.1 u.R q := fun q hq => uI_nk hq
        refine ⟨?_, ?_, ?_, ?_, ?_, ?_⟩
        · rw [uI_ne (by omega)]; exact l1
        · exact (ll 0 (by decide)).trans l2
        · exact (ll 1 (by decide)).trans l3
        · exact uI_eq
        · exact (ll 3 (by decide)).trans l5
        · exact (ll 4 (by decide)).trans l6
      · exact KC.uI (u := u) (KC.byF hR y7 x1 o2) (by omega) (by omega) (by omega)
      · exact agr.uI rfl (agr.uI rfl Ar1)
      · rw [uI_nk (by decide), uI_eq]
      · rw [uI_nk (by decide), uI_nk (by decide), uI_nk (by decide)]; exact r8
      · rw [uI_nk (by decide), uI_nk (by decide), uI_nk (by decide)]; exact r31
      · exact kp1.tr (fun j _ => ⟨by rw [uI_ne (by decide), uI_ne (by decide)], by rw [uI_ne (by decide), uI_ne (by decide)]⟩) (agr.uI rfl (agr.uI rfl agr.rfl))
      · obtain ⟨l1, l2, l3, l4, l5⟩ := RFr
        refine ⟨?_, ?_, ?_, ?_, ?_⟩
        · rw [uI_ne (by decide), uI_ne (by decide), uI_ne (by decide)]; exact l1
        · rw [uI_ne (by decide), uI_ne (by decide), uI_ne (by decide)]; exact l2
        · rw [uI_eq, if_pos rfl]; rfl
        · rw [uI_nk (by decide), uI_nk (by decide), uI_nk (by decide)]; exact l4
        · rw [uI_nk (by decide), uI_nk (by decide), uI_nk (by decide)]; exact l5
      · exact KR.cg (u := u) kr (agr.uI rfl (agr.uI rfl (agr.uI rfl agr.rfl)))
    · by_cases t2 : T (a + 1) < 10000
      · obtain ⟨h2, e2, B2⟩ := n2 t2 t1
        obtain ⟨g2, f2, U2, m2⟩ := s2 t2 t1
        refine Or.inr ⟨4 + 16 * P (a + 1), h2, av_uI g2 137 39 0, by omega, by omega, ?_, ?_, LX.of y1 B2, (LY.of Ar1 kp1 U2 m2).w39 (by omega)⟩
        · rw [rl2, e2, av_cI_r, Option.bind_some, if_pos (show bI false = 0 from rfl), zb_0, av_cI_r, Option.bind_some, if_pos rfl, zb_0]
          rfl
        · rw [rr, f2, av_cI_r, Option.bind_some, pI_137 U2.1]
      · obtain ⟨h2, e2, B2⟩ := n3 t2
        obtain ⟨g2, f2, U2, m2⟩ := s3 t2
        refine Or.inr ⟨1 + 16 * P (a + 1), h2, av_uI g2 137 39 0, by omega, by omega, ?_, ?_, LX.of y1 B2, (LY.of Ar1 kp1 U2 m2).w39 (by omega)⟩
        · rw [rl2, e2, av_cI_r, Option.bind_some, if_pos (show bI false = 0 from rfl), zb_0, av_cI_r, Option.bind_some, if_pos rfl, zb_0]
          rfl
        · rw [rr, f2, av_cI_r, Option.bind_some, pI_137 U2.1]
theorem ln_w6 (H : LnH T P n hc0 hr0 u rt dt hc hr a len c) (z : T a = 10006) : LnR T n hc0 hr0 u.R a (ev X (d + 40) 84 [vr (some 37), vr (some u.R)] hc) (ev X (e + 39) 277 [vr (some 137)] hr) := by
  have U := H.U
  have CR := H.CR
  obtain ⟨told1, told0⟩ := c_told (X := X) (d := d + 37) (m' := oM (u.q 0) (u.q 1) (u.q 2) rt true u.ky) H z
  obtain ⟨hR, o, K, TW, C0, _, ha, hl, hcc, ⟨w, A, c6, c7, c8, c9, LFc, kc⟩, ⟨wr, Ar, r7, r8, r31, kpr, RFr, kr⟩⟩ := H
  have kn := K.1
  have kp := K.2.2.2 a (Nat.le_of_lt ha)
  have kp' := K.2.2.2 (a + 1) ha
  have rl : ev X (d + 40) 84 [vr (some 37), vr (some u.R)] hc = (av_cI (ev X (d + 39) 82 [vr (some 37)] hc)).bind fun q4 => if q4.1 = 0 then ((av_bz (0 : Int32)).bind fun w => av_rI w q4.2) else if av_is q4.2 (some 37) 5 = true then ((av_cI (ev X (d + 39) 88 [vr (some 37), vr (some u.R)] q4.2)).bind fun q5 => if q5.1 = 0 then ((av_bz (0 : Int32)).bind fun w => av_rI w q5.2) else (av_bz (1 : Int32)).bind fun w => av_rI w q5.2) else none := by
    rw [e_84, b_84_0, gI_37_7 w, c7, z]
    rw [if_neg (show ¬ nI 10006 = 10000 by decide), if_neg (show ¬ nI 10006 = 10001 by decide), if_neg (show ¬ nI 10006 = 10002 by decide), if_neg (show ¬ nI 10006 = 10003 by decide), if_neg (show ¬ nI 10006 = 10004 by decide), if_neg (show ¬ nI 10006 = 10005 by decide), if_pos (show nI 10006 = 10006 from rfl)]
    rw [is_37 w]
  have vv : (if 10002 ≤ T a ∧ T a < 10007 then nI (T a - 10000) else -1) = nI 6 := by rw [if_pos (by omega), z]
  have sl : ev X (e + 39) 277 [vr (some 137)] hr = if hr.2.1 137 40 < 0 then bd X (e + 38) 277 137 [(0, vr (some 137)), (1, vi (nI 6))] [] hr else bd X (e + 38) 277 134 [(0, vr (some 137)), (1, vi (nI 6))] [] hr := by
    rw [s_ln92 (e := e + 37) K CR U (Nat.le_of_lt ha) (by omega) (by omega) (by omega), vv, b_277_92, if_pos (show (6 : Int32) < nI 7 by decide), if_neg (show ¬ nI 6 < 0 by decide), if_neg (show ¬ nI 6 = 5 by decide), if_pos (show nI 6 = 6 from rfl), gI_137_40 wr]
  have eg : hr.2.1 137 40 = if dt = true then nI u.dd else -1 := RFr.2.2.2.1
  cases hf : dt with
  | true =>
    rw [if_pos hf] at eg
    have hb := o.2.2.2.1
    obtain ⟨h', e1, X1⟩ := told1 (by rw [oMu, hf]; exact (oM_6 _ _ _ _ _).2)
    obtain ⟨g', f1, U1, m1⟩ := s_wr0 (X := X) (d := e + 37) CR K U (Nat.le_of_lt ha) (k := 3)
    refine Or.inr ⟨3 + 16 * P a, h', g', by omega, by omega, ?_, ?_, X1, LY.of Ar kpr U1 m1⟩
    · rw [rl, e1, av_cI_r, Option.bind_some, if_pos (show bI false = 0 from rfl), zb_0]
      rfl
    · rw [sl, eg, if_neg (nI_pos (by omega)), b_277_134, is_137 wr, show (3 : Int32) = nI 3 from rfl, f1, av_cV_r, Option.bind_some]
      exact s_lnF U1.1 (by omega) (by omega) U1.2.2.2.1
  | false =>
    rw [if_neg (by rw [hf]; decide)] at eg
    obtain ⟨h1, e1, y0, y1, y2, y3, y4, y5, y6, y7, y8⟩ := told0 (by rw [oMu, hf]; exact (oM_6 _ _ _ _ _).1.1) (by rw [oMu, hf]; exact (oM_6 _ _ _ _ _).1.2)
    have S1 : CS T u.R h1 h1 (a + 1) len := ⟨y0, agr.rfl, y2, y3, y4, y5⟩
    have g1 : WF (av_uI hr 137 7 (nI (a + 1))) := WF_uI wr
    have Ao : off false [] [(137, 7)] hr (av_uI hr 137 7 (nI (a + 1))) := agr.uI rfl agr.rfl
    have U1 : RS (av_uI hr 137 7 (nI (a + 1))) (av_uI hr 137 7 (nI (a + 1))) (a + 1) c 0 := ⟨g1, agr.rfl, uI_eq, by rw [uI_nk (by decide)]; exact r8, by rw [uI_nk (by decide)]; exact r31⟩
    have CR1 := CR.fr (Ao.fr (by decide))
    have Ar1 : offL hr0 (av_uI hr 137 7 (nI (a + 1))) := agr.tr Ar (Ao.up (by decide))
    have kp1 : kpR hr0 (av_uI hr 137 7 (nI (a + 1))) := kpr.tr (fun j _ => ⟨by rw [uI_ne (by decide)], by rw [uI_ne (by decide)]⟩) (Ao.fr (by decide))
    have rl2 : ev X (d + 40) 84 [vr (some 37), vr (some u.R)] hc = (av_cI ((av_cI (ev X (d + 38) 83 [vr (some 37), vi (nI 99)] h1)).bind fun q2 => if q2.1 = 0 then ((av_bz (0 : Int32)).bind fun w => av_rI w q2.2) else (av_pI q2.2 (some u.R) 6 3 (nI (T (a + 1)))).bind fun g3 => (av_bz (1 : Int32)).bind fun w => av_rI w g3)).bind fun q5 => if q5.1 = 0 then ((av_bz (0 : Int32)).bind fun w => av_rI w q5.2) else (av_bz (1 : Int32)).bind fun w => av_rI w q5.2 := by
      rw [rl, e1, av_cI_r, Option.bind_some, if_neg (show ¬ bI true = 0 by decide), is_37 y0, e_88, b_88_0, gI_37_7 y0, y3, is_37 y0]
      rfl
    have rr : ev X (e + 39) 277 [vr (some 137)] hr = (av_cI (ev X (e + 38) 276 [vr (some 137), vi 1, vi (nI 99)] (av_uI hr 137 7 (nI (a + 1))))).bind fun q4 => (av_pI q4.2 (some 137) 11 40 q4.1).bind fun g5 => av_rV g5 := by
      rw [sl, eg, if_pos (show (-1 : Int32) < 0 by decide), b_277_137, gI_137_8 wr, r8, if_neg (show ¬ (0 : Int32) < nI 0 by decide), gI_137_7 wr, r7, nI_1, pI_137 wr, if_neg (show ¬ nI 6 = 5 by decide), if_pos (show nI 6 = 6 from rfl), is_137 g1]
      rfl
    obtain ⟨n1, n2, n3⟩ := c_num (X := X) (d := d + 36) (b := 99) hR K y8 S1 ha (by omega) (by omega)
    obtain ⟨s1, s2, s3⟩ := s_num (X := X) (d := e + 36) (b := 99) K CR1 U1 ha (by omega)
    by_cases t1 : 1 ≤ T (a + 1) ∧ T (a + 1) ≤ 99
    · obtain ⟨h2, e2, ⟨x0, x1, x2, x3, x4, x5⟩, o2⟩ := n1 t1
      have an : a + 1 < n := K.lt ha (by omega)
      have g2 : WF (av_uI (av_uI hr 137 7 (nI (a + 1))) 137 7 (nI (a + 1 + 1))) := WF_uI g1
      have A2 : agr (cL u.R) hc0 h2 := y1.LF x1
      have L2 := y6.byF hR x1
      refine Or.inl ⟨u.setd (T (a + 1)), rt, true, a + 1 + 1, len, c, av_uI h2 u.R 3 (nI (T (a + 1))), av_uI (av_uI (av_uI hr 137 7 (nI (a + 1))) 137 7 (nI (a + 1 + 1))) 137 40 (nI (T (a + 1))), rfl, ⟨o.1, o.2.1, o.2.2.1, t1, o.2.2.2.2.1, o.2.2.2.2.2.1, fun q => absurd q (by decide)⟩, by omega, an, by omega, by omega, ?_, ?_, ⟨WF_uI x0, agr.uI cL_R A2, ?_, ?_, ?_, ?_, ?_, ?_⟩, ⟨WF_uI g2, ?_, ?_, ?_, ?_, ?_, ?_, ?_⟩⟩
      · rw [rl2, e2, av_cI_r, Option.bind_some, if_neg (show ¬ bI true = 0 by decide), pI_Ru hR x0, zb_1, av_cI_r, Option.bind_some, if_neg (show ¬ (1 : Int32) = 0 by decide), zb_1]
        rfl
      · rw [rr, s1 t1, av_cI_r, Option.bind_some, pI_137 g2]
      · rw [uI_ne (by omega)]; exact x2
      · rw [uI_ne (by omega)]; exact x3
      · rw [uI_ne (by omega)]; exact x4
      · show (av_uI h2 u.R 3 (nI (T (a + 1)))).2.1 u.R 9 = _
        rw [uI_nk (by decide)]; exact x5
      · obtain ⟨l1, l2, l3, l4, l5, l6⟩ := L2
        have ll : ∀ q, q ≠ 3 → (av_uI h2 u.R 3 (nI (T (a + 1)))).2.1 u.R q = h2.2.1 u.R q := fun q hq => uI_nk hq
        refine ⟨?_, ?_, ?_, ?_, ?_, ?_⟩
        · rw [uI_ne (by omega)]; exact l1
        · exact (ll 0 (by decide)).trans l2
        · exact (ll 1 (by decide)).trans l3
        · exact (ll 2 (by decide)).trans l4
        · exact uI_eq
        · exact (ll 4 (by decide)).trans l6
      · exact KC.uI (u := u) (KC.byF hR y7 x1 o2) (by omega) (by omega) (by omega)
      · exact agr.uI rfl (agr.uI rfl Ar1)
      · rw [uI_nk (by decide), uI_eq]
      · rw [uI_nk (by decide), uI_nk (by decide), uI_nk (by decide)]; exact r8
      · rw [uI_nk (by decide), uI_nk (by decide), uI_nk (by decide)]; exact r31
      · exact kp1.tr (fun j _ => ⟨by rw [uI_ne (by decide), uI_ne (by decide)], by rw [uI_ne (by decide), uI_ne (by decide)]⟩) (agr.uI rfl (agr.uI rfl agr.rfl))
      · obtain ⟨l1, l2, l3, l4, l5⟩ := RFr
        refine ⟨?_, ?_, ?_, ?_, ?_⟩
        · rw [uI_ne (by decide), uI_ne (by decide), uI_ne (by decide)]; exact l1
        · rw [uI_ne (by decide), uI_ne (by decide), uI_ne (by decide)]; exact l2
        · rw [uI_nk (by decide), uI_nk (by decide), uI_nk (by decide)]; exact l3
        · rw [uI_eq, if_pos rfl]; rfl
        · rw [uI_nk (by decide), uI_nk (by decide), uI_nk (by decide)]; exact l5
      · exact KR.cg (u := u) kr (agr.uI rfl (agr.uI rfl (agr.uI rfl agr.rfl)))
    · by_cases t2 : T (a + 1) < 10000
      · obtain ⟨h2, e2, B2⟩ := n2 t2 t1
        obtain ⟨g2, f2, U2, m2⟩ := s2 t2 t1
        refine Or.inr ⟨4 + 16 * P (a + 1), h2, av_uI g2 137 40 0, by omega, by omega, ?_, ?_, LX.of y1 B2, (LY.of Ar1 kp1 U2 m2).w39 (by omega)⟩
        · rw [rl2, e2, av_cI_r, Option.bind_some, if_pos (show bI false = 0 from rfl), zb_0, av_cI_r, Option.bind_some, if_pos rfl, zb_0]
          rfl
        · rw [rr, f2, av_cI_r, Option.bind_some, pI_137 U2.1]
      · obtain ⟨h2, e2, B2⟩ := n3 t2
        obtain ⟨g2, f2, U2, m2⟩ := s3 t2
        refine Or.inr ⟨1 + 16 * P (a + 1), h2, av_uI g2 137 40 0, by omega, by omega, ?_, ?_, LX.of y1 B2, (LY.of Ar1 kp1 U2 m2).w39 (by omega)⟩
        · rw [rl2, e2, av_cI_r, Option.bind_some, if_pos (show bI false = 0 from rfl), zb_0, av_cI_r, Option.bind_some, if_pos rfl, zb_0]
          rfl
        · rw [rr, f2, av_cI_r, Option.bind_some, pI_137 U2.1]
end
