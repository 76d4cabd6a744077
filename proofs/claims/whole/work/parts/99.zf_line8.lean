/-! the reader: stop and quiet -/
section
variable {X : av_X} {d e : Nat} {T P : Nat → Nat} {n : Nat} {hc0 hr0 hc hr : av_H} {u : Ru} {rt dt : Bool} {a len c : Nat}
theorem oMu_put_s {es : List Nat} {c p : Nat} (hp : p < 12) : oMu (u.put p es c) rt dt = oMu u rt dt := by
  show oM (u.q 0 || decide (12 + 0 = p)) (u.q 1 || decide (12 + 1 = p)) (u.q 2 || decide (12 + 2 = p)) rt dt u.ky = _
  rw [decide_eq_false (show ¬ 12 + 0 = p by omega), decide_eq_false (show ¬ 12 + 1 = p by omega), decide_eq_false (show ¬ 12 + 2 = p by omega), Bool.or_false, Bool.or_false, Bool.or_false]
  rfl
/-- the reference at a stop or a quiet -/
theorem s_stop (K : TK T P n) {h : av_H} (C : TR T P n h) (U : RS h h a c 0) (ha : a ≤ n) {s : Nat} (hs : s < 2) (z : T a = 10000 + s) : ev X (e + 2) 277 [vr (some 137)] h = bd X (e + 1) 277 36 [(0, vr (some 137))] [vi (nI s)] h := by
  have j29 : ev X (e + 2) 277 [vr (some 137)] h = bd X (e + 1) 277 29 [(0, vr (some 137))] [] h := by
    rw [e_277, b_277_0, is_137 U.1, show (22 : Int32) = nI 22 from rfl, s_isW C K U ha (by omega) (by decide), av_cI_r, Option.bind_some]
    dsimp only
    rw [if_pos (dz (fun q => by have := q.2; rw [z, show wcN 22 = 10007 from rfl] at this; omega)), is_137 U.1, show (0 : Int32) = nI 0 from rfl, s_isW C K U ha (by omega) (by decide), av_cI_r, Option.bind_some]
    dsimp only
    by_cases s0 : s = 0
    · rw [if_neg (show ¬ bI (decide (0 = 0 ∧ T a = wcN 0)) = nI 0 from do' ⟨rfl, by rw [z, s0]; rfl⟩)]
    · have s1 : s = 1 := by omega
      rw [if_pos (show bI (decide (0 = 0 ∧ T a = wcN 0)) = nI 0 from dz (fun q => by have := q.2; rw [z, s1, show wcN 0 = 10000 from rfl] at this; omega)), is_137 U.1, show (1 : Int32) = nI 1 from rfl, s_isW C K U ha (by omega) (by decide), av_cI_r, Option.bind_some]
      dsimp only
      rw [if_neg (show ¬ bI (decide (0 = 0 ∧ T a = wcN 1)) = nI 0 from do' ⟨rfl, by rw [z, s1]; rfl⟩)]
  rw [j29, b_277_29, is_137 U.1, show (0 : Int32) = nI 0 from rfl, s_isW C K U ha (by omega) (by decide), av_cI_r, Option.bind_some]
  dsimp only
  by_cases s0 : s = 0
  · rw [if_neg (show ¬ bI (decide (0 = 0 ∧ T a = wcN 0)) = nI 0 from do' ⟨rfl, by rw [z, s0]; rfl⟩), s0]
  · have s1 : s = 1 := by omega
    rw [if_pos (show bI (decide (0 = 0 ∧ T a = wcN 0)) = nI 0 from dz (fun q => by have := q.2; rw [z, s1, show wcN 0 = 10000 from rfl] at this; omega)), s1]
    rfl
theorem ln_w0 (H : LnH T P n hc0 hr0 u rt dt hc hr a len c) (z : T a = 10000) : LnR T n hc0 hr0 u.R a (ev X (d + 40) 84 [vr (some 37), vr (some u.R)] hc) (ev X (e + 39) 277 [vr (some 137)] hr) := by
  have S := H.S
  have C := H.C
  have U := H.U
  have CR := H.CR
  obtain ⟨hR, o, K, TW, C0, _, ha, hl, hcc, ⟨w, A, c6, c7, c8, c9, LFc, kc⟩, ⟨wr, Ar, r7, r8, r31, kpr, RFr, kr⟩⟩ := H
  have kn := K.1
  have kp := K.2.2.2 a (Nat.le_of_lt ha)
  have kp' := K.2.2.2 (a + 1) ha
  have o0 := o.1
  have o1 := o.2.1
  have nN : u.R ≠ 37 := by omega
  have lN : hc.2.1 u.R 0 = nI u.n0 := LFc.2.1
  have rN : hr.2.1 163 (2 + 0) = nI u.n0 := RFr.1
  have sl := s_stop (X := X) (e := e + 37) K CR U (Nat.le_of_lt ha) (s := 0) (by omega) z
  have rl : ev X (d + 40) 84 [vr (some 37), vr (some u.R)] hc = (av_cI (ev X (d + 39) 85 [vr (some 37), vr (some u.R)] hc)).bind fun q2 => (av_bz q2.1).bind fun w => av_rI w q2.2 := by
    rw [e_84, b_84_0, gI_37_7 w, c7, z]
    rw [if_pos (show nI 10000 = 10000 from rfl)]
    rw [is_37 w]
  by_cases full : u.n0 = 6
  · obtain ⟨h', e1, B1⟩ := c_rfs (X := X) (d := d + 37) hR K C S (Nat.le_of_lt ha) (by omega) (k := 5)
    obtain ⟨g', f1, U1, m1⟩ := s_wr0 (X := X) (d := e + 37) CR K U (Nat.le_of_lt ha) (k := 5)
    refine Or.inr ⟨5 + 16 * P a, h', g', by omega, by omega, ?_, ?_, LX.of A B1, LY.of Ar kpr U1 m1⟩
    · rw [rl, e_85, b_85_0, (gI_Ru hR w _).1, lN, full, if_neg (show ¬ nI 6 < 6 by decide), is_37 w, show (5 : Int32) = nI 5 from rfl, e1, av_cI_r, Option.bind_some, zb_b, av_cI_r, Option.bind_some, zb_b]
    · rw [sl, b_277_36, gR_137_34 wr, show (2 : Int32) = nI 2 from rfl, nI_add, ld_163 wr (by omega), rN, full, if_pos (show nI 6 = 6 from rfl), is_137 wr, show (5 : Int32) = nI 5 from rfl, f1, av_cV_r, Option.bind_some]
  · have lt6 : u.n0 < 6 := by omega
    obtain ⟨h1, e1, ⟨x0, x1, x2, x3, x4, x5⟩, t1⟩ := c_tkT (X := X) (d := d + 37) hR K C S ha
    have LF1 := LFc.byF hR x1
    have kc1 := KC.byF hR kc x1 t1
    have A1 : agr (cL u.R) hc0 h1 := A.LF x1
    have lN1 : h1.2.1 u.R 0 = nI u.n0 := LF1.2.1
    have w2 : WF (av_uI h1 u.R 0 (nI (u.n0 + 1))) := WF_uI x0
    have A2 : agr (cL u.R) hc0 (av_uI h1 u.R 0 (nI (u.n0 + 1))) := agr.uI cL_R A1
    have C2 := C0.fL hR A2
    have S2 : CS T u.R (av_uI h1 u.R 0 (nI (u.n0 + 1))) (av_uI h1 u.R 0 (nI (u.n0 + 1))) (a + 1) len := ⟨w2, agr.rfl, by rw [uI_ne (Ne.symm nN)]; exact x2, by rw [uI_ne (Ne.symm nN)]; exact x3, by rw [uI_ne (Ne.symm nN)]; exact x4, by rw [uI_nk (by decide)]; exact x5⟩
    have LF2 : LF (u.put u.n0 [] 0) (oMu u rt dt) (av_uI h1 u.R 0 (nI (u.n0 + 1))) := by
      obtain ⟨l1, l2, l3, l4, l5, l6⟩ := LF1
      have ll : ∀ q, q ≠ 0 → (av_uI h1 u.R 0 (nI (u.n0 + 1))).2.1 u.R q = h1.2.1 u.R q := fun q hq => uI_nk hq
      have le : (av_uI h1 u.R 0 (nI (u.n0 + 1))).2.1 u.R 0 = nI (u.n0 + 1) := uI_eq
      refine ⟨by rw [uI_ne (Ne.symm nN)]; exact l1, ?_, ?_, (ll 2 (by decide)).trans l4, (ll 3 (by decide)).trans l5, (ll 4 (by decide)).trans l6⟩
      · show (av_uI h1 u.R 0 (nI (u.n0 + 1))).2.1 u.R 0 = nI (if u.n0 < 6 then u.n0 + 1 else u.n0)
        rw [if_pos lt6]; exact le
      · show (av_uI h1 u.R 0 (nI (u.n0 + 1))).2.1 u.R 1 = nI (if 6 ≤ u.n0 ∧ u.n0 < 12 then u.n1 + 1 else u.n1)
        rw [if_neg (by omega)]; exact (ll 1 (by decide)).trans l3
    have kc2 : KC u (av_uI h1 u.R 0 (nI (u.n0 + 1))) len := kc1.uI (by omega) (by omega) (by omega)
    have rl2 : ev X (d + 40) 84 [vr (some 37), vr (some u.R)] hc = (av_cI ((av_cI (ev X (d + 38) 81 [vr (some 37), vi (nI 10008)] (av_uI h1 u.R 0 (nI (u.n0 + 1))))).bind fun q5 => if q5.1 = 0 then ((av_bz (0 : Int32)).bind fun w => av_rI w q5.2) else (av_gI q5.2 (some u.R) 6 0).bind fun x6 => if av_is q5.2 (some 37) 5 = true then ((av_cI (ev X (d + 38) 90 [vr (some 37), vr (some u.R), vi (x6 - (1 : Int32))] q5.2)).bind fun q7 => if q7.1 = 0 then ((av_bz (0 : Int32)).bind fun w => av_rI w q7.2) else (av_bz (1 : Int32)).bind fun w => av_rI w q7.2) else none)).bind fun q2 => (av_bz q2.1).bind fun w => av_rI w q2.2 := by
      rw [rl, e_85, b_85_0, (gI_Ru hR w _).1, lN, if_pos (show nI u.n0 < 6 from nI_lt (b := 6) lt6 (by omega)), is_37 w, e1, av_cV_r, Option.bind_some, (gI_Ru hR x0 _).1, lN1, pI_Ru hR x0, nI_1, is_37 w2]
      rfl
    have g1 : WF (av_uI hr 137 7 (nI (a + 1))) := WF_uI wr
    have Ao : off false [] [(137, 7)] hr (av_uI hr 137 7 (nI (a + 1))) := agr.uI rfl agr.rfl
    have U1 : RS (av_uI hr 137 7 (nI (a + 1))) (av_uI hr 137 7 (nI (a + 1))) (a + 1) c 0 := ⟨g1, agr.rfl, uI_eq, by rw [uI_nk (by decide)]; exact r8, by rw [uI_nk (by decide)]; exact r31⟩
    have CR1 := CR.fr (Ao.fr (by decide))
    have rr : ∀ g2, ev X (e + 38) 251 [vr (some 137), vi 7] (av_uI hr 137 7 (nI (a + 1))) = av_rV g2 → WF g2 → g2.2.1 163 (2 + 0) = nI u.n0 → g2.2.1 137 31 = nI c → ev X (e + 39) 277 [vr (some 137)] hr = (av_cV (ev X (e + 38) 278 [vr (some 137)] (av_uI (av_uI g2 164 (12 + u.n0) (nI c)) 163 (2 + 0) (nI (u.n0 + 1))))).bind fun q15 => av_rV q15 := fun g2 eg wg n2 c2 => by
      have wg1 : WF (av_uI g2 164 (12 + u.n0) (nI c)) := WF_uI wg
      have wg2 : WF (av_uI (av_uI g2 164 (12 + u.n0) (nI c)) 163 (2 + 0) (nI (u.n0 + 1))) := WF_uI wg1
      rw [sl, b_277_36, gR_137_34 wr, show (2 : Int32) = nI 2 from rfl, nI_add, ld_163 wr (by omega), rN, if_neg (show ¬ nI u.n0 = 6 from fun q => full ((nI_eq (b := 6) (by omega) (by omega)).mp q)), gI_137_7 wr, r7, nI_1, pI_137 wr, is_137 g1, eg, av_cV_r, Option.bind_some, gR_137_35 wg, gR_137_34 wg, ld_163 wg (by omega), n2, gI_137_31 wg, c2, show (12 : Int32) + 6 * nI 0 + nI u.n0 = nI (12 + u.n0) by rw [show (12 : Int32) + 6 * nI 0 = nI (12 + 6 * 0) from rfl, nI_add] <;> exact congrArg nI (by omega), st_164 wg (by omega), gR_137_34 wg1, ld_163 wg1 (by omega), uI_ne (by decide), n2, nI_1, st_163 wg1 (by omega), is_137 wg2]
    obtain ⟨p1, p0⟩ := c_pass (X := X) (d := d + 36) hR K C2 S2 ha (by omega) (t := 10008) (by omega)
    obtain ⟨v1, v0⟩ := s_when (X := X) (d := e + 35) K CR1 U1 ha
    -- what the reference's writing leaves
    have AW : ∀ g2 b F, RS (av_uI hr 137 7 (nI (a + 1))) g2 b c F → sm6 (av_uI hr 137 7 (nI (a + 1))) g2 → off false [161, 162, 163, 164] [(137, 7), (137, 8), (137, 31)] hr (av_uI (av_uI g2 164 (12 + u.n0) (nI c)) 163 (2 + 0) (nI (u.n0 + 1))) ∧ kpR hr0 (av_uI (av_uI g2 164 (12 + u.n0) (nI c)) 163 (2 + 0) (nI (u.n0 + 1))) ∧ g2.2.1 163 (2 + 0) = nI u.n0 ∧ RS (av_uI (av_uI g2 164 (12 + u.n0) (nI c)) 163 (2 + 0) (nI (u.n0 + 1))) (av_uI (av_uI g2 164 (12 + u.n0) (nI c)) 163 (2 + 0) (nI (u.n0 + 1))) b c F ∧ (∀ j, g2.2.1 161 j = hr.2.1 161 j ∧ g2.2.1 162 j = hr.2.1 162 j) ∧ agr (FP false [163, 164, 165] [(137, 39), (137, 40), (137, 42)]) hr g2 := fun g2 b F U2 m2 => by
      have hA : off false [161, 162] [(137, 7), (137, 8), (137, 31)] hr g2 := agr.tr (Ao.up (by decide)) U2.2.1
      have hA' : agr (FP false [163, 164, 165] [(137, 39), (137, 40), (137, 42)]) hr g2 := hA.fr (by decide)
      have m3 : ∀ j, g2.2.1 161 j = hr.2.1 161 j ∧ g2.2.1 162 j = hr.2.1 162 j := fun j => by
        rw [m2.1, m2.2, uI_ne (by decide), uI_ne (by decide)]
        exact ⟨rfl, rfl⟩
      obtain ⟨b0, b1, b2, b3, b4⟩ := U2
      refine ⟨agr.uI rfl (agr.uI rfl (hA.up (by decide))), ⟨fun j hj => ?_, fun j hj => ?_, fun j hj => ?_, fun j hj => ?_⟩, (hA'.I rfl).trans rN, ⟨WF_uI (WF_uI b0), agr.rfl, ?_, ?_, ?_⟩, m3, hA'⟩
      · rw [uI_ne (by decide), uI_ne (by decide), uI_ne (by decide), uI_ne (by decide), (m3 j).1, (m3 j).2]
        exact kpr.1 j hj
      · rw [uI_nk (by omega), uI_ne (by decide), hA'.I rfl]
        exact kpr.2.1 j hj
      · rw [uI_ne (by decide), uI_nk (by omega), hA'.I rfl]
        exact kpr.2.2.1 j hj
      · rw [uI_ne (by decide), uI_ne (by decide), hA'.I rfl]
        exact kpr.2.2.2 j hj
      · rw [uI_ne (by decide), uI_ne (by decide)]; exact b2
      · rw [uI_ne (by decide), uI_ne (by decide)]; exact b3
      · rw [uI_ne (by decide), uI_ne (by decide)]; exact b4
    by_cases t1 : T (a + 1) = 10008
    · obtain ⟨h3, e3, ⟨y0, y1, y2, y3, y4, y5⟩, o3⟩ := p1 t1
      obtain ⟨g2, f2, U2, m2⟩ := v1 t1
      have an : a + 1 < n := K.lt ha (by omega)
      have A3 : agr (cL u.R) hc0 h3 := A2.LF y1
      have lN3 : h3.2.1 u.R 0 = nI (u.n0 + 1) := (y1.I (by rcases hR with e | e <;> rw [e] <;> rfl)).trans uI_eq
      obtain ⟨k1, k2, k3, k4, k5, k6⟩ := AW g2 _ _ U2 m2
      have rr' := rr g2 f2 U2.1 k3 U2.2.2.2.2
      have RF2 : RFl (u.put u.n0 [] 0) rt dt (av_uI (av_uI g2 164 (12 + u.n0) (nI c)) 163 (2 + 0) (nI (u.n0 + 1))) := by
        obtain ⟨l1, l2, l3, l4, l5⟩ := RFr
        refine ⟨?_, ?_, ?_, ?_, ?_⟩
        · show _ = nI (if u.n0 < 6 then u.n0 + 1 else u.n0)
          rw [if_pos lt6, uI_eq]
        · show _ = nI (if 6 ≤ u.n0 ∧ u.n0 < 12 then u.n1 + 1 else u.n1)
          rw [if_neg (by omega), uI_nk (by decide), uI_ne (by decide), k6.I rfl]; exact l2
        · rw [uI_ne (by decide), uI_ne (by decide), k6.I rfl]; exact l3
        · rw [uI_ne (by decide), uI_ne (by decide), k6.I rfl]; exact l4
        · rw [uI_ne (by decide), uI_ne (by decide), k6.I rfl]; exact l5
      rcases ln_E (X := X) (d := d) (e := e) (hc0 := hc0) (hr0 := hr0) (rt := rt) (dt := dt) (m := oMu u rt dt) hR K TW (C0.fL hR A3) (CR.fr (k1.fr (by decide))) (p := u.n0) (a := a + 1 + 1) (by omega) ⟨o0, o1, Or.inl ⟨by omega, rfl⟩⟩ o.2.2.2.2.1 y0 A3 y2 y3 y4 y5 (LF.byF (u := u.put u.n0 [] 0) hR LF2 y1) (KC.byF hR kc2 y1 o3) k4.1 (agr.tr Ar (k1.up (by decide))) k4.2.2.1 k4.2.2.2.1 k4.2.2.2.2 k2 RF2 kr (by funext j; rw [uI_ne (by decide), uI_ne (by decide)]; exact (k5 j).1) (by funext j; rw [uI_ne (by decide), uI_ne (by decide)]; exact (k5 j).2) (fun k => by
          by_cases x : k = u.n0
          · rw [x, if_pos ⟨by omega, rfl⟩, uI_ne (by decide), uI_eq]
          · rw [if_neg (by omega), uI_ne (by decide), uI_nk (by omega)]; exact k6.I rfl) (fun k hk => by rw [if_neg (by omega), uI_ne (by decide), uI_ne (by decide)]; exact k6.I rfl) (by omega) (by omega) (by omega) with ⟨a', es, hc', hr', q1, q2, q3, q4, q5, q6, q7, q8, q9⟩ | ⟨F, hc', hr', q1, q2, q3, q4, q5, q6⟩
      · refine Or.inl ⟨u.put u.n0 es c, rt, dt, a', len + es.length, c + es.length + 1, hc', hr', rfl, ⟨?_, ?_, o.2.2.1, o.2.2.2.1, q5, o.2.2.2.2.2.1, o.2.2.2.2.2.2⟩, by omega, q2, q3, q4, ?_, ?_, by rw [oMu_put_s (by omega)]; exact q8, q9⟩
        · show (if u.n0 < 6 then u.n0 + 1 else u.n0) ≤ 6
          split <;> omega
        · show (if 6 ≤ u.n0 ∧ u.n0 < 12 then u.n1 + 1 else u.n1) ≤ 6
          split <;> omega
        · rw [rl2, e3, av_cI_r, Option.bind_some, if_neg (show ¬ bI true = 0 by decide), (gI_Ru hR y0 _).1, lN3, is_37 y0, show nI (u.n0 + 1) - 1 = nI u.n0 from pk_sub (a := u.n0 + 1) (b := 1) (by omega), q6, av_cI_r, Option.bind_some, if_neg (show ¬ bI true = 0 by decide), zb_1, av_cI_r, Option.bind_some, zb_1]
          rfl
        · rw [rr', q7, av_cV_r, Option.bind_some]
      · refine Or.inr ⟨F, hc', hr', q1, q2, ?_, ?_, q5, q6⟩
        · rw [rl2, e3, av_cI_r, Option.bind_some, if_neg (show ¬ bI true = 0 by decide), (gI_Ru hR y0 _).1, lN3, is_37 y0, show nI (u.n0 + 1) - 1 = nI u.n0 from pk_sub (a := u.n0 + 1) (b := 1) (by omega), q3, av_cI_r, Option.bind_some, if_pos (show bI false = 0 from rfl), zb_0, av_cI_r, Option.bind_some, zb_0]
          rfl
        · rw [rr', q4, av_cV_r, Option.bind_some]
    · obtain ⟨h3, e3, B3⟩ := p0 t1
      obtain ⟨g2, f2, U2, m2⟩ := v0 t1
      obtain ⟨k1, k2, k3, k4, k5, k6⟩ := AW g2 _ _ U2 m2
      have rr' := rr g2 f2 U2.1 k3 U2.2.2.2.2
      obtain ⟨g4, f4, U4, m4⟩ := s_whF (X := X) (e := e) K (CR.fr (k1.fr (by decide))) ha (by omega) (by omega) (by omega) k4
      refine Or.inr ⟨1 + 16 * P (a + 1), h3, g4, by omega, by omega, ?_, ?_, LX.of A2 B3, ⟨U4.1, offL.of (agr.tr Ar (k1.up (by decide))) U4.2.1, k2.tr (fun j hj => m4 j (by omega)) (U4.2.1.fr (by decide)), U4.2.2.2.1⟩⟩
      · rw [rl2, e3, av_cI_r, Option.bind_some, if_pos (show bI false = 0 from rfl), zb_0, av_cI_r, Option.bind_some, zb_0]
        rfl
      · rw [rr', f4, av_cV_r, Option.bind_some]
theorem ln_w1 (H : LnH T P n hc0 hr0 u rt dt hc hr a len c) (z : T a = 10001) : LnR T n hc0 hr0 u.R a (ev X (d + 40) 84 [vr (some 37), vr (some u.R)] hc) (ev X (e + 39) 277 [vr (some 137)] hr) := by
  have S := H.S
  have C := H.C
  have U := H.U
  have CR := H.CR
  obtain ⟨hR, o, K, TW, C0, _, ha, hl, hcc, ⟨w, A, c6, c7, c8, c9, LFc, kc⟩, ⟨wr, Ar, r7, r8, r31, kpr, RFr, kr⟩⟩ := H
  have kn := K.1
  have kp := K.2.2.2 a (Nat.le_of_lt ha)
  have kp' := K.2.2.2 (a + 1) ha
  have o0 := o.1
  have o1 := o.2.1
  have nN : u.R ≠ 37 := by omega
  have lN : hc.2.1 u.R 1 = nI u.n1 := LFc.2.2.1
  have rN : hr.2.1 163 (2 + 1) = nI u.n1 := RFr.2.1
  have sl := s_stop (X := X) (e := e + 37) K CR U (Nat.le_of_lt ha) (s := 1) (by omega) z
  have rl : ev X (d + 40) 84 [vr (some 37), vr (some u.R)] hc = (av_cI (ev X (d + 39) 86 [vr (some 37), vr (some u.R)] hc)).bind fun q2 => (av_bz q2.1).bind fun w => av_rI w q2.2 := by
    rw [e_84, b_84_0, gI_37_7 w, c7, z]
    rw [if_neg (show ¬ nI 10001 = 10000 by decide), if_pos (show nI 10001 = 10001 from rfl)]
    rw [is_37 w]
  by_cases full : u.n1 = 6
  · obtain ⟨h', e1, B1⟩ := c_rfs (X := X) (d := d + 37) hR K C S (Nat.le_of_lt ha) (by omega) (k := 5)
    obtain ⟨g', f1, U1, m1⟩ := s_wr0 (X := X) (d := e + 37) CR K U (Nat.le_of_lt ha) (k := 5)
    refine Or.inr ⟨5 + 16 * P a, h', g', by omega, by omega, ?_, ?_, LX.of A B1, LY.of Ar kpr U1 m1⟩
    · rw [rl, e_86, b_86_0, (gI_Ru hR w _).2, lN, full, if_neg (show ¬ nI 6 < 6 by decide), is_37 w, show (5 : Int32) = nI 5 from rfl, e1, av_cI_r, Option.bind_some, zb_b, av_cI_r, Option.bind_some, zb_b]
    · rw [sl, b_277_36, gR_137_34 wr, show (2 : Int32) = nI 2 from rfl, nI_add, ld_163 wr (by omega), rN, full, if_pos (show nI 6 = 6 from rfl), is_137 wr, show (5 : Int32) = nI 5 from rfl, f1, av_cV_r, Option.bind_some]
  · have lt6 : u.n1 < 6 := by omega
    obtain ⟨h1, e1, ⟨x0, x1, x2, x3, x4, x5⟩, t1⟩ := c_tkT (X := X) (d := d + 37) hR K C S ha
    have LF1 := LFc.byF hR x1
    have kc1 := KC.byF hR kc x1 t1
    have A1 : agr (cL u.R) hc0 h1 := A.LF x1
    have lN1 : h1.2.1 u.R 1 = nI u.n1 := LF1.2.2.1
    have w2 : WF (av_uI h1 u.R 1 (nI (u.n1 + 1))) := WF_uI x0
    have A2 : agr (cL u.R) hc0 (av_uI h1 u.R 1 (nI (u.n1 + 1))) := agr.uI cL_R A1
    have C2 := C0.fL hR A2
    have S2 : CS T u.R (av_uI h1 u.R 1 (nI (u.n1 + 1))) (av_uI h1 u.R 1 (nI (u.n1 + 1))) (a + 1) len := ⟨w2, agr.rfl, by rw [uI_ne (Ne.symm nN)]; exact x2, by rw [uI_ne (Ne.symm nN)]; exact x3, by rw [uI_ne (Ne.symm nN)]; exact x4, by rw [uI_nk (by decide)]; exact x5⟩
    have LF2 : LF (u.put (6 + u.n1) [] 0) (oMu u rt dt) (av_uI h1 u.R 1 (nI (u.n1 + 1))) := by
      obtain ⟨l1, l2, l3, l4, l5, l6⟩ := LF1
      have ll : ∀ q, q ≠ 1 → (av_uI h1 u.R 1 (nI (u.n1 + 1))).2.1 u.R q = h1.2.1 u.R q := fun q hq => uI_nk hq
      have le : (av_uI h1 u.R 1 (nI (u.n1 + 1))).2.1 u.R 1 = nI (u.n1 + 1) := uI_eq
      refine ⟨by rw [uI_ne (Ne.symm nN)]; exact l1, ?_, ?_, (ll 2 (by decide)).trans l4, (ll 3 (by decide)).trans l5, (ll 4 (by decide)).trans l6⟩
      · show (av_uI h1 u.R 1 (nI (u.n1 + 1))).2.1 u.R 0 = nI (if (6 + u.n1) < 6 then u.n0 + 1 else u.n0)
        rw [if_neg (by omega)]; exact (ll 0 (by decide)).trans l2
      · show (av_uI h1 u.R 1 (nI (u.n1 + 1))).2.1 u.R 1 = nI (if 6 ≤ (6 + u.n1) ∧ (6 + u.n1) < 12 then u.n1 + 1 else u.n1)
        rw [if_pos (by omega)]; exact le
    have kc2 : KC u (av_uI h1 u.R 1 (nI (u.n1 + 1))) len := kc1.uI (by omega) (by omega) (by omega)
    have rl2 : ev X (d + 40) 84 [vr (some 37), vr (some u.R)] hc = (av_cI ((av_cI (ev X (d + 38) 81 [vr (some 37), vi (nI 10008)] (av_uI h1 u.R 1 (nI (u.n1 + 1))))).bind fun q5 => if q5.1 = 0 then ((av_bz (0 : Int32)).bind fun w => av_rI w q5.2) else (av_gI q5.2 (some u.R) 6 1).bind fun x6 => if av_is q5.2 (some 37) 5 = true then ((av_cI (ev X (d + 38) 90 [vr (some 37), vr (some u.R), vi (((6 : Int32) + x6) - (1 : Int32))] q5.2)).bind fun q7 => if q7.1 = 0 then ((av_bz (0 : Int32)).bind fun w => av_rI w q7.2) else (av_bz (1 : Int32)).bind fun w => av_rI w q7.2) else none)).bind fun q2 => (av_bz q2.1).bind fun w => av_rI w q2.2 := by
      rw [rl, e_86, b_86_0, (gI_Ru hR w _).2, lN, if_pos (show nI u.n1 < 6 from nI_lt (b := 6) lt6 (by omega)), is_37 w, e1, av_cV_r, Option.bind_some, (gI_Ru hR x0 _).2, lN1, pI_Ru hR x0, nI_1, is_37 w2]
      rfl
    have g1 : WF (av_uI hr 137 7 (nI (a + 1))) := WF_uI wr
    have Ao : off false [] [(137, 7)] hr (av_uI hr 137 7 (nI (a + 1))) := agr.uI rfl agr.rfl
    have U1 : RS (av_uI hr 137 7 (nI (a + 1))) (av_uI hr 137 7 (nI (a + 1))) (a + 1) c 0 := ⟨g1, agr.rfl, uI_eq, by rw [uI_nk (by decide)]; exact r8, by rw [uI_nk (by decide)]; exact r31⟩
    have CR1 := CR.fr (Ao.fr (by decide))
    have rr : ∀ g2, ev X (e + 38) 251 [vr (some 137), vi 7] (av_uI hr 137 7 (nI (a + 1))) = av_rV g2 → WF g2 → g2.2.1 163 (2 + 1) = nI u.n1 → g2.2.1 137 31 = nI c → ev X (e + 39) 277 [vr (some 137)] hr = (av_cV (ev X (e + 38) 278 [vr (some 137)] (av_uI (av_uI g2 164 (12 + (6 + u.n1)) (nI c)) 163 (2 + 1) (nI (u.n1 + 1))))).bind fun q15 => av_rV q15 := fun g2 eg wg n2 c2 => by
      have wg1 : WF (av_uI g2 164 (12 + (6 + u.n1)) (nI c)) := WF_uI wg
      have wg2 : WF (av_uI (av_uI g2 164 (12 + (6 + u.n1)) (nI c)) 163 (2 + 1) (nI (u.n1 + 1))) := WF_uI wg1
      rw [sl, b_277_36, gR_137_34 wr, show (2 : Int32) = nI 2 from rfl, nI_add, ld_163 wr (by omega), rN, if_neg (show ¬ nI u.n1 = 6 from fun q => full ((nI_eq (b := 6) (by omega) (by omega)).mp q)), gI_137_7 wr, r7, nI_1, pI_137 wr, is_137 g1, eg, av_cV_r, Option.bind_some, gR_137_35 wg, gR_137_34 wg, ld_163 wg (by omega), n2, gI_137_31 wg, c2, show (12 : Int32) + 6 * nI 1 + nI u.n1 = nI (12 + (6 + u.n1)) by rw [show (12 : Int32) + 6 * nI 1 = nI (12 + 6 * 1) from rfl, nI_add] <;> exact congrArg nI (by omega), st_164 wg (by omega), gR_137_34 wg1, ld_163 wg1 (by omega), uI_ne (by decide), n2, nI_1, st_163 wg1 (by omega), is_137 wg2]
    obtain ⟨p1, p0⟩ := c_pass (X := X) (d := d + 36) hR K C2 S2 ha (by omega) (t := 10008) (by omega)
    obtain ⟨v1, v0⟩ := s_when (X := X) (d := e + 35) K CR1 U1 ha
    -- what the reference's writing leaves
    have AW : ∀ g2 b F, RS (av_uI hr 137 7 (nI (a + 1))) g2 b c F → sm6 (av_uI hr 137 7 (nI (a + 1))) g2 → off false [161, 162, 163, 164] [(137, 7), (137, 8), (137, 31)] hr (av_uI (av_uI g2 164 (12 + (6 + u.n1)) (nI c)) 163 (2 + 1) (nI (u.n1 + 1))) ∧ kpR hr0 (av_uI (av_uI g2 164 (12 + (6 + u.n1)) (nI c)) 163 (2 + 1) (nI (u.n1 + 1))) ∧ g2.2.1 163 (2 + 1) = nI u.n1 ∧ RS (av_uI (av_uI g2 164 (12 + (6 + u.n1)) (nI c)) 163 (2 + 1) (nI (u.n1 + 1))) (av_uI (av_uI g2 164 (12 + (6 + u.n1)) (nI c)) 163 (2 + 1) (nI (u.n1 + 1))) b c F ∧ (∀ j, g2.2.1 161 j = hr.2.1 161 j ∧ g2.2.1 162 j = hr.2.1 162 j) ∧ agr (FP false [163, 164, 165] [(137, 39), (137, 40), (137, 42)]) hr g2 := fun g2 b F U2 m2 => by
      have hA : off false [161, 162] [(137, 7), (137, 8), (137, 31)] hr g2 := agr.tr (Ao.up (by decide)) U2.2.1
      have hA' : agr (FP false [163, 164, 165] [(137, 39), (137, 40), (137, 42)]) hr g2 := hA.fr (by decide)
      have m3 : ∀ j, g2.2.1 161 j = hr.2.1 161 j ∧ g2.2.1 162 j = hr.2.1 162 j := fun j => by
        rw [m2.1, m2.2, uI_ne (by decide), uI_ne (by decide)]
        exact ⟨rfl, rfl⟩
      obtain ⟨b0, b1, b2, b3, b4⟩ := U2
      refine ⟨agr.uI rfl (agr.uI rfl (hA.up (by decide))), ⟨fun j hj => ?_, fun j hj => ?_, fun j hj => ?_, fun j hj => ?_⟩, (hA'.I rfl).trans rN, ⟨WF_uI (WF_uI b0), agr.rfl, ?_, ?_, ?_⟩, m3, hA'⟩
      · rw [uI_ne (by decide), uI_ne (by decide), uI_ne (by decide), uI_ne (by decide), (m3 j).1, (m3 j).2]
        exact kpr.1 j hj
      · rw [uI_nk (by omega), uI_ne (by decide), hA'.I rfl]
        exact kpr.2.1 j hj
      · rw [uI_ne (by decide), uI_nk (by omega), hA'.I rfl]
        exact kpr.2.2.1 j hj
      · rw [uI_ne (by decide), uI_ne (by decide), hA'.I rfl]
        exact kpr.2.2.2 j hj
      · rw [uI_ne (by decide), uI_ne (by decide)]; exact b2
      · rw [uI_ne (by decide), uI_ne (by decide)]; exact b3
      · rw [uI_ne (by decide), uI_ne (by decide)]; exact b4
    by_cases t1 : T (a + 1) = 10008
    · obtain ⟨h3, e3, ⟨y0, y1, y2, y3, y4, y5⟩, o3⟩ := p1 t1
      obtain ⟨g2, f2, U2, m2⟩ := v1 t1
      have an : a + 1 < n := K.lt ha (by omega)
      have A3 : agr (cL u.R) hc0 h3 := A2.LF y1
      have lN3 : h3.2.1 u.R 1 = nI (u.n1 + 1) := (y1.I (by rcases hR with e | e <;> rw [e] <;> rfl)).trans uI_eq
      obtain ⟨k1, k2, k3, k4, k5, k6⟩ := AW g2 _ _ U2 m2
      have rr' := rr g2 f2 U2.1 k3 U2.2.2.2.2
      have RF2 : RFl (u.put (6 + u.n1) [] 0) rt dt (av_uI (av_uI g2 164 (12 + (6 + u.n1)) (nI c)) 163 (2 + 1) (nI (u.n1 + 1))) := by
        obtain ⟨l1, l2, l3, l4, l5⟩ := RFr
        refine ⟨?_, ?_, ?_, ?_, ?_⟩
        · show _ = nI (if (6 + u.n1) < 6 then u.n0 + 1 else u.n0)
          rw [if_neg (by omega), uI_nk (by decide), uI_ne (by decide), k6.I rfl]; exact l1
        · show _ = nI (if 6 ≤ (6 + u.n1) ∧ (6 + u.n1) < 12 then u.n1 + 1 else u.n1)
          rw [if_pos (by omega), uI_eq]
        · rw [uI_ne (by decide), uI_ne (by decide), k6.I rfl]; exact l3
        · rw [uI_ne (by decide), uI_ne (by decide), k6.I rfl]; exact l4
        · rw [uI_ne (by decide), uI_ne (by decide), k6.I rfl]; exact l5
      rcases ln_E (X := X) (d := d) (e := e) (hc0 := hc0) (hr0 := hr0) (rt := rt) (dt := dt) (m := oMu u rt dt) hR K TW (C0.fL hR A3) (CR.fr (k1.fr (by decide))) (p := (6 + u.n1)) (a := a + 1 + 1) (by omega) ⟨o0, o1, Or.inr (Or.inl ⟨by omega, by omega, rfl⟩)⟩ o.2.2.2.2.1 y0 A3 y2 y3 y4 y5 (LF.byF (u := u.put (6 + u.n1) [] 0) hR LF2 y1) (KC.byF hR kc2 y1 o3) k4.1 (agr.tr Ar (k1.up (by decide))) k4.2.2.1 k4.2.2.2.1 k4.2.2.2.2 k2 RF2 kr (by funext j; rw [uI_ne (by decide), uI_ne (by decide)]; exact (k5 j).1) (by funext j; rw [uI_ne (by decide), uI_ne (by decide)]; exact (k5 j).2) (fun k => by
          by_cases x : k = (6 + u.n1)
          · rw [x, if_pos ⟨by omega, rfl⟩, uI_ne (by decide), uI_eq]
          · rw [if_neg (by omega), uI_ne (by decide), uI_nk (by omega)]; exact k6.I rfl) (fun k hk => by rw [if_neg (by omega), uI_ne (by decide), uI_ne (by decide)]; exact k6.I rfl) (by omega) (by omega) (by omega) with ⟨a', es, hc', hr', q1, q2, q3, q4, q5, q6, q7, q8, q9⟩ | ⟨F, hc', hr', q1, q2, q3, q4, q5, q6⟩
      · refine Or.inl ⟨u.put (6 + u.n1) es c, rt, dt, a', len + es.length, c + es.length + 1, hc', hr', rfl, ⟨?_, ?_, o.2.2.1, o.2.2.2.1, q5, o.2.2.2.2.2.1, o.2.2.2.2.2.2⟩, by omega, q2, q3, q4, ?_, ?_, by rw [oMu_put_s (by omega)]; exact q8, q9⟩
        · show (if (6 + u.n1) < 6 then u.n0 + 1 else u.n0) ≤ 6
          split <;> omega
        · show (if 6 ≤ (6 + u.n1) ∧ (6 + u.n1) < 12 then u.n1 + 1 else u.n1) ≤ 6
          split <;> omega
        · rw [rl2, e3, av_cI_r, Option.bind_some, if_neg (show ¬ bI true = 0 by decide), (gI_Ru hR y0 _).2, lN3, is_37 y0, show (6 : Int32) + nI (u.n1 + 1) - 1 = nI (6 + u.n1) by rw [show (6 : Int32) = nI 6 from rfl, nI_add]; exact pk_sub (a := 6 + (u.n1 + 1)) (b := 1) (by omega), q6, av_cI_r, Option.bind_some, if_neg (show ¬ bI true = 0 by decide), zb_1, av_cI_r, Option.bind_some, zb_1]
          rfl
        · rw [rr', q7, av_cV_r, Option.bind_some]
      · refine Or.inr ⟨F, hc', hr', q1, q2, ?_, ?_, q5, q6⟩
        · rw [rl2, e3, av_cI_r, Option.bind_some, if_neg (show ¬ bI true = 0 by decide), (gI_Ru hR y0 _).2, lN3, is_37 y0, show (6 : Int32) + nI (u.n1 + 1) - 1 = nI (6 + u.n1) by rw [show (6 : Int32) = nI 6 from rfl, nI_add]; exact pk_sub (a := 6 + (u.n1 + 1)) (b := 1) (by omega), q3, av_cI_r, Option.bind_some, if_pos (show bI false = 0 from rfl), zb_0, av_cI_r, Option.bind_some, zb_0]
          rfl
        · rw [rr', q4, av_cV_r, Option.bind_some]
    · obtain ⟨h3, e3, B3⟩ := p0 t1
      obtain ⟨g2, f2, U2, m2⟩ := v0 t1
      obtain ⟨k1, k2, k3, k4, k5, k6⟩ := AW g2 _ _ U2 m2
      have rr' := rr g2 f2 U2.1 k3 U2.2.2.2.2
      obtain ⟨g4, f4, U4, m4⟩ := s_whF (X := X) (e := e) K (CR.fr (k1.fr (by decide))) ha (by omega) (by omega) (by omega) k4
      refine Or.inr ⟨1 + 16 * P (a + 1), h3, g4, by omega, by omega, ?_, ?_, LX.of A2 B3, ⟨U4.1, offL.of (agr.tr Ar (k1.up (by decide))) U4.2.1, k2.tr (fun j hj => m4 j (by omega)) (U4.2.1.fr (by decide)), U4.2.2.2.1⟩⟩
      · rw [rl2, e3, av_cI_r, Option.bind_some, if_pos (show bI false = 0 from rfl), zb_0, av_cI_r, Option.bind_some, zb_0]
        rfl
      · rw [rr', f4, av_cV_r, Option.bind_some]
end
