/-! a row of drops tried -/
def trO (h : av_H) (m0 m : Nat) (D : Nat → Nat → Nat) (N : Nat → Nat) : Prop := h.2.2.1 219 0 = -1 ∧ h.2.2.1 219 1 = -1 ∧ h.2.2.1 219 2 = sL (fun i => (nI (D i 16)).toInt64) m0 (m - m0) ∧ h.2.2.1 219 3 = sL (fun i => (nI (D i 6)).toInt64) m0 (m - m0) ∧ ∀ j, j < 2880 → h.2.1 218 j = bI (mkP D N m0 (m - m0) j)
def trF (h : av_H) (f : Int32) (m0 m : Nat) (D : Nat → Nat → Nat) (N : Nat → Nat) : Prop := (∀ q, q < 4 → h.2.2.1 219 q = trA q f m0 m D N) ∧ h.2.2.1 219 4 = 0 ∧ ∀ j, j < 2880 → h.2.1 218 j = bI (mkP D N m0 (m - m0) j)
theorem trO.fr {h h' : av_H} {m0 m : Nat} {D : Nat → Nat → Nat} {N : Nat → Nat} (T : trO h m0 m D N) (A : agr (FP false [218, 219] []) h h') : trO h' m0 m D N := by
  obtain ⟨t0, t1, t2, t3, t4⟩ := T
  exact ⟨(A.L rfl).trans t0, (A.L rfl).trans t1, (A.L rfl).trans t2, (A.L rfl).trans t3, fun j hj => (A.I rfl).trans (t4 j hj)⟩
theorem WF_sC {h : av_H} {a : Nat} {f : Nat → Int32} (w : WF h) : WF (setC h a f) := w
theorem lg_n : ∀ r, r < 13 → ¬ lg_cmp (nI r).toInt64 0 < 0 := by decide +kernel
section
variable {X : av_X} {d : Nat}
/-- the end of the walk over the row -/
theorem try_e {h0 hr : av_H} {r m m0 : Nat} {f v1 : Int32} {D : Nat → Nat → Nat} {M N V : Nat → Nat} (S : SR h0 hr m D M N V) (T : trF (av_uL hr 219 4 0) f m0 m D N) (k : (bd X (d + 7) 369 60 [(0, vr (some 137)), (1, vi v1), (2, vi (nI r))] [] hr = ((av_gR hr (some 137) 11 103).bind fun x51 => (av_sL hr x51 4 0).bind fun g52 => bd X (d + 7) 369 212 [(0, vr (some 137)), (1, vi v1), (2, vi 0)] [] g52))) : ∃ hr', bd X (d + 7) 369 60 [(0, vr (some 137)), (1, vi v1), (2, vi (nI r))] [] hr = bd X (d + 7) 369 212 [(0, vr (some 137)), (1, vi v1), (2, vi 0)] [] hr' ∧ SR h0 hr' m D M N V ∧ trF hr' f m0 m D N ∧ off false ([146, 150, 166, 167, 218, 219] ++ rCells) [(137, 0), (137, 45)] hr hr' ∧ hr'.2.1 137 0 = hr.2.1 137 0 := by
  refine ⟨av_uL hr 219 4 0, ?_, S.fr S.1 (agr.uL rfl agr.rfl), T, agr.uL rfl agr.rfl, rfl⟩
  rw [k, gR_137_103 S.1, show (4 : Int32) = nI 4 from rfl, st_219 S.1 (show 4 < 5 by decide)]
def tryP (X : av_X) (d : Nat) (h0 : av_H) (R m0 : Nat) (v1 : Int32) (n : Nat) : Prop := ∀ r m D M N V hc, r + n = R → m = m0 + r → DB m D M N → (∀ t, V t ≤ 9999) → SC h0 hc m D M V → ∃ f hc' m' D' M' N' V', bd X (d + 7) 232 2 [(0, vr (some 0)), (1, vi (nI r))] [] hc = av_rI f hc' ∧ SC h0 hc' m' D' M' V' ∧ DB m' D' M' N' ∧ (∀ t, V' t ≤ 9999) ∧ m ≤ m' ∧ (∀ i, i < m → D' i = D i ∧ M' i = M i ∧ N' i = N i) ∧ (∀ t, h0.2.2.2 1 t = none → V' t = V t) ∧ off true ([64, 71, 76] ++ dCells) [(0, 17)] hc hc' ∧
    ∀ hr, SR h0 hr m D M N V → agr (FP false [215] [(137, 98)]) h0 hr → trO hr m0 m D N → hr.2.1 137 0 = 0 → ∃ hr', bd X (d + 7) 369 60 [(0, vr (some 137)), (1, vi v1), (2, vi (nI r))] [] hr = bd X (d + 7) 369 212 [(0, vr (some 137)), (1, vi v1), (2, vi 0)] [] hr' ∧ SR h0 hr' m' D' M' N' V' ∧ trF hr' f m0 m' D' N' ∧ off false ([146, 150, 166, 167, 218, 219] ++ rCells) [(137, 0), (137, 45)] hr hr' ∧ hr'.2.1 137 0 = 0
theorem try_0 {h0 : av_H} (J : J_tow h0) (Jw : J_wi h0) (Jf : J_fi h0) (Jl : J_lv h0) (Jk : J_ke h0) (Jn : J_ne h0) (Jr : J_ru h0) (Je : J_el h0) (Jd : J_dr h0) {R m0 : Nat} {v1 : Int32} (R12 : R ≤ 12) (r18 : h0.2.1 0 18 = nI R) (r98 : h0.2.1 137 98 = nI R) (row : ∀ j, j < 84 → h0.2.1 215 j = h0.2.1 66 j) : tryP X d h0 R m0 v1 0 := fun r m D M N V hc hr0 hm B V9 Sc => by
  have w := Sc.1
  have e18 : hc.2.1 0 18 = nI R := (Sc.2.1.I (fT_up J (cs := []) (fs := [(0, 18)]) (by decide +kernel) (by decide) (by decide) 0 18 (by decide))).trans r18
  refine ⟨0, hc, m, D, M, N, V, ?_, Sc, B, V9, Nat.le_refl _, fun i _ => ⟨rfl, rfl, rfl⟩, fun _ _ => rfl, agr.rfl, fun hr S Ar T Z => ?_⟩
  · rw [b_232_2, gIv_0_18 w e18, if_neg (nI_nlt (by omega) (by omega))]
  · obtain ⟨hr', e', S', T', O', Z'⟩ := try_e (X := X) (d := d) (r := r) (v1 := v1) (f := 0) (m0 := m0) S (by
      obtain ⟨t0, t1, t2, t3, t4⟩ := T
      refine ⟨fun q hq => ?_, uL_eq, t4⟩
      rw [uL_nk (by omega)]
      match q, hq with
      | 0, _ => exact t0
      | 1, _ => exact t1
      | 2, _ => exact t2
      | 3, _ => exact t3
      | _ + 4, hq => exact absurd hq (by omega)) (by
      conv => lhs; rw [b_369_60]
      rw [gIv_137_98 S.1 ((Ar.I rfl).trans r98), if_neg (nI_nlt (by omega) (by omega))])
    exact ⟨hr', e', S', T', O', Z'.trans Z⟩
theorem try_c {h0 hc hc1 : av_H} {R r : Nat} {v : Int32} (w : WF hc) (e18 : hc.2.1 0 18 = nI R) (e66 : ∀ j, hc.2.1 66 j = h0.2.1 66 j) (R12 : R ≤ 12) (hr : r < R) (ea' : ev X (d + 7) 203 [vr (some 0), vi (h0.2.1 66 (r * 7)), vi (h0.2.1 66 (r * 7 + 1)), vi (h0.2.1 66 (r * 7 + 2)), vi (h0.2.1 66 (r * 7 + 3)), vi (h0.2.1 66 (r * 7 + 4)), vi (h0.2.1 66 (r * 7 + 5)), vi (h0.2.1 66 (r * 7 + 6))] hc = av_rI v hc1) : bd X (d + 7) 232 2 [(0, vr (some 0)), (1, vi (nI r))] [] hc = if v = 0 then (if av_is hc1 (some 0) 10 = true then ((av_cI (ev X (d + 7) 216 [vr (some 0)] hc1)).bind fun q17 => bd X (d + 7) 232 2 [(0, vr (some 0)), (1, vi (nI (r + 1)))] [] q17.2) else none) else av_rI v hc1 := by
  conv => lhs; rw [b_232_2]
  rw [gIv_0_18 w e18, if_pos (nI_lt (by omega) (by omega)), show (7 : Int32) = nI 7 from rfl, show (2 : Int32) = nI 2 from rfl, show (3 : Int32) = nI 3 from rfl, show (4 : Int32) = nI 4 from rfl, show (5 : Int32) = nI 5 from rfl, show (6 : Int32) = nI 6 from rfl, nI_1, pk_mul, nI_1, nI_add, nI_add, nI_add, nI_add, nI_add, gR_0_14 w, ld_66 w (by omega), gR_0_14 w, ld_66 w (by omega), gR_0_14 w, ld_66 w (by omega), gR_0_14 w, ld_66 w (by omega), gR_0_14 w, ld_66 w (by omega), gR_0_14 w, ld_66 w (by omega), gR_0_14 w, ld_66 w (by omega), is_0 w, e66, e66, e66, e66, e66, e66, e66, ea', av_cI_r, Option.bind_some]
theorem try_r {h0 hr hr1 : av_H} {R r m m0 : Nat} {v v1 : Int32} {D : Nat → Nat → Nat} {M N V : Nat → Nat} (R12 : R ≤ 12) (hrR : r < R) (r98 : h0.2.1 137 98 = nI R) (row : ∀ j, j < 84 → h0.2.1 215 j = h0.2.1 66 j) (S : SR h0 hr m D M N V) (Ar : agr (FP false [215] [(137, 98)]) h0 hr) (T : trO hr m0 m D N) (ew : ev X (d + 7) 298 [vr (some 137), vi (h0.2.1 66 (r * 7)), vi (h0.2.1 66 (r * 7 + 1)), vi (h0.2.1 66 (r * 7 + 2)), vi (h0.2.1 66 (r * 7 + 3)), vi (h0.2.1 66 (r * 7 + 4)), vi (h0.2.1 66 (r * 7 + 5)), vi (h0.2.1 66 (r * 7 + 6))] hr = av_rI v hr1) (w1 : WF hr1) (Ar1 : agr (FP false [215] [(137, 98)]) h0 hr1) : bd X (d + 7) 369 60 [(0, vr (some 137)), (1, vi v1), (2, vi (nI r))] [] hr = if v = 0 then (if av_is hr1 (some 137) 11 = true then ((av_cI (ev X (d + 7) 299 [vr (some 137), vi (h0.2.1 66 (r * 7)), vi (h0.2.1 66 (r * 7 + 1)), vi (h0.2.1 66 (r * 7 + 2)), vi (h0.2.1 66 (r * 7 + 3)), vi (h0.2.1 66 (r * 7 + 4)), vi (h0.2.1 66 (r * 7 + 5)), vi (h0.2.1 66 (r * 7 + 6))] hr1)).bind fun q33 =>
      (av_gR q33.2 (some 137) 11 103).bind fun x34 =>
      (av_lL q33.2 x34 (nI 2)).bind fun x35 =>
      (av_gR q33.2 (some 137) 11 57).bind fun x36 =>
      (av_lI X q33.2 x36 q33.1).bind fun x37 =>
      (av_sL q33.2 x34 (nI 2) (x35 + (x37.toInt64))).bind fun g38 =>
      (av_gR g38 (some 137) 11 103).bind fun x39 =>
      (av_lL g38 x39 (nI 3)).bind fun x40 =>
      (av_gR g38 (some 137) 11 51).bind fun x41 =>
      (av_lI X g38 x41 q33.1).bind fun x42 =>
      (av_sL g38 x39 (nI 3) (x40 + (x42.toInt64))).bind fun g43 =>
      if av_is g43 (some 137) 11 = true then (
      (av_cV (ev X (d + 7) 368 [vr (some 137), vi (q33.1)] g43)).bind fun q44 =>
      bd X (d + 7) 369 60 [(0, vr (some 137)), (1, vi v1), (2, vi (nI (r + 1)))] [] q44) else none) else none)
      else bd X (d + 7) 369 60 [(0, vr (some 137)), (1, vi v1), (2, vi (nI (r + 1)))] [] (av_uL (av_uL hr1 219 0 (nI r).toInt64) 219 1 v.toInt64) := by
  have wr := S.1
  have wA : WF (av_uL hr1 219 0 (nI r).toInt64) := w1
  have c215 : ∀ g, agr (FP false [215] [(137, 98)]) h0 g → ∀ j, j < 84 → g.2.1 215 j = h0.2.1 66 j := fun g A j hj => (A.I rfl).trans (row j hj)
  conv => lhs; rw [b_369_60]
  rw [gIv_137_98 wr ((Ar.I rfl).trans r98), if_pos (nI_lt (by omega) (by omega)), gR_137_103 wr, show (0 : Int32) = nI 0 from rfl, ld_219 wr (show 0 < 5 by decide), T.1, if_pos (show lg_cmp (-1) 0 < nI 0 by decide), show (7 : Int32) = nI 7 from rfl, show (2 : Int32) = nI 2 from rfl, show (3 : Int32) = nI 3 from rfl, show (4 : Int32) = nI 4 from rfl, show (5 : Int32) = nI 5 from rfl, show (6 : Int32) = nI 6 from rfl, pk_mul, Nat.mul_comm 7 r, nI_1, nI_1, nI_add, nI_add, nI_add, nI_add, nI_add, gR_137_99 wr, ld_215 wr (by omega), gR_137_99 wr, ld_215 wr (by omega), gR_137_99 wr, ld_215 wr (by omega), gR_137_99 wr, ld_215 wr (by omega), gR_137_99 wr, ld_215 wr (by omega), gR_137_99 wr, ld_215 wr (by omega), gR_137_99 wr, ld_215 wr (by omega), is_137 wr, c215 hr Ar _ (by omega), c215 hr Ar _ (by omega), c215 hr Ar _ (by omega), c215 hr Ar _ (by omega), c215 hr Ar _ (by omega), c215 hr Ar _ (by omega), c215 hr Ar _ (by omega), ew, av_cI_r, Option.bind_some]
  dsimp only
  by_cases z : v = nI 0
  · rw [if_pos z, if_pos z, gR_137_99 w1, ld_215 w1 (by omega), gR_137_99 w1, ld_215 w1 (by omega), gR_137_99 w1, ld_215 w1 (by omega), gR_137_99 w1, ld_215 w1 (by omega), gR_137_99 w1, ld_215 w1 (by omega), gR_137_99 w1, ld_215 w1 (by omega), gR_137_99 w1, ld_215 w1 (by omega), c215 hr1 Ar1 _ (by omega), c215 hr1 Ar1 _ (by omega), c215 hr1 Ar1 _ (by omega), c215 hr1 Ar1 _ (by omega), c215 hr1 Ar1 _ (by omega), c215 hr1 Ar1 _ (by omega), c215 hr1 Ar1 _ (by omega)]
  · rw [if_neg z, if_neg z, gR_137_103 w1, st_219 w1 (show 0 < 5 by decide), gR_137_103 wA, show (1 : Int32) = nI 1 from rfl, st_219 wA (show 1 < 5 by decide)]
theorem try_s {h0 : av_H} (J : J_tow h0) (Jw : J_wi h0) (Jf : J_fi h0) (Jl : J_lv h0) (Jk : J_ke h0) (Jn : J_ne h0) (Jr : J_ru h0) (Je : J_el h0) (Jd : J_dr h0) {R m0 : Nat} {v1 : Int32} (R12 : R ≤ 12) (r18 : h0.2.1 0 18 = nI R) (r98 : h0.2.1 137 98 = nI R) (row : ∀ j, j < 84 → h0.2.1 215 j = h0.2.1 66 j) {n : Nat} (IH : tryP X d h0 R m0 v1 n) : tryP X d h0 R m0 v1 (n + 1) := fun r m D M N V hc hr0 hm B V9 Sc => by
  have w := Sc.1
  have h60 := B.1
  have e18 : hc.2.1 0 18 = nI R := (Sc.2.1.I (fT_up J (cs := []) (fs := [(0, 18)]) (by decide +kernel) (by decide) (by decide) 0 18 (by decide))).trans r18
  have e66 : ∀ j, hc.2.1 66 j = h0.2.1 66 j := fun j => Sc.2.1.I (fT_up J (cs := [66]) (fs := []) (by decide +kernel) (by decide) (by decide) 66 j (by simp [FP]))
  obtain ⟨v, hc1, ea, Sc1, Oc, wy, -, yes⟩ := dr_step (X := X) (d := d) (dc := d + 1) J Jw Jf Jl Jk Jn Jr Je Jd B V9 Sc (h0.2.1 66 (r * 7)) (h0.2.1 66 (r * 7 + 1)) (h0.2.1 66 (r * 7 + 2)) (h0.2.1 66 (r * 7 + 3)) (h0.2.1 66 (r * 7 + 4)) (h0.2.1 66 (r * 7 + 5)) (h0.2.1 66 (r * 7 + 6))
  have ea' : ev X (d + 7) 203 [vr (some 0), vi (h0.2.1 66 (r * 7)), vi (h0.2.1 66 (r * 7 + 1)), vi (h0.2.1 66 (r * 7 + 2)), vi (h0.2.1 66 (r * 7 + 3)), vi (h0.2.1 66 (r * 7 + 4)), vi (h0.2.1 66 (r * 7 + 5)), vi (h0.2.1 66 (r * 7 + 6))] hc = av_rI v hc1 := ea
  by_cases v0 : v = 0
  · obtain ⟨hc2, D1, M1, N1, V1, ek, m60, B1, V91, Sc2, ag, V01, Ok, yr⟩ := yes v0
    obtain ⟨f, hc3, m', D', M', N', V', e3, S3, B3, V93, mm, ag3, V03, O3, rr⟩ := IH (r + 1) (m + 1) D1 M1 N1 V1 hc2 (by omega) (by omega) B1 V91 Sc2
    refine ⟨f, hc3, m', D', M', N', V', ?_, S3, B3, V93, by omega, fun i hi => ?_, fun t z => (V03 t z).trans (V01 t z), agr.tr (Oc.up (by decide +kernel)) (agr.tr Ok O3), fun hr S Ar T Z => ?_⟩
    · rw [try_c w e18 e66 R12 (by omega) ea', if_pos v0, is_0 Sc1.1, show ev X (d + 7) 216 [vr (some 0)] hc1 = av_rI (nI m) hc2 from ek, av_cI_r, Option.bind_some]
      exact e3
    · have a1 := ag i hi
      have a3 := ag3 i (by omega)
      exact ⟨a3.1.trans a1.1, a3.2.1.trans a1.2.1, a3.2.2.trans a1.2.2⟩
    · obtain ⟨hr1, ew, S1, O1, Z1⟩ := wy hr S
      have Ar1 : agr (FP false [215] [(137, 98)]) h0 hr1 := agr.tr Ar (O1.fr (by decide))
      have T1 : trO hr1 m0 m D N := T.fr (O1.fr (by decide))
      obtain ⟨hr2, ed, S2, O2, Z2⟩ := yr hr1 S1
      have Ar2 : agr (FP false [215] [(137, 98)]) h0 hr2 := agr.tr Ar1 (O2.fr (by decide +kernel))
      have T2 : trO hr2 m0 m D N := T1.fr (O2.fr (by decide +kernel))
      have P := S2.2.2.1.2 m (by omega)
      obtain ⟨p0, p1, p2, p4, p5, p6, p7, p8, p9, p12, p15, p16, p17, p13, p14, p10, p11, pN⟩ := P
      obtain ⟨b0, b1, b2, b3, b4, b5, b6, b7, b8, b9, b10, b11, b12, b13, b14, b15, b16, b17, b18, b19, b20, b21, b22, b23⟩ := B1.2.1 m (by omega)
      generalize hg3 : av_uL hr2 219 2 (sL (fun i => (nI (D i 16)).toInt64) m0 (m - m0) + (nI (D1 m 16)).toInt64) = g3
      have w3 : WF g3 := by rw [← hg3]; exact WF_uL S2.1
      have l3 : g3.2.2.1 219 3 = sL (fun i => (nI (D i 6)).toInt64) m0 (m - m0) := by
        rw [← hg3, uL_nk (by decide)]
        exact T2.2.2.2.1
      have i3 : g3.2.1 = hr2.2.1 := by rw [← hg3]; rfl
      generalize hg4 : av_uL g3 219 3 (sL (fun i => (nI (D i 6)).toInt64) m0 (m - m0) + (nI (D1 m 6)).toInt64) = g4
      have w4 : WF g4 := by rw [← hg4]; exact WF_uL w3
      have i4 : g4.2.1 = hr2.2.1 := by rw [← hg4, ← i3]; rfl
      have tp := s_tp (X := X) (d := d + 5) (h := g4) (i := m) (D := D1 m) (N := N1 m) w4 m60 (by rw [i4]; exact p0) (by rw [i4]; exact p1) (by rw [i4]; exact p2) (by rw [← hg4, uL_ne (by decide), ← hg3, uL_ne (by decide)]; exact pN) b0 b1 b21 (fun c hc f hf z => (b23 c hc f hf z).2)
      generalize hg5 : setC g4 218 (mkW (g4.2.1 218) (D1 m) (N1 m) 48) = g5 at tp
      have w5 : WF g5 := by rw [← hg5]; exact WF_sC w4
      have o5 : off false [218, 219] [] hr2 g5 := by
        rw [← hg5]
        refine agr.setC (fun j => rfl) ?_
        rw [← hg4]
        refine agr.uL rfl ?_
        rw [← hg3]
        exact agr.uL rfl agr.rfl
      have S5 : SR h0 g5 (m + 1) D1 M1 N1 V1 := S2.fr w5 (o5.fr (by decide +kernel))
      have cgD : ∀ j, sL (fun i => (nI (D1 i j)).toInt64) m0 (m - m0) = sL (fun i => (nI (D i j)).toInt64) m0 (m - m0) := fun j => sL_cg _ (fun i h1 h2 => by rw [(ag i (by omega)).1])
      have T5 : trO g5 m0 (m + 1) D1 N1 := by
        have e1 : m + 1 - m0 = (m - m0) + 1 := by omega
        have e2 : m0 + (m - m0) = m := by omega
        refine ⟨?_, ?_, ?_, ?_, fun j hj => ?_⟩
        · rw [← hg5]
          show g4.2.2.1 219 0 = -1
          rw [← hg4, uL_nk (by decide), ← hg3, uL_nk (by decide)]
          exact T2.1
        · rw [← hg5]
          show g4.2.2.1 219 1 = -1
          rw [← hg4, uL_nk (by decide), ← hg3, uL_nk (by decide)]
          exact T2.2.1
        · rw [e1, sL, cgD, e2, ← hg5]
          show g4.2.2.1 219 2 = _
          rw [← hg4, uL_nk (by decide), ← hg3, uL_eq]
        · rw [e1, sL, cgD, e2, ← hg5]
          show g4.2.2.1 219 3 = _
          rw [← hg4, uL_eq]
        · have eR : mkP D1 N1 m0 (m - m0 + 1) j = (mkP D N m0 (m - m0) j || pnB (D1 m) (N1 m) j) := by
            rw [mkP, anyN_snoc, e2, mkP, anyN_cg (P := fun i => pnB (D1 i) (N1 i) j) (Q := fun i => pnB (D i) (N i) j) _ _ (fun i h1 h2 => by rw [(ag i (by omega)).1, (ag i (by omega)).2.2])]
          rw [← hg5, setC_eq, mkW_v, i4, T2.2.2.2.2 j hj, e1, eR]
          show (if pnB (D1 m) (N1 m) j = true then 1 else bI (mkP D N m0 (m - m0) j)) = _
          cases pnB (D1 m) (N1 m) j with
          | true => rw [if_pos rfl, Bool.or_true]; rfl
          | false => rw [if_neg (by decide), Bool.or_false]
      obtain ⟨hr', e', S', T', O', Z'⟩ := rr g5 S5 (agr.tr Ar2 (o5.fr (by decide))) T5 (((o5.fr (q := false) (cs := []) (fs := [(137, 0)]) (by decide)).I rfl).trans Z2)
      refine ⟨hr', ?_, S', T', agr.tr (O1.up (by decide +kernel)) (agr.tr (O2.up (by decide +kernel)) (agr.tr (o5.up (by decide +kernel)) O')), Z'⟩
      rw [try_r R12 (show r < R by omega) r98 row S Ar T ew S1.1 Ar1, if_pos v0, is_137 S1.1, ed, av_cI_r, Option.bind_some, gR_137_103 S2.1, ld_219 S2.1 (show 2 < 5 by decide), T2.2.2.1, gR_137_57 S2.1, ld_179 S2.1 m60, p16, st_219 S2.1 (show 2 < 5 by decide), hg3, gR_137_103 w3, ld_219 w3 (show 3 < 5 by decide), l3, gR_137_51 w3, ld_173 w3 m60, i3, p6, st_219 w3 (show 3 < 5 by decide), hg4, is_137 w4, tp, av_cV_r, Option.bind_some]
      exact e'
  · refine ⟨v, hc1, m, D, M, N, V, ?_, Sc1, B, V9, Nat.le_refl _, fun i _ => ⟨rfl, rfl, rfl⟩, fun _ _ => rfl, Oc.up (by decide +kernel), fun hr S Ar T Z => ?_⟩
    · rw [try_c w e18 e66 R12 (by omega) ea', if_neg v0]
    · obtain ⟨hr1, ew, S1, O1, Z1⟩ := wy hr S
      have Ar1 : agr (FP false [215] [(137, 98)]) h0 hr1 := agr.tr Ar (O1.fr (by decide))
      have T1 : trO hr1 m0 m D N := T.fr (O1.fr (by decide))
      have wB : WF (av_uL (av_uL hr1 219 0 (nI r).toInt64) 219 1 v.toInt64) := S1.1
      have oB : off false [219] [] hr1 (av_uL (av_uL hr1 219 0 (nI r).toInt64) 219 1 v.toInt64) := agr.uL rfl (agr.uL rfl agr.rfl)
      have SB : SR h0 (av_uL (av_uL hr1 219 0 (nI r).toInt64) 219 1 v.toInt64) m D M N V := S1.fr wB (oB.fr (by decide +kernel))
      obtain ⟨hr', e', S', T', O', Z'⟩ := try_e (X := X) (d := d) (r := r + 1) (v1 := v1) (f := v) (m0 := m0) SB (by
        refine ⟨fun q hq => ?_, uL_eq, T1.2.2.2.2⟩
        rw [uL_nk (by omega)]
        match q, hq with
        | 0, _ =>
          rw [uL_nk (by decide), uL_eq, trA, if_neg v0, show m - m0 = r by omega]
        | 1, _ => rw [uL_eq, trA, if_neg v0]
        | 2, _ =>
          rw [uL_nk (by decide), uL_nk (by decide)]
          exact T1.2.2.1
        | 3, _ =>
          rw [uL_nk (by decide), uL_nk (by decide)]
          exact T1.2.2.2.1
        | _ + 4, hq => exact absurd hq (by omega)) (by
        conv => lhs; rw [b_369_60]
        rw [gIv_137_98 wB (((Ar1.I rfl)).trans r98)]
        by_cases z : r + 1 < R
        · rw [if_pos (nI_lt z (by omega)), gR_137_103 wB, show (0 : Int32) = nI 0 from rfl, ld_219 wB (show 0 < 5 by decide), uL_nk (by decide), uL_eq, if_neg (show ¬ lg_cmp (nI r).toInt64 0 < nI 0 from lg_n r (by omega))]
        · rw [if_neg (nI_nlt (by omega) (by omega))])
      refine ⟨hr', ?_, S', T', agr.tr (O1.up (by decide +kernel)) (agr.tr (oB.up (by decide +kernel)) O'), Z'.trans Z1⟩
      rw [try_r R12 (show r < R by omega) r98 row S Ar T ew S1.1 Ar1, if_neg v0]
      exact e'
theorem try_lp {h0 : av_H} (J : J_tow h0) (Jw : J_wi h0) (Jf : J_fi h0) (Jl : J_lv h0) (Jk : J_ke h0) (Jn : J_ne h0) (Jr : J_ru h0) (Je : J_el h0) (Jd : J_dr h0) {R m0 : Nat} {v1 : Int32} (R12 : R ≤ 12) (r18 : h0.2.1 0 18 = nI R) (r98 : h0.2.1 137 98 = nI R) (row : ∀ j, j < 84 → h0.2.1 215 j = h0.2.1 66 j) : ∀ n, tryP X d h0 R m0 v1 n
  | 0 => try_0 J Jw Jf Jl Jk Jn Jr Je Jd R12 r18 r98 row
  | n + 1 => try_s J Jw Jf Jl Jk Jn Jr Je Jd R12 r18 r98 row (try_lp J Jw Jf Jl Jk Jn Jr Je Jd R12 r18 r98 row n)
end
