/-! an asked drop is weighed -/
/-- the fields of a drop as they are asked over -/
def dqF (t s x F e k H r pn V ag : Nat) : Nat → Nat
  | 0 => t
  | 1 => s
  | 2 => x
  | 3 => F
  | 4 => e
  | 5 => k
  | 6 => H
  | 7 => r
  | 12 => pn
  | 13 => V
  | 14 => ag
  | _ => 0
section
variable {X : av_X} {d : Nat} {h : av_H}
theorem wg_max {r : Nat} (hr : 1 ≤ r) (r12 : r ≤ 12) : (if (1 : Int32) < nI r then nI r else 1) = nI r := by
  by_cases q : 1 < r
  · rw [if_pos (show (1 : Int32) < nI r from nI_lt (a := 1) q (by omega))]
  · rw [show r = 1 by omega]
    rfl
/-- the class's twin of a tower, as c_rP wants it -/
theorem c_weigh (w : WF h) {u : Ru} (o : u.ok) (C : u.C h) (Jw : J_wi h) {mn : Nat} {q : Nat → Nat} (Nb : neB mn q) (Nc : neC h mn q) {m t s x e k F Cc W V a : Nat} {D : Nat → Nat → Nat} {M N : Nat → Nat} (B : DB m D M N) (Dc : DC h m D M) (hm : m < 60) (J : J_tv h) (t6 : t < 6) (hj : h.2.2.2 1 t = some a) (T : twV h t a) (hs : s < 4) (xC : x < Cc) (he : e < 100) (hk : k < 24) (r1 : h.2.1 a 0 = nI F) (F1 : 1 ≤ F) (F12 : F ≤ 12) (r3 : h.2.1 a 1 = nI Cc) (C10 : Cc ≤ 10) (r5 : h.2.1 a 2 = nI W) (W4 : W ≤ 4) (r9 : h.2.1 a 4 = nI V) (e0 : h.2.1 (77 + m) 0 = nI t) (e1 : h.2.1 (77 + m) 1 = nI s) (e2 : h.2.1 (77 + m) 2 = nI x) (e4 : h.2.1 (77 + m) 4 = nI e) (e5 : h.2.1 (77 + m) 5 = nI k) (de : ∀ i, i < m → D i 4 ≤ e) : ∃ h' g3 Mm ag, tA m h h' ∧ tA m h g3 ∧ Mm = rp (rcQ g3 mn q F a (t * 4 + s) s x (nI e)) (min W (Cc - x)) ∧ agO (fun c f => wsh D M t s f (x + c) m) Mm e ag ∧
    (∀ j, (j = 0 ∨ j = 1 ∨ j = 2 ∨ j = 4 ∨ j = 5 ∨ j = 8 ∨ j = 9 ∨ j = 10 ∨ j = 11) → h'.2.1 (77 + m) j = h.2.1 (77 + m) j) ∧ h'.2.1 (77 + m) 3 = nI F ∧ h'.2.1 (77 + m) 6 = nI ((F + u.r - 1) / u.r) ∧ h'.2.1 (77 + m) 7 = nI u.r ∧ h'.2.1 (77 + m) 12 = nI (bct Mm) ∧ h'.2.1 (77 + m) 13 = nI V ∧ h'.2.1 (77 + m) 14 = nI ag ∧
    (∀ j, j < 3 → h'.2.1 (77 + m) (15 + j) = mx0 (u.an j (fct t s F e k (wvN h s e k) (bct Mm) ((F + u.r - 1) / u.r) V ag))) ∧ h'.2.2.1 (77 + m) 18 = lN Mm ∧
    ev X (d + 5) 204 [vr (some 0), vr (some (77 + m)), vr (some a)] h = av_rV h' := by
  have a226 := T.1
  have rr := o.2.2.2.1
  have T0 : tA m h h := ⟨w, agr.rfl⟩
  have k1 := T.2.1
  have am : a ≠ 77 + m := by omega
  have T1 : tA m h (av_uI h (77 + m) 3 (nI F)) := T0.w
  have T2 : tA m h (av_uI (av_uI h (77 + m) 3 (nI F)) (77 + m) 7 (nI u.r)) := T1.w
  have T3 : tA m h (av_uI (av_uI (av_uI h (77 + m) 3 (nI F)) (77 + m) 7 (nI u.r)) (77 + m) 6 (nI ((F + u.r - 1) / u.r))) := T2.w
  generalize hg3 : av_uI (av_uI (av_uI h (77 + m) 3 (nI F)) (77 + m) 7 (nI u.r)) (77 + m) 6 (nI ((F + u.r - 1) / u.r)) = g3 at T3
  have A3 := T3.up hm
  have ea : ∀ j, fM m a j = true := fun j => fM_d (by omega) (by omega) (by omega) am
  have tw3 : J_tv g3 := J.fr (A3.fr (by decide +kernel))
  have hj3 : g3.2.2.2 1 t = some a := (T3.2.R (fM_d (by decide) (by decide) (by decide) (by omega))).trans hj
  have Ta3 : twV g3 t a := by
    rcases tw3.1 t t6 with ⟨z, -⟩ | ⟨a', z, y⟩
    · rw [hj3] at z; cases z
    · rw [hj3] at z
      injection z with z
      rw [z]
      exact y
  have Nc3 : neC g3 mn q := by
    have A := A3.fr (q := false) (cs := [3, 4, 7, 8]) (fs := []) (by decide +kernel)
    refine ⟨(A.I rfl).trans Nc.1, fun i hi => ?_⟩
    obtain ⟨z1, z2, z3⟩ := Nc.2 i hi
    exact ⟨(A.I rfl).trans z1, (A.I rfl).trans z2, (A.I rfl).trans z3⟩
  have f3 : ∀ j, j ≠ 3 → j ≠ 7 → j ≠ 6 → g3.2.1 (77 + m) j = h.2.1 (77 + m) j := fun j z1 z2 z3 => by rw [← hg3, uI_nk z3, uI_nk z2, uI_nk z1]
  have Rp := c_rP (X := X) (d := d) (h := g3) T3.1 Nb Nc3 t6 hs xC hj3 Ta3 ((T3.2.I (ea 0)).trans r1) F12 ((T3.2.I (ea 1)).trans r3) C10 ((T3.2.I (ea 2)).trans r5) W4 (nI e)
  have bM : rp (rcQ g3 mn q F a (t * 4 + s) s x (nI e)) (min W (Cc - x)) < 2 ^ 48 := Nat.lt_of_lt_of_le (rp_lt (fun k => rcQ_lt F12) _) (Nat.pow_le_pow_right (by decide) (by omega))
  generalize hMm : rp (rcQ g3 mn q F a (t * 4 + s) s x (nI e)) (min W (Cc - x)) = Mm at Rp bM
  have T6 : tA m h (av_uI (av_uI (av_uL g3 (77 + m) 18 (lN Mm)) (77 + m) 12 (nI (bct Mm))) (77 + m) 13 (nI V)) := T3.wL.w.w
  generalize hg6 : av_uI (av_uI (av_uL g3 (77 + m) 18 (lN Mm)) (77 + m) 12 (nI (bct Mm))) (77 + m) 13 (nI V) = g6 at T6
  have f6 : ∀ j, j ≠ 12 → j ≠ 13 → g6.2.1 (77 + m) j = g3.2.1 (77 + m) j := fun j z1 z2 => by rw [← hg6, uI_nk z2, uI_nk z1, uL_I]
  have l6 : g6.2.2.1 (77 + m) 18 = lN Mm := by rw [← hg6, uI_L, uI_L, uL_eq]
  obtain ⟨ag, R, eag⟩ := c_age (X := X) (d := d + 1) (h := g6) (Mm := Mm) T6.1 B (Dc.ta hm T6) hm t6 hs (show x < 10 by omega) he (by rw [f6 0 (by decide) (by decide), f3 0 (by decide) (by decide) (by decide)]; exact e0) (by rw [f6 1 (by decide) (by decide), f3 1 (by decide) (by decide) (by decide)]; exact e1) (by rw [f6 2 (by decide) (by decide), f3 2 (by decide) (by decide) (by decide)]; exact e2) (by rw [f6 4 (by decide) (by decide), f3 4 (by decide) (by decide) (by decide)]; exact e4) de bM l6
  have T7 : tA m h (av_uI g6 (77 + m) 14 (nI ag)) := T6.w
  generalize hg7 : av_uI g6 (77 + m) 14 (nI ag) = g7 at T7
  have f7 : ∀ j, j ≠ 14 → g7.2.1 (77 + m) j = g6.2.1 (77 + m) j := fun j z1 => by rw [← hg7, uI_nk z1]
  have f73 : ∀ j, j ≠ 3 → j ≠ 7 → j ≠ 6 → j ≠ 12 → j ≠ 13 → j ≠ 14 → g7.2.1 (77 + m) j = h.2.1 (77 + m) j := fun j z1 z2 z3 z4 z5 z6 => by rw [f7 j z6, f6 j z4 z5, f3 j z1 z2 z3]
  have v3 : g7.2.1 (77 + m) 3 = nI F := by rw [f7 3 (by decide), f6 3 (by decide) (by decide), ← hg3, uI_nk (by decide), uI_nk (by decide), uI_eq]
  have v7 : g7.2.1 (77 + m) 7 = nI u.r := by rw [f7 7 (by decide), f6 7 (by decide) (by decide), ← hg3, uI_nk (by decide), uI_eq]
  have v6 : g7.2.1 (77 + m) 6 = nI ((F + u.r - 1) / u.r) := by rw [f7 6 (by decide), f6 6 (by decide) (by decide), ← hg3, uI_eq]
  have v12 : g7.2.1 (77 + m) 12 = nI (bct Mm) := by rw [f7 12 (by decide), ← hg6, uI_nk (by decide), uI_eq]
  have v13 : g7.2.1 (77 + m) 13 = nI V := by rw [f7 13 (by decide), ← hg6, uI_eq]
  have v14 : g7.2.1 (77 + m) 14 = nI ag := by rw [← hg7, uI_eq]
  have l7 : g7.2.2.1 (77 + m) 18 = lN Mm := by rw [← hg7, uI_L]; exact l6
  have Pk : dpk g7 m (dqF t s x F e k ((F + u.r - 1) / u.r) u.r (bct Mm) V ag) := fun j hjj => by
    rcases hjj with rfl | rfl | rfl | rfl | rfl | rfl | rfl | rfl
    · rw [f73 0 (by decide) (by decide) (by decide) (by decide) (by decide) (by decide)]; exact e0
    · rw [f73 1 (by decide) (by decide) (by decide) (by decide) (by decide) (by decide)]; exact e1
    · rw [f73 4 (by decide) (by decide) (by decide) (by decide) (by decide) (by decide)]; exact e4
    · rw [f73 5 (by decide) (by decide) (by decide) (by decide) (by decide) (by decide)]; exact e5
    · exact v6
    · exact v12
    · exact v13
    · exact v14
  have W7 : tw0 g7 t a F V := ⟨t6, a226, (T7.2.R (fM_d (by decide) (by decide) (by decide) (by omega))).trans hj, T7.2.k k1, (T7.2.I (ea 0)).trans r1, (T7.2.I (ea 4)).trans r9⟩
  have Tc7 : tC g7 g7 := ⟨T7.1, agr.rfl⟩
  have A7 := T7.up hm
  have C7 := C.fr o (A7.fr (by decide +kernel))
  have Jw7 := Jw.fr (A7.fr (by decide +kernel))
  obtain ⟨g8, T8, F8, e8⟩ := c_facts (X := X) (d := d + 2) Tc7 hm Pk (show tw0 g7 ((dqF t s x F e k ((F + u.r - 1) / u.r) u.r (bct Mm) V ag) 0) a ((dqF t s x F e k ((F + u.r - 1) / u.r) u.r (bct Mm) V ag) 3) V from W7)
  obtain ⟨g9, T9, F9, e9⟩ := c_hour (X := X) (d := d + 1) T8 Jw7 hs he hk F8
  have Pk8 := Pk.t hm T8
  have wv7 : wvN g7 s e k = wvN h s e k := wv_fr (A7.fr (by decide +kernel))
  rw [wv7] at F9
  have Ta9 : tA m g7 g9 := (show tA m g7 g7 from ⟨T7.1, agr.rfl⟩).tc T9
  have p9 : g9.2.1 (77 + m) = g7.2.1 (77 + m) := by
    funext j
    have z := T9.2.fr (q := false) (cs := dCells) (fs := []) (by decide +kernel)
    exact z.I (by simp only [FP, dCells_in m hm, Bool.false_and, Bool.false_or, Bool.true_or])
  have l9 : g9.2.2.1 (77 + m) 18 = lN Mm := by
    have z := T9.2.fr (q := false) (cs := dCells) (fs := []) (by decide +kernel)
    exact (z.L (by simp only [FP, dCells_in m hm, Bool.false_and, Bool.false_or, Bool.true_or])).trans l7
  obtain ⟨g10, T10, F10, p10, l10, e10⟩ := wg_an (X := X) (d := d + 2) (p := 15) (j := 0) Ta9 hm o C7 F9 (by decide)
  obtain ⟨g11, T11, F11, p11, l11, e11⟩ := wg_an (X := X) (d := d + 2) (p := 16) (j := 1) T10 hm o C7 F10 (by decide)
  obtain ⟨g12, T12, F12', p12, l12, e12⟩ := wg_an (X := X) (d := d + 2) (p := 17) (j := 2) T11 hm o C7 F11 (by decide)
  have keep : ∀ j, j ≠ 15 → j ≠ 16 → j ≠ 17 → g12.2.1 (77 + m) j = g7.2.1 (77 + m) j := fun j z1 z2 z3 => by rw [p12, pk_un z3, p11, pk_un z2, p10, pk_un z1, p9]
  refine ⟨g12, g3, Mm, ag, ⟨T12.1, agr.tr T7.2 T12.2⟩, T3, hMm.symm, R, fun j hjj => ?_, ?_, ?_, ?_, ?_, ?_, ?_, fun j hj3' => ?_, ?_, ?_⟩
  · rw [keep j (by omega) (by omega) (by omega)]
    exact f73 j (by omega) (by omega) (by omega) (by omega) (by omega) (by omega)
  · rw [keep 3 (by decide) (by decide) (by decide)]; exact v3
  · rw [keep 6 (by decide) (by decide) (by decide)]; exact v6
  · rw [keep 7 (by decide) (by decide) (by decide)]; exact v7
  · rw [keep 12 (by decide) (by decide) (by decide)]; exact v12
  · rw [keep 13 (by decide) (by decide) (by decide)]; exact v13
  · rw [keep 14 (by decide) (by decide) (by decide)]; exact v14
  · rcases (show j = 0 ∨ j = 1 ∨ j = 2 by omega) with rfl | rfl | rfl
    · rw [p12, pk_un (by decide), p11, pk_un (by decide), p10, pk_us]; rfl
    · rw [p12, pk_un (by decide), p11, pk_us]; rfl
    · rw [p12, pk_us]; rfl
  · rw [l12, l11, l10]; exact l9
  · have wr : ∀ g, tA m h g → g.2.1 u.R 2 = nI u.r := fun g Tg => by
      rw [Tg.2.I (by rcases o.1 with z | z <;> rw [z] <;> exact fM_d (by decide) (by decide) (by decide) (by omega))]
      exact C.2.2.2.1
    have h0' : ¬ nI u.r = 0 := nI_ne0 (by omega) (by omega)
    have d4 : ∀ j, j ≠ 3 → j ≠ 7 → j ≠ 6 → ∀ v, h.2.1 (77 + m) j = v → g3.2.1 (77 + m) j = v := fun j z1 z2 z3 v ev => by rw [f3 j z1 z2 z3]; exact ev
    rw [e_204, b_204_0, tw_gIv k1 r1, dr_p w hm, g015 T1.1 (C.fr o ((T1.up hm).fr (by decide +kernel))), gR_f o T1.1, wr _ T1, dr_p T1.1 hm, tw_gIv (g := av_uI (av_uI h (77 + m) 3 (nI F)) (77 + m) 7 (nI u.r)) (k := 0) (v := nI F) k1 ((T2.2.I (ea 0)).trans r1), dr_v T2.1 hm uI_eq, dr_v T2.1 hm uI_eq, c_max', wg_max rr.1 rr.2, if_neg h0', nI_add, nI_prd (by omega), pk_div (by omega) (by omega) (by omega), dr_p T2.1 hm]
    rw [hg3, dr_v T3.1 hm (d4 0 (by decide) (by decide) (by decide) _ e0), dr_v T3.1 hm (d4 1 (by decide) (by decide) (by decide) _ e1), dr_v T3.1 hm (d4 2 (by decide) (by decide) (by decide) _ e2), dr_v T3.1 hm (d4 4 (by decide) (by decide) (by decide) _ e4), is_0 T3.1, Rp, av_cL_r, Option.bind_some, dr_pL T3.1 hm, dr_L T3.wL.1 hm uL_eq, c_bc64' (by omega), dr_p T3.wL.1 hm, tw_gIv (g := av_uI (av_uL g3 (77 + m) 18 (lN Mm)) (77 + m) 12 (nI (bct Mm))) (k := 4) (v := nI V) ((T3.wL.w (j := 12) (v := nI (bct Mm))).2.k k1) (((T3.wL.w (j := 12) (v := nI (bct Mm))).2.I (ea 4)).trans r9), dr_p (T3.wL.w (j := 12) (v := nI (bct Mm))).1 hm, hg6, is_0 T6.1, eag, av_cI_r, Option.bind_some, dr_p T6.1 hm, hg7, is_0 T7.1, e8, av_cV_r, Option.bind_some, dk_g T8.1 hm Pk8 (by decide), dk_g T8.1 hm Pk8 (by decide), dk_g T8.1 hm Pk8 (by decide), is_0 T8.1]
    have e9' : ev X (d + 4) 220 [vr (some 0), vi (nI ((dqF t s x F e k ((F + u.r - 1) / u.r) u.r (bct Mm) V ag) 1)), vi (nI ((dqF t s x F e k ((F + u.r - 1) / u.r) u.r (bct Mm) V ag) 4)), vi (nI ((dqF t s x F e k ((F + u.r - 1) / u.r) u.r (bct Mm) V ag) 5))] g8 = av_rV g9 := e9
    rw [e9', av_cV_r, Option.bind_some]
    refine (e10 _ _).trans ?_
    refine (e11 _ _).trans ?_
    exact e12 _ _
end
