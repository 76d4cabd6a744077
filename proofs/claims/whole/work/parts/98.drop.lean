/-! drop -/
theorem J_tow.V {h : av_H} (J : J_tow h) : ∃ V : Nat → Nat, (∀ t, V t ≤ 9999) ∧ (∀ t, t < 6 → h.2.1 150 t = nI (V t)) ∧ (∀ t a, t < 6 → h.2.2.2 1 t = some a → h.2.1 a 4 = nI (V t)) ∧ ∀ t, t < 6 → h.2.2.2 1 t = none → V t = 0 := by
  have K : ∀ t, ∃ v, v ≤ 9999 ∧ (t < 6 → h.2.1 150 t = nI v ∧ (∀ a, h.2.2.2 1 t = some a → h.2.1 a 4 = nI v) ∧ (h.2.2.2 1 t = none → v = 0)) := fun t => by
    by_cases ht : t < 6
    · rcases J.1 t ht with ⟨z, T⟩ | ⟨a, z, T⟩
      · exact ⟨0, by omega, fun _ => ⟨T.2.2.2.1, fun a y => (by rw [z] at y; cases y), fun _ => rfl⟩⟩
      · obtain ⟨F, C, W, L, V, p1, p2, p3, p4, p5, p6, p7, p8, p9, r1, r2, r3, r4, r5, r6, r7, r8, r9, r10⟩ := T.2.2.2.2.2.2.1
        exact ⟨V, p9, fun _ => ⟨r10, fun b y => (by rw [z] at y; injection y with y; rw [← y]; exact r9), fun y => (by rw [z] at y; cases y)⟩⟩
    · exact ⟨0, by omega, fun y => absurd y ht⟩
  refine ⟨fun t => Classical.choose (K t), fun t => (Classical.choose_spec (K t)).1, fun t ht => ((Classical.choose_spec (K t)).2 ht).1, fun t a ht e => ((Classical.choose_spec (K t)).2 ht).2.1 a e, fun t ht e => ((Classical.choose_spec (K t)).2 ht).2.2 e⟩
theorem tow_back {h0 hc hr : av_H} {m : Nat} {D : Nat → Nat → Nat} {M V : Nat → Nat} (J : J_tow h0) (V9 : ∀ t, V t ≤ 9999) (Sc : SC h0 hc m D M V) (Vr : ∀ t, t < 6 → hr.2.1 150 t = nI (V t)) (A : agr (FP true [1] []) hc hr) (B : agr (FP false [143, 144, 145, 147, 148, 149] []) h0 hr) (V0 : ∀ t, t < 6 → h0.2.2.2 1 t = none → V t = 0) : J_tow hr := by
  obtain ⟨-, Tc, Kc⟩ := Sc.tv J V9
  have C := agr.mono Sc.2.1 (fT_up J (cs := [143, 144, 145, 147, 148, 149]) (fs := []) (by decide +kernel) (by decide) (by decide))
  have T : ∀ t, hr.2.2.2 1 t = h0.2.2.2 1 t := fun t => (A.R rfl).trans (Tc t)
  have G : ∀ a k, 226 ≤ a → FP true [1] [] a k = true := fun a k q => by simp [FP, q]
  refine ⟨fun t ht => ?_, fun t u a b => by rw [T, T]; exact J.2 t u a b⟩
  rw [T]
  rcases J.1 t ht with ⟨h1, h2⟩ | ⟨a, h1, -⟩
  · refine Or.inl ⟨h1, ?_⟩
    obtain ⟨a1, a2, a3, a4, a5, a6⟩ := h2
    exact ⟨(B.I rfl).trans a1, (B.I rfl).trans a2, (B.I rfl).trans a3, by rw [Vr t ht, V0 t ht h1]; rfl, fun s hs c hc f hf => (B.I rfl).trans (a5 s hs c hc f hf), fun s hs x hx => (B.I rfl).trans (a6 s hs x hx)⟩
  · refine Or.inr ⟨a, h1, ?_⟩
    obtain ⟨b0, b1, b2, b3, b4, b5, ⟨F, C', W, L, V', p1, p2, p3, p4, p5, p6, p7, p8, p9, q1, q2, q3, q4, q5, q6, q7, q8, q9⟩, b7, b8⟩ := Kc t a ht h1
    have e4 := Sc.2.2.2 t a ht h1
    refine ⟨b0, A.k b1, A.k b2, A.k b3, (A.R (G _ _ b0)).trans b4, (A.R (G _ _ b0)).trans b5, ⟨F, C', W, L, V t, p1, p2, p3, p4, p5, p6, p7, p8, V9 t, (A.I (G _ _ b0)).trans q1, (B.I rfl).trans ((C.I rfl).symm.trans q2), (A.I (G _ _ b0)).trans q3, (B.I rfl).trans ((C.I rfl).symm.trans q4), (A.I (G _ _ b0)).trans q5, (B.I rfl).trans ((C.I rfl).symm.trans q6), (A.I (G _ _ b0)).trans q7, (B.I rfl).trans ((C.I rfl).symm.trans q8), (A.I (G _ _ b0)).trans e4, Vr t ht⟩, fun s hs c hc => ?_, fun s hs => ?_⟩
    · obtain ⟨b, z1, z2, z3⟩ := b7 s hs c hc
      exact ⟨b, z1, (A.I (G _ _ (by omega))).trans z2, fun f hf => (B.I rfl).trans ((C.I rfl).symm.trans (z3 f hf))⟩
    · obtain ⟨b, z1, z2, z3⟩ := b8 s hs
      exact ⟨b, z1, (A.I (G _ _ (by omega))).trans z2, fun x hx => (B.I rfl).trans ((C.I rfl).symm.trans (z3 x hx))⟩
/-- the drops made before are as they were -/
def grew (h h2 : av_H) : Prop := ∃ m D M N m' D' M' N', DB m D M N ∧ DC h m D M ∧ DB m' D' M' N' ∧ DC h2 m' D' M' ∧ m ≤ m' ∧ ∀ i, i < m → D' i = D i ∧ M' i = M i
section
variable {X : av_X} {d : Nat} {h : av_H}
theorem SR_0 {hc : av_H} {m : Nat} {D : Nat → Nat → Nat} {M N V : Nat → Nat} (wc : WF hc) (R : DR h m D N) (W : DW h m D M) (Vr : ∀ t, t < 6 → h.2.1 150 t = nI (V t)) (A : off true ([64, 71, 76] ++ dCells) [(0, 17)] h hc) : SR h hc m D M N V :=
  ⟨wc, A.fr (by decide +kernel), R.fr (A.fr (by decide +kernel)), W.fr (A.fr (by decide +kernel)), fun t ht => by
    rw [(A.fr (q := false) (cs := [150]) (fs := []) (by decide +kernel)).I rfl]
    exact Vr t ht⟩
theorem drop_ok (w : WF h) (J : J_tow h) (Jw : J_wi h) (Jf : J_fi h) (Jl : J_lv h) (Jk : J_ke h) (Jn : J_ne h) (Jr : J_ru h) (Je : J_el h) (Jd : J_dr h) (Dp : J_dp h) (t s x e k a b : Int32) : ∃ v h1 h2, ev X (d + 7) 140 [vr (some 0), vi t, vi s, vi x, vi e, vi k, vi a, vi b] h = av_rI v h1 ∧ ev X (d + 7) 299 [vr (some 137), vi t, vi s, vi x, vi e, vi k, vi a, vi b] h1 = av_rI v h2 ∧ WF h2 ∧ J_tow h2 ∧ J_dp h2 ∧ grew h h2 ∧ off true ([64, 71, 76, 146, 150, 166, 167] ++ dCells ++ rCells) [(0, 17), (137, 0), (137, 45)] h h2 := by
  obtain ⟨m, D, M, N, B, Dc, Dr, Wd⟩ := Dp
  have h60 := B.1
  obtain ⟨V, V9, Vr, Vc, V0⟩ := J.V
  have Sc : SC h h m D M V := ⟨w, agr.rfl, Dc, Vc⟩
  obtain ⟨v, hc, ea, Sc1, Oc, -, no, yes⟩ := dr_step (X := X) (d := d) (dc := d) J Jw Jf Jl Jk Jn Jr Je Jd B V9 Sc t s x e k a b
  by_cases v0 : v = 0
  · obtain ⟨hc2, D', M', N', V', ek, hm, B', V9', Sc2, ag, V0', Ok, yr⟩ := yes v0
    have S2 : SR h hc2 m D M N V := SR_0 Sc2.1 Dr Wd Vr (agr.tr (Oc.up (by decide +kernel)) (Ok.up (by decide +kernel)))
    obtain ⟨hr, er, Sr, Or', -⟩ := yr hc2 S2
    refine ⟨nI m, hc2, hr, ?_, er, Sr.1, ?_, ⟨m + 1, D', M', N', B', Sc2.2.2.1.fr B'.1 (Or'.fr (by decide +kernel)), Sr.2.2.1, Sr.2.2.2.1⟩, ⟨m, D, M, N, m + 1, D', M', N', B, Dc, B', Sc2.2.2.1.fr B'.1 (Or'.fr (by decide +kernel)), by omega, fun i hi => ⟨(ag i hi).1, (ag i hi).2.1⟩⟩, ?_⟩
    · rw [e_140, b_140_0, is_0 w, ea, av_cI_r, Option.bind_some, if_pos v0, is_0 Sc1.1, ek, av_cI_r, Option.bind_some]
    · exact tow_back J V9' Sc2 Sr.2.2.2.2 (Or'.fr (by decide +kernel)) (Sr.2.1.sub (by decide +kernel)) (fun t ht z => (V0' t z).trans (V0 t ht z))
    · exact agr.tr (Oc.up (by decide +kernel)) (agr.tr (Ok.up (by decide +kernel)) (Or'.up (by decide +kernel)))
  · have S1 : SR h hc m D M N V := SR_0 Sc1.1 Dr Wd Vr (Oc.up (by decide +kernel))
    obtain ⟨hr, er, Sr, Or', -⟩ := no v0 hc S1
    refine ⟨-1, hc, hr, ?_, er, Sr.1, ?_, ⟨m, D, M, N, B, Sc1.2.2.1.fr B.1 (Or'.fr (by decide +kernel)), Sr.2.2.1, Sr.2.2.2.1⟩, ⟨m, D, M, N, m, D, M, N, B, Dc, B, Sc1.2.2.1.fr B.1 (Or'.fr (by decide +kernel)), by omega, fun i hi => ⟨rfl, rfl⟩⟩, ?_⟩
    · rw [e_140, b_140_0, is_0 w, ea, av_cI_r, Option.bind_some, if_neg v0]
    · exact tow_back J V9 Sc1 Sr.2.2.2.2 (Or'.fr (by decide +kernel)) (Sr.2.1.sub (by decide +kernel)) V0
    · exact agr.tr (Oc.up (by decide +kernel)) (Or'.up (by decide +kernel))
/-- why, with what the drops were -/
theorem why_ok2 (w : WF h) (J : J_tow h) (Jw : J_wi h) (Jf : J_fi h) (Jl : J_lv h) (Jk : J_ke h) (Jn : J_ne h) (Jr : J_ru h) (Je : J_el h) (Jd : J_dr h) (Dp : J_dp h) (t s x e k a b : Int32) : ∃ v h1 h2, ev X (d + 7) 139 [vr (some 0), vi t, vi s, vi x, vi e, vi k, vi a, vi b] h = av_rI v h1 ∧ ev X (d + 7) 298 [vr (some 137), vi t, vi s, vi x, vi e, vi k, vi a, vi b] h1 = av_rI v h2 ∧ WF h2 ∧ J_dp h2 ∧ grew h h2 ∧ off false ([64, 71, 76, 166, 167] ++ dCells) [(137, 0)] h h2 := by
  obtain ⟨m, D, M, N, B, Dc, Dr, Wd⟩ := Dp
  obtain ⟨V, V9, Vr, Vc, V0⟩ := J.V
  have Sc : SC h h m D M V := ⟨w, agr.rfl, Dc, Vc⟩
  obtain ⟨v, hc, ea, Sc1, Oc, wy, -, -⟩ := dr_step (X := X) (d := d) (dc := d) J Jw Jf Jl Jk Jn Jr Je Jd B V9 Sc t s x e k a b
  have S1 : SR h hc m D M N V := SR_0 Sc1.1 Dr Wd Vr (Oc.up (by decide +kernel))
  obtain ⟨hr, er, Sr, Or', -⟩ := wy hc S1
  refine ⟨v, hc, hr, ?_, er, Sr.1, ⟨m, D, M, N, B, Sc1.2.2.1.fr B.1 (Or'.fr (by decide +kernel)), Sr.2.2.1, Sr.2.2.2.1⟩, ⟨m, D, M, N, m, D, M, N, B, Dc, B, Sc1.2.2.1.fr B.1 (Or'.fr (by decide +kernel)), by omega, fun i hi => ⟨rfl, rfl⟩⟩, agr.tr (Oc.up (by decide +kernel)) (Or'.up (by decide +kernel))⟩
  rw [e_139, b_139_0, is_0 w, ea, av_cI_r, Option.bind_some]
end
