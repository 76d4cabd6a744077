/-! a drop is made: the reference, behind its answer that nothing stands against it -/
/-- all but the facts, the pile, row m of the drops, the panes, the ropes and the count -/
def fW (m a k : Nat) : Bool := !(decide (a = 166) || decide (a = 167) || decide (a = 146) || decide (a = 150) || (decide (a = 137) && decide (k = 45)) || (decide (168 ≤ a) && (decide (a ≤ 185) && decide (k = m))))
theorem fW_m {m a : Nat} (h1 : 168 ≤ a) (h2 : a ≤ 185) : fW m a m = false := by
  rw [fW, decide_eq_true h1, decide_eq_true h2, decide_eq_true rfl, Bool.true_and, Bool.true_and, Bool.or_true]
  rfl
theorem fW_q {m : Nat} {h g k : av_H} (A : agr (fW m) h g) (T : tQ g k) : agr (fW m) h k := agr.tr A (agr.mono T.2 (fun a k e => by
  simp only [fW, Bool.not_eq_true', Bool.or_eq_false_iff, decide_eq_false_iff_not] at e
  simp only [FP, Bool.false_and, Bool.false_or, Bool.not_eq_true', Bool.or_eq_false_iff, List.elem_eq_mem, decide_eq_false_iff_not, List.mem_cons, not_or]
  exact ⟨⟨e.1.1.1.1.1, e.1.1.1.1.2, List.not_mem_nil⟩, List.not_mem_nil⟩))
theorem fW_up {m : Nat} {q : Bool} {cs : List Nat} {fs : List (Nat × Nat)} (D : fpD q cs fs false ([146, 150, 166, 167] ++ rCells) [(137, 45)] = true) : ∀ a k, FP q cs fs a k = true → fW m a k = true := fun a k e => by
  have z := fpD_ok D e
  rw [Bool.not_eq_true'] at z
  simp only [FP, Bool.false_and, Bool.false_or, Bool.or_eq_false_iff, List.elem_eq_mem, decide_eq_false_iff_not, List.mem_append, List.mem_cons, not_or, rCells, List.not_mem_nil, not_false_eq_true, and_true, Prod.mk.injEq, not_and] at z
  simp only [fW, Bool.not_eq_true', Bool.or_eq_false_iff, Bool.and_eq_false_iff, decide_eq_false_iff_not]
  omega

section
variable {X : av_X} {d : Nat} {h : av_H}
theorem s_drop0 {g : av_H} (wh : WF h) (w : WF g) {u : Ru} (o : u.ok) (Q : u.Q g) (Jw : J_wi g) {mn : Nat} {q : Nat → Nat} (Nb : neB mn q) (Nq : neQ g mn q) {t s x e k H a b F C W ag V wr pr wa ya yb N Mm m : Nat} {D : Nat → Nat → Nat} {M : Nat → Nat} (hm : m < 60) (h45 : g.2.1 137 45 = nI m) (t6 : t < 6) (hs4 : s < 4) (xC : x < C) (C10 : C ≤ 10) (W4 : W ≤ 4) (F1 : 1 ≤ F) (F12 : F ≤ 12) (he : e < 100) (hk24 : k < 24) (a10 : a < 10) (b10 : b < 10) (eH : H = (F + u.r - 1) / u.r) (hF : g.2.1 143 t = nI F) (hC : g.2.1 144 t = nI C) (hW : g.2.1 148 t = nI W) (hV : g.2.1 150 t = nI V) (hxa : g.2.1 160 a = nI ya) (hxb : g.2.1 160 b = nI yb) (yae : ya ≤ e) (ybe : yb ≤ e) (eN : N = ro (roP g mn q t s x (nI e)) (min W (C - x)) F) (hN48 : N < 2 ^ 48) (hM48 : Mm < 2 ^ 48) (nb : ∀ c, c < 4 → ∀ f, f < 12 → N.testBit (4 * f + c) = true → f < F ∧ x + c < 10) (Wd : ∀ f, f < 12 → ∀ c, c < 10 → g.2.1 146 (((4 * t + s) * 12 + f) * 10 + c) = oI (wsh D M t s f c m)) (de : ∀ i, i < m → D i 4 ≤ e) (eq : ∀ c, c < 4 → ∀ f, f < 12 → Mm.testBit (12 * c + f) = N.testBit (4 * f + c)) (R : agO (fun c f => wsh D M t s f (x + c) m) Mm e ag) (ewr : mx0 (u.an 0 (fct t s F e k (wvN g s e k) (bct Mm) H V ag)) = nI wr) (epr : mx0 (u.an 1 (fct t s F e k (wvN g s e k) (bct Mm) H V ag)) = nI pr) (ewa : mx0 (u.an 2 (fct t s F e k (wvN g s e k) (bct Mm) H V ag)) = nI wa)
    (e1 : ev X (d + 6) 296 [vr (some 137), vi (nI t), vi (nI s), vi (nI x), vi (nI e), vi (nI k), vi (nI a), vi (nI b)] (th h) = av_rI (bI true) (th h)) (e2 : ev X (d + 6) 297 [vr (some 137), vi (nI t), vi (nI s), vi (nI x), vi (nI e), vi (nI k), vi (nI a), vi (nI b)] (th h) = av_rI 0 g) : ∃ G, ev X (d + 7) 299 [vr (some 137), vi (nI t), vi (nI s), vi (nI x), vi (nI e), vi (nI k), vi (nI a), vi (nI b)] h = av_rI (nI m) G ∧ WF G ∧ agr (fW m) g G ∧ dpr G m (dF t s x F e k H u.r a b ya yb (bct Mm) V ag wr pr wa) N ∧ G.2.1 137 45 = nI (m + 1) ∧ G.2.1 146 = wsW (g.2.1 146) N t s x e 48 ∧ G.2.1 150 = upd (g.2.1 150) t (nI (V + wr)) := by
  have rr := o.2.2.2.1
  have wt : WF (th h) := wh
  have h0' : ¬ nI u.r = 0 := nI_ne0 (by omega) (by omega)
  have r0 : agr (fW m) g g := agr.rfl
  have w0 := w
  obtain ⟨g1, hg1⟩ : ∃ z, z = av_uI g 168 m (nI t) := ⟨_, rfl⟩
  have w1 : WF g1 := by rw [hg1]; exact w0
  have r1 : agr (fW m) g g1 := by rw [hg1]; exact agr.uI (fW_m (by decide) (by decide)) r0
  obtain ⟨g2, hg2⟩ : ∃ z, z = av_uI g1 169 m (nI s) := ⟨_, rfl⟩
  have w2 : WF g2 := by rw [hg2]; exact w1
  have r2 : agr (fW m) g g2 := by rw [hg2]; exact agr.uI (fW_m (by decide) (by decide)) r1
  obtain ⟨g3, hg3⟩ : ∃ z, z = av_uI g2 170 m (nI x) := ⟨_, rfl⟩
  have w3 : WF g3 := by rw [hg3]; exact w2
  have r3 : agr (fW m) g g3 := by rw [hg3]; exact agr.uI (fW_m (by decide) (by decide)) r2
  obtain ⟨g4, hg4⟩ : ∃ z, z = av_uI g3 171 m (nI e) := ⟨_, rfl⟩
  have w4 : WF g4 := by rw [hg4]; exact w3
  have r4 : agr (fW m) g g4 := by rw [hg4]; exact agr.uI (fW_m (by decide) (by decide)) r3
  obtain ⟨g5, hg5⟩ : ∃ z, z = av_uI g4 172 m (nI k) := ⟨_, rfl⟩
  have w5 : WF g5 := by rw [hg5]; exact w4
  have r5 : agr (fW m) g g5 := by rw [hg5]; exact agr.uI (fW_m (by decide) (by decide)) r4
  obtain ⟨g6, hg6⟩ : ∃ z, z = av_uI g5 173 m (nI H) := ⟨_, rfl⟩
  have w6 : WF g6 := by rw [hg6]; exact w5
  have r6 : agr (fW m) g g6 := by rw [hg6]; exact agr.uI (fW_m (by decide) (by decide)) r5
  obtain ⟨g7, hg7⟩ : ∃ z, z = av_uI g6 174 m (nI u.r) := ⟨_, rfl⟩
  have w7 : WF g7 := by rw [hg7]; exact w6
  have r7 : agr (fW m) g g7 := by rw [hg7]; exact agr.uI (fW_m (by decide) (by decide)) r6
  obtain ⟨g8, hg8⟩ : ∃ z, z = av_uI g7 175 m (nI a) := ⟨_, rfl⟩
  have w8 : WF g8 := by rw [hg8]; exact w7
  have r8 : agr (fW m) g g8 := by rw [hg8]; exact agr.uI (fW_m (by decide) (by decide)) r7
  obtain ⟨g9, hg9⟩ : ∃ z, z = av_uI g8 176 m (nI b) := ⟨_, rfl⟩
  have w9 : WF g9 := by rw [hg9]; exact w8
  have r9 : agr (fW m) g g9 := by rw [hg9]; exact agr.uI (fW_m (by decide) (by decide)) r8
  obtain ⟨g10, hg10⟩ : ∃ z, z = av_uI g9 177 m (nI (bct Mm)) := ⟨_, rfl⟩
  have w10 : WF g10 := by rw [hg10]; exact w9
  have r10 : agr (fW m) g g10 := by rw [hg10]; exact agr.uI (fW_m (by decide) (by decide)) r9
  obtain ⟨g11, hg11⟩ : ∃ z, z = av_uI g10 181 m (nI V) := ⟨_, rfl⟩
  have w11 : WF g11 := by rw [hg11]; exact w10
  have r11 : agr (fW m) g g11 := by rw [hg11]; exact agr.uI (fW_m (by decide) (by decide)) r10
  obtain ⟨g12, hg12⟩ : ∃ z, z = av_uI g11 182 m (nI ag) := ⟨_, rfl⟩
  have w12 : WF g12 := by rw [hg12]; exact w11
  have r12 : agr (fW m) g g12 := by rw [hg12]; exact agr.uI (fW_m (by decide) (by decide)) r11
  obtain ⟨g13, hg13⟩ : ∃ z, z = av_uL g12 185 m (lN N) := ⟨_, rfl⟩
  have w13 : WF g13 := by rw [hg13]; exact w12
  have r13 : agr (fW m) g g13 := by rw [hg13]; exact agr.uL (fW_m (by decide) (by decide)) r12
  obtain ⟨g14, hg14⟩ : ∃ z, z = av_uI g13 183 m (nI (e - ya)) := ⟨_, rfl⟩
  have w14 : WF g14 := by rw [hg14]; exact w13
  have r14 : agr (fW m) g g14 := by rw [hg14]; exact agr.uI (fW_m (by decide) (by decide)) r13
  obtain ⟨g15, hg15⟩ : ∃ z, z = av_uI g14 184 m (nI (e - yb)) := ⟨_, rfl⟩
  have w15 : WF g15 := by rw [hg15]; exact w14
  have r15 : agr (fW m) g g15 := by rw [hg15]; exact agr.uI (fW_m (by decide) (by decide)) r14
  have v168 : g15.2.1 168 m = nI t := by simp [hg15, hg14, hg13, hg12, hg11, hg10, hg9, hg8, hg7, hg6, hg5, hg4, hg3, hg2, hg1, av_uI, av_uL, va_up, upd, vp_updL]
  have v169 : g15.2.1 169 m = nI s := by simp [hg15, hg14, hg13, hg12, hg11, hg10, hg9, hg8, hg7, hg6, hg5, hg4, hg3, hg2, hg1, av_uI, av_uL, va_up, upd, vp_updL]
  have v170 : g15.2.1 170 m = nI x := by simp [hg15, hg14, hg13, hg12, hg11, hg10, hg9, hg8, hg7, hg6, hg5, hg4, hg3, hg2, hg1, av_uI, av_uL, va_up, upd, vp_updL]
  have v171 : g15.2.1 171 m = nI e := by simp [hg15, hg14, hg13, hg12, hg11, hg10, hg9, hg8, hg7, hg6, hg5, hg4, hg3, hg2, hg1, av_uI, av_uL, va_up, upd, vp_updL]
  have v172 : g15.2.1 172 m = nI k := by simp [hg15, hg14, hg13, hg12, hg11, hg10, hg9, hg8, hg7, hg6, hg5, hg4, hg3, hg2, hg1, av_uI, av_uL, va_up, upd, vp_updL]
  have v173 : g15.2.1 173 m = nI H := by simp [hg15, hg14, hg13, hg12, hg11, hg10, hg9, hg8, hg7, hg6, hg5, hg4, hg3, hg2, hg1, av_uI, av_uL, va_up, upd, vp_updL]
  have v174 : g15.2.1 174 m = nI u.r := by simp [hg15, hg14, hg13, hg12, hg11, hg10, hg9, hg8, hg7, hg6, hg5, hg4, hg3, hg2, hg1, av_uI, av_uL, va_up, upd, vp_updL]
  have v175 : g15.2.1 175 m = nI a := by simp [hg15, hg14, hg13, hg12, hg11, hg10, hg9, hg8, hg7, hg6, hg5, hg4, hg3, hg2, hg1, av_uI, av_uL, va_up, upd, vp_updL]
  have v176 : g15.2.1 176 m = nI b := by simp [hg15, hg14, hg13, hg12, hg11, hg10, hg9, hg8, hg7, hg6, hg5, hg4, hg3, hg2, hg1, av_uI, av_uL, va_up, upd, vp_updL]
  have v177 : g15.2.1 177 m = nI (bct Mm) := by simp [hg15, hg14, hg13, hg12, hg11, hg10, hg9, hg8, hg7, hg6, hg5, hg4, hg3, hg2, hg1, av_uI, av_uL, va_up, upd, vp_updL]
  have v181 : g15.2.1 181 m = nI V := by simp [hg15, hg14, hg13, hg12, hg11, hg10, hg9, hg8, hg7, hg6, hg5, hg4, hg3, hg2, hg1, av_uI, av_uL, va_up, upd, vp_updL]
  have v182 : g15.2.1 182 m = nI ag := by simp [hg15, hg14, hg13, hg12, hg11, hg10, hg9, hg8, hg7, hg6, hg5, hg4, hg3, hg2, hg1, av_uI, av_uL, va_up, upd, vp_updL]
  have v185 : g15.2.2.1 185 m = lN N := by simp [hg15, hg14, hg13, hg12, hg11, hg10, hg9, hg8, hg7, hg6, hg5, hg4, hg3, hg2, hg1, av_uI, av_uL, va_up, upd, vp_updL]
  have v183 : g15.2.1 183 m = nI (e - ya) := by simp [hg15, hg14, hg13, hg12, hg11, hg10, hg9, hg8, hg7, hg6, hg5, hg4, hg3, hg2, hg1, av_uI, av_uL, va_up, upd, vp_updL]
  have v184 : g15.2.1 184 m = nI (e - yb) := by simp [hg15, hg14, hg13, hg12, hg11, hg10, hg9, hg8, hg7, hg6, hg5, hg4, hg3, hg2, hg1, av_uI, av_uL, va_up, upd, vp_updL]
  have A15 : ∀ {q : Bool} {cs : List Nat} {fs : List (Nat × Nat)}, fpD q cs fs false ([146, 150, 166, 167] ++ rCells) [(137, 45)] = true → agr (FP q cs fs) g g15 := fun D => agr.mono r15 (fW_up D)
  have c146 : g15.2.1 146 = g.2.1 146 := by simp [hg15, hg14, hg13, hg12, hg11, hg10, hg9, hg8, hg7, hg6, hg5, hg4, hg3, hg2, hg1, av_uI, av_uL, va_up]
  have c150 : g15.2.1 150 = g.2.1 150 := by simp [hg15, hg14, hg13, hg12, hg11, hg10, hg9, hg8, hg7, hg6, hg5, hg4, hg3, hg2, hg1, av_uI, av_uL, va_up]
  have c137 : g15.2.1 137 = g.2.1 137 := by simp [hg15, hg14, hg13, hg12, hg11, hg10, hg9, hg8, hg7, hg6, hg5, hg4, hg3, hg2, hg1, av_uI, av_uL, va_up]
  have c12 : g12.2.1 146 = g.2.1 146 := by simp [hg15, hg14, hg13, hg12, hg11, hg10, hg9, hg8, hg7, hg6, hg5, hg4, hg3, hg2, hg1, av_uI, av_uL, va_up]
  have c11 : g11.2.1 146 = g.2.1 146 := by simp [hg15, hg14, hg13, hg12, hg11, hg10, hg9, hg8, hg7, hg6, hg5, hg4, hg3, hg2, hg1, av_uI, av_uL, va_up]
  have c10 : g10.2.1 150 = g.2.1 150 := by simp [hg15, hg14, hg13, hg12, hg11, hg10, hg9, hg8, hg7, hg6, hg5, hg4, hg3, hg2, hg1, av_uI, av_uL, va_up]
  have c9 : g9.2.1 150 = g.2.1 150 := by simp [hg15, hg14, hg13, hg12, hg11, hg10, hg9, hg8, hg7, hg6, hg5, hg4, hg3, hg2, hg1, av_uI, av_uL, va_up]

  have wvg : wvN g15 s e k = wvN g s e k := wv_fr (A15 (by decide +kernel))
  have T15 : tQ g15 g15 := ⟨w15, agr.rfl⟩
  have Q15 : u.Q g15 := Q.fr (A15 (by decide +kernel))
  have W15 : J_wi g15 := Jw.fr (A15 (by decide +kernel))
  obtain ⟨k1, K1, f1, el⟩ := s_lays (X := X) (d := d + 5) (h := g15) (pn := bct Mm) (hs := H) (wo := V) (ag := ag) T15 t6 (((A15 (q := false) (cs := [143]) (fs := []) (by decide +kernel)).I rfl).trans hF)
  obtain ⟨k2, K2, f2, eb0⟩ := s_byLine (X := X) (d := d + 3) K1 o Q15 W15 (show 0 < 3 by decide) hs4 he hk24 f1
  rw [wvg, ewr] at eb0
  obtain ⟨k3, hk3⟩ : ∃ z, z = av_uI k2 178 m (nI wr) := ⟨_, rfl⟩
  have wk3 : WF k3 := by rw [hk3]; exact K2.1
  have O3 : off false [166, 167, 178] [] g15 k3 := by rw [hk3]; exact agr.uI rfl (K2.2.up (by decide))
  have f3 : fQ k3 t F (bct Mm) H V ag := by
    unfold fQ
    rw [hk3, uI_ne (by decide)]
    exact f2
  obtain ⟨k4, K4, f4, eb1⟩ := s_byLine (X := X) (d := d + 3) (show tQ k3 k3 from ⟨wk3, agr.rfl⟩) o (Q15.fr (O3.fr (by decide))) (W15.fr (O3.fr (by decide))) (show 1 < 3 by decide) hs4 he hk24 f3
  rw [wv_fr (O3.fr (by decide)), wvg, epr] at eb1
  obtain ⟨k5, hk5⟩ : ∃ z, z = av_uI k4 179 m (nI pr) := ⟨_, rfl⟩
  have wk5 : WF k5 := by rw [hk5]; exact K4.1
  have O5 : off false [166, 167, 179] [] k3 k5 := by rw [hk5]; exact agr.uI rfl (K4.2.up (by decide))
  have P5 : off false [166, 167, 178, 179] [] g15 k5 := agr.tr (O3.up (by decide)) (O5.up (by decide))
  have f5 : fQ k5 t F (bct Mm) H V ag := by
    unfold fQ
    rw [hk5, uI_ne (by decide)]
    exact f4
  obtain ⟨k6, K6, f6, eb2⟩ := s_byLine (X := X) (d := d + 3) (show tQ k5 k5 from ⟨wk5, agr.rfl⟩) o (Q15.fr (P5.fr (by decide))) (W15.fr (P5.fr (by decide))) (show 2 < 3 by decide) hs4 he hk24 f5
  rw [wv_fr (P5.fr (by decide)), wvg, ewa] at eb2
  obtain ⟨k7, hk7⟩ : ∃ z, z = av_uI k6 180 m (nI wa) := ⟨_, rfl⟩
  have wk7 : WF k7 := by rw [hk7]; exact K6.1
  have O7 : off false [166, 167, 180] [] k5 k7 := by rw [hk7]; exact agr.uI rfl (K6.2.up (by decide))
  have P7 : off false [166, 167, 178, 179, 180] [] g15 k7 := agr.tr (P5.up (by decide)) (O7.up (by decide))
  have v178 : k7.2.1 178 m = nI wr := by
    rw [(O7.fr (q := false) (cs := [178]) (fs := []) (by decide)).I rfl, (O5.fr (q := false) (cs := [178]) (fs := []) (by decide)).I rfl, hk3, uI_eq]
  have v179 : k7.2.1 179 m = nI pr := by
    rw [(O7.fr (q := false) (cs := [179]) (fs := []) (by decide)).I rfl, hk5, uI_eq]
  have v180 : k7.2.1 180 m = nI wa := by
    rw [hk7, uI_eq]
  have F7 := P7.fr (q := false) (cs := [146, 150, 168, 169, 170, 171, 172, 173, 174, 175, 176, 177, 181, 182, 183, 184, 185]) (fs := [(137, 45)]) (by decide)
  have d150 : k7.2.1 150 = g.2.1 150 := (funext (fun j => F7.I rfl)).trans c150
  have d146 : k7.2.1 146 = g.2.1 146 := (funext (fun j => F7.I rfl)).trans c146
  have d45 : k7.2.1 137 45 = nI m := (F7.I rfl).trans ((congrFun c137 45).trans h45)
  have r7 : agr (fW m) g k7 := by
    rw [hk7]
    refine agr.uI (fW_m (by decide) (by decide)) (fW_q ?_ K6)
    rw [hk5]
    refine agr.uI (fW_m (by decide) (by decide)) (fW_q ?_ K4)
    rw [hk3]
    exact agr.uI (fW_m (by decide) (by decide)) (fW_q r15 K2)
  obtain ⟨k8, hk8⟩ : ∃ z, z = av_uI k7 150 t (nI (V + wr)) := ⟨_, rfl⟩
  have wk8 : WF k8 := by rw [hk8]; exact wk7
  have e45 : k8.2.1 137 45 = nI m := by rw [hk8, uI_ne (by decide)]; exact d45
  have e146 : k8.2.1 146 = g.2.1 146 := by rw [hk8, uI_ne (by decide)]; exact d146
  have lp := ws_lp (X := X) (d := d + 5) (v8 := nI m) wk8 t6 hs4 he hN48 (fun c hc f hf z => (nb c hc f hf z).2) e45 48 0 rfl
  rw [wsW, setC_id] at lp
  have r8 : agr (fW m) g (av_uI (setC k8 146 (wsW (k8.2.1 146) N t s x e 48)) 137 45 (nI (m + 1))) := by
    refine agr.uI (by simp [fW]) (agr.setC (fun j => by simp [fW]) ?_)
    rw [hk8]
    exact agr.uI (by simp [fW]) r7
  have G1 : ∀ {b j : Nat}, b ≠ 137 → b ≠ 146 → b ≠ 150 → (av_uI (setC k8 146 (wsW (k8.2.1 146) N t s x e 48)) 137 45 (nI (m + 1))).2.1 b j = k7.2.1 b j := fun z1 z2 z3 => by
    rw [uI_ne z1, setC_ne z2, hk8, uI_ne z3]
  have G2 : (av_uI (setC k8 146 (wsW (k8.2.1 146) N t s x e 48)) 137 45 (nI (m + 1))).2.2.1 = k7.2.2.1 := by
    rw [hk8]
    rfl
  refine ⟨av_uI (setC k8 146 (wsW (k8.2.1 146) N t s x e 48)) 137 45 (nI (m + 1)), ?_, wk8, r8, ⟨?_, ?_, ?_, ?_, ?_, ?_, ?_, ?_, ?_, ?_, ?_, ?_, ?_, ?_, ?_, ?_, ?_, ?_⟩, uI_eq, ?_, ?_⟩
  · rw [e_299, b_299_0, pI_137 wh, th_e, is_137 wt, e1, av_cI_r, Option.bind_some, if_neg (show ¬ bI true = 0 by decide), is_137 wt, e2, av_cI_r, Option.bind_some, if_neg (show ¬ (0 : Int32) < 0 by decide), gIv_137_45 w h45, is_137 w, s_rO' w Nb Nq t6 hs4 xC hF F12 hC C10 hW W4, ← eN, gR_137_46 w, st_168 w hm, ← hg1, gR_137_47 w1, st_169 w1 hm, ← hg2, gR_137_48 w2, st_170 w2 hm, ← hg3, gR_137_49 w3, st_171 w3 hm, ← hg4, gR_137_50 w4, st_172 w4 hm, ← hg5, gR_137_51 w5, is_137 w5, e_290, b_290_0, gR_137_10 w5, ld_143 w5 t6, (agr.mono r5 (fW_up (q := false) (cs := [143]) (fs := []) (by decide +kernel))).I rfl, hF, gI_137_37 w5, (agr.mono r5 (fW_up (q := false) (cs := []) (fs := [(137, 37)]) (by decide +kernel))).I rfl, Q.2.2.1, gI_137_37 w5, (agr.mono r5 (fW_up (q := false) (cs := []) (fs := [(137, 37)]) (by decide +kernel))).I rfl, Q.2.2.1, if_neg h0', nI_add, nI_prd (by omega), pk_div (by omega) (by omega) (by omega), ← eH, av_cI_r, Option.bind_some, st_173 w5 hm, ← hg6, gR_137_52 w6, gI_137_37 w6, (agr.mono r6 (fW_up (q := false) (cs := []) (fs := [(137, 37)]) (by decide +kernel))).I rfl, Q.2.2.1, st_174 w6 hm, ← hg7, gR_137_53 w7, st_175 w7 hm, ← hg8, gR_137_54 w8, st_176 w8 hm, ← hg9, gR_137_55 w9, s_bits' (by omega), bits_eq2 hM48 eq, st_177 w9 hm, ← hg10, gR_137_59 w10, gR_137_17 w10, ld_150 w10 t6, c10, hV, st_181 w10 hm, ← hg11, gR_137_60 w11, is_137 w11, s_age w11 t6 hs4 (by omega) he hN48 nb (by rw [c11]; exact Wd) de eq R, av_cI_r, Option.bind_some, st_182 w11 hm, ← hg12, gR_137_63 w12, st_185 w12 hm, ← hg13, gR_137_61 w13, gR_137_29 w13, ld_160 w13 a10, (agr.mono r13 (fW_up (q := false) (cs := [160]) (fs := []) (by decide +kernel))).I rfl, hxa, pk_sub yae, st_183 w13 hm, ← hg14, gR_137_62 w14, gR_137_29 w14, ld_160 w14 b10, (agr.mono r14 (fW_up (q := false) (cs := [160]) (fs := []) (by decide +kernel))).I rfl, hxb, pk_sub ybe, st_184 w14 hm, ← hg15, gR_137_55 w15, ld_177 w15 hm, v177, gR_137_51 w15, ld_173 w15 hm, v173, gR_137_59 w15, ld_181 w15 hm, v181, gR_137_60 w15, ld_182 w15 hm, v182, is_137 w15, el, av_cV_r, Option.bind_some, gR_137_56 K1.1, is_137 K1.1, show (0 : Int32) = nI 0 from rfl, eb0, av_cI_r, Option.bind_some, st_178 K2.1 hm, ← hk3, gR_137_57 wk3, is_137 wk3, show (1 : Int32) = nI 1 from rfl, eb1, av_cI_r, Option.bind_some, st_179 K4.1 hm, ← hk5, gR_137_58 wk5, is_137 wk5, show (2 : Int32) = nI 2 from rfl, eb2, av_cI_r, Option.bind_some, st_180 K6.1 hm, ← hk7, gR_137_17 wk7, ld_150 wk7 t6, d150, hV, gR_137_56 wk7, ld_178 wk7 hm, v178, nI_add, st_150 wk7 t6, ← hk8]
    exact lp
  · exact (G1 (by decide) (by decide) (by decide)).trans ((F7.I rfl).trans v168)
  · exact (G1 (by decide) (by decide) (by decide)).trans ((F7.I rfl).trans v169)
  · exact (G1 (by decide) (by decide) (by decide)).trans ((F7.I rfl).trans v170)
  · exact (G1 (by decide) (by decide) (by decide)).trans ((F7.I rfl).trans v171)
  · exact (G1 (by decide) (by decide) (by decide)).trans ((F7.I rfl).trans v172)
  · exact (G1 (by decide) (by decide) (by decide)).trans ((F7.I rfl).trans v173)
  · exact (G1 (by decide) (by decide) (by decide)).trans ((F7.I rfl).trans v174)
  · exact (G1 (by decide) (by decide) (by decide)).trans ((F7.I rfl).trans v175)
  · exact (G1 (by decide) (by decide) (by decide)).trans ((F7.I rfl).trans v176)
  · exact (G1 (by decide) (by decide) (by decide)).trans ((F7.I rfl).trans v177)
  · exact (G1 (by decide) (by decide) (by decide)).trans v178
  · exact (G1 (by decide) (by decide) (by decide)).trans v179
  · exact (G1 (by decide) (by decide) (by decide)).trans v180
  · exact (G1 (by decide) (by decide) (by decide)).trans ((F7.I rfl).trans v181)
  · exact (G1 (by decide) (by decide) (by decide)).trans ((F7.I rfl).trans v182)
  · exact (G1 (by decide) (by decide) (by decide)).trans ((F7.I rfl).trans v183)
  · exact (G1 (by decide) (by decide) (by decide)).trans ((F7.I rfl).trans v184)
  · exact (congrFun (congrFun G2 185) m).trans ((F7.L rfl).trans v185)
  · rw [uI_ne (by decide), setC_eq, e146]
  · rw [uI_ne (by decide), setC_ne (by decide), hk8]
    funext j
    by_cases z : j = t
    · rw [z, uI_eq, pk_us]
    · rw [uI_nk z, pk_un z, d150]
end