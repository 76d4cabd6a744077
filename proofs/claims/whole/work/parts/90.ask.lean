/-! a drop asked for, by the class: all of it -/
section
variable {X : av_X} {d : Nat} {h : av_H}
theorem c_ask31 (w : WF h) (J : J_tv h) {u : Ru} (o : u.ok) (C : u.C h) (Jw : J_wi h) (Jf : J_fi h) {ml : Nat} (Jl : lvJ h ml) {mk : Nat} {Tk P K : Nat → Nat} {Bk : Nat → Bool} (kE : kyE h mk Tk P K Bk) {mn : Nat} {q : Nat → Nat} (Nb : neB mn q) (Nc : neC h mn q) {nf m t s x e k a b F Cc W L V tw sb eb : Nat} {xa xb : Int32} {D : Nat → Nat → Nat} {M N : Nat → Nat} (B : DB m D M N) (Dc : DC h m D M) (hm : m < 60) (t6 : t < 6) (hj : h.2.2.2 1 t = some tw) (T : twV h t tw) (hs : s < 4) (xC : x < Cc) (he : e < 100) (hk : k < 24) (a10 : a < 10) (b10 : b < 10) (r1 : h.2.1 tw 0 = nI F) (F1 : 1 ≤ F) (F12 : F ≤ 12) (r3 : h.2.1 tw 1 = nI Cc) (C10 : Cc ≤ 10) (r5 : h.2.1 tw 2 = nI W) (W4 : W ≤ 4) (r7 : h.2.1 tw 3 = nI L) (L9 : L ≤ 9999) (r9 : h.2.1 tw 4 = nI V) (V9 : V ≤ 9999) (hsb : h.2.1 (tw + 2) s = nI sb) (heb : h.2.1 27 3 = nI eb) (eb10 : eb < 1024) (hxa : h.2.1 28 a = xa) (hxb : h.2.1 28 b = xb) (xxa : xa = -1 ∨ ∃ y, y < 100 ∧ xa = nI y) (xxb : xb = -1 ∨ ∃ y, y < 100 ∧ xb = nI y) (hf : h.2.1 15 5 = nI nf) (hN : nf ≤ 12) (hol_n : ∀ hr p, hol Tk P K Bk t hr mk = some p → p < 10) (de : ∀ i, i < m → D i 4 ≤ e) : ∃ h' g3 Mm ag wr pr wa, tA m h h' ∧ tA m h g3 ∧ Mm = rp (rcQ g3 mn q F tw (t * 4 + s) s x (nI e)) (min W (Cc - x)) ∧ agO (fun c f => wsh D M t s f (x + c) m) Mm e ag ∧ (wr < 2147483648 ∧ pr < 2147483648 ∧ wa < 2147483648) ∧
    mx0 (u.an 0 (fct t s F e k (wvN h s e k) (bct Mm) ((F + u.r - 1) / u.r) V ag)) = nI wr ∧ mx0 (u.an 1 (fct t s F e k (wvN h s e k) (bct Mm) ((F + u.r - 1) / u.r) V ag)) = nI pr ∧ mx0 (u.an 2 (fct t s F e k (wvN h s e k) (bct Mm) ((F + u.r - 1) / u.r) V ag)) = nI wa ∧
    ((!drB xa e u.dd || !drB xb e u.dd) = false → dpc h' m (dF t s x F e k ((F + u.r - 1) / u.r) u.r a b xa.toNatClampNeg xb.toNatClampNeg (bct Mm) V ag wr pr wa) Mm) ∧
    bd X (d + 5) 203 31 [(0, vr (some 0)), (1, vi (nI t)), (2, vi (nI s)), (3, vi (nI x)), (4, vi (nI e)), (5, vi (nI k)), (6, vi (nI a)), (7, vi (nI b))] [] h = av_rI (whV (sb.testBit x) (decide (bct Mm = 0)) (decide (a = b) || (!eb.testBit a && !eb.testBit b)) (decide (24 < k + (F + u.r - 1) / u.r)) (anyN m 0 (gaB D e k ((F + u.r - 1) / u.r) (nI a) (nI b))) (anyN m 0 (crB D e k ((F + u.r - 1) / u.r) t)) (!drB xa e u.dd || !drB xb e u.dd) (anyN ((F + u.r - 1) / u.r) k (fun k => !lvB h ml (nI t) (nI e) (nI k))) (wh9 (anyN ((F + u.r - 1) / u.r) k (fun k => u.st (fct t s F e k (wvN h s e k) (bct Mm) ((F + u.r - 1) / u.r) V ag))) (anyN ((F + u.r - 1) / u.r) k (fun k => u.qu (fct t s F e k (wvN h s e k) (bct Mm) ((F + u.r - 1) / u.r) V ag))) (decide (L < V + wr)) (u.ky && anyN ((F + u.r - 1) / u.r) k (fun k => !kyB (nI a) (nI b) (hol Tk P K Bk t (e * 24 + k) mk))) (anyN nf 0 (flP h t s e k ((F + u.r - 1) / u.r))))) h' := by
  have rr := o.2.2.2.1
  have a226 := T.1
  have ea : ∀ j, fM m tw j = true := fun j => fM_d (by omega) (by omega) (by omega) (by omega)
  have ea2 : ∀ j, fM m (tw + 2) j = true := fun j => fM_d (by omega) (by omega) (by omega) (by omega)
  have H1 : 1 ≤ (F + u.r - 1) / u.r := Nat.div_pos (by omega) (by omega)
  have H24 : (F + u.r - 1) / u.r ≤ 24 := Nat.le_trans (Nat.div_le_self _ _) (by omega)
  rw [c_lay (d := d) w Dc hm t6 a10 b10 hj hxa hxb]
  have Tl : tA m h (lay9 h m t s x e k a b xa xb) := lay9_t w
  have lf := lay9_f (h := h) (m := m) (t := t) (s := s) (x := x) (e := e) (k := k) (a := a) (b := b) (xa := xa) (xb := xb)
  generalize lay9 h m t s x e k a b xa xb = hl at Tl lf
  obtain ⟨l0, l1, l2, l4, l5, l8, l9, l10, l11⟩ := lf
  have Al := Tl.up hm
  have Jl' : J_tv hl := J.fr (Al.fr (by decide +kernel))
  have hjl : hl.2.2.2 1 t = some tw := (Tl.2.R (fM_d (by decide) (by decide) (by decide) (by omega))).trans hj
  have Twl : twV hl t tw := by
    rcases Jl'.1 t t6 with ⟨z, -⟩ | ⟨a', z, y⟩
    · rw [hjl] at z; cases z
    · rw [hjl] at z
      injection z with z
      rw [z]
      exact y
  have Ncl : neC hl mn q := by
    have A := Al.fr (q := false) (cs := [3, 4, 7, 8]) (fs := []) (by decide +kernel)
    refine ⟨(A.I rfl).trans Nc.1, fun i hi => ?_⟩
    obtain ⟨z1, z2, z3⟩ := Nc.2 i hi
    exact ⟨(A.I rfl).trans z1, (A.I rfl).trans z2, (A.I rfl).trans z3⟩
  have wvl : wvN hl s e k = wvN h s e k := wv_fr (Al.fr (by decide +kernel))
  obtain ⟨hw, g3, Mm, ag, Tw, T3, eM, R, fk, v3, v6, v7, v12, v13, v14, v15, vL, ew⟩ := c_weigh (X := X) (d := d) (h := hl) Tl.1 o (C.fr o (Al.fr (by decide +kernel))) (Jw.fr (Al.fr (by decide +kernel))) Nb Ncl B (Dc.ta hm Tl) hm Jl' t6 hjl Twl hs xC he hk ((Tl.2.I (ea 0)).trans r1) F1 F12 ((Tl.2.I (ea 1)).trans r3) C10 ((Tl.2.I (ea 2)).trans r5) W4 ((Tl.2.I (ea 4)).trans r9) l0 l1 l2 l4 l5 de
  rw [wvl] at v15
  obtain ⟨wr, wr1, wr2⟩ := mx0_n (u.an 0 (fct t s F e k (wvN h s e k) (bct Mm) ((F + u.r - 1) / u.r) V ag))
  obtain ⟨pr, pr1, pr2⟩ := mx0_n (u.an 1 (fct t s F e k (wvN h s e k) (bct Mm) ((F + u.r - 1) / u.r) V ag))
  obtain ⟨wa, wa1, wa2⟩ := mx0_n (u.an 2 (fct t s F e k (wvN h s e k) (bct Mm) ((F + u.r - 1) / u.r) V ag))
  have Thw : tA m h hw := ⟨Tw.1, agr.tr Tl.2 Tw.2⟩
  have Ahw := Thw.up hm
  have bM : bct Mm < 100000 := Nat.lt_of_le_of_lt (fb_ct_le _ _) (by decide)
  have dp : (!drB xa e u.dd || !drB xb e u.dd) = false → dpc hw m (dF t s x F e k ((F + u.r - 1) / u.r) u.r a b xa.toNatClampNeg xb.toNatClampNeg (bct Mm) V ag wr pr wa) Mm := fun z => by
    rw [Bool.or_eq_false_iff, Bool.not_eq_false', Bool.not_eq_false'] at z
    refine ⟨fun j hj => ?_, vL⟩
    match j, hj with
    | 0, _ => exact (fk 0 (by decide)).trans l0
    | 1, _ => exact (fk 1 (by decide)).trans l1
    | 2, _ => exact (fk 2 (by decide)).trans l2
    | 3, _ => exact v3
    | 4, _ => exact (fk 4 (by decide)).trans l4
    | 5, _ => exact (fk 5 (by decide)).trans l5
    | 6, _ => exact v6
    | 7, _ => exact v7
    | 8, _ => exact (fk 8 (by decide)).trans l8
    | 9, _ => exact (fk 9 (by decide)).trans l9
    | 10, _ => exact ((fk 10 (by decide)).trans l10).trans (drB_y z.1 xxa).1
    | 11, _ => exact ((fk 11 (by decide)).trans l11).trans (drB_y z.2 xxb).1
    | 12, _ => exact v12
    | 13, _ => exact v13
    | 14, _ => exact v14
    | 15, _ => exact (v15 0 (by decide)).trans wr2
    | 16, _ => exact (v15 1 (by decide)).trans pr2
    | 17, _ => exact (v15 2 (by decide)).trans wa2
    | _ + 18, hj => exact absurd hj (by omega)
  have eg := c_whyG (X := X) (d := d + 1) (h := hw) (pn := bct Mm) (tw := tw) (sb := sb) (eb := eb) (xa := xa) (xb := xb) Thw.1 o (C.fr o (Ahw.fr (by decide +kernel))) B (Dc.ta hm Thw) hm t6 hs xC C10 he hk H24 a10 b10 (Thw.2.k T.2.1) (Thw.2.k T.2.2.2.1) ((Thw.2.R (ea 6)).trans T.2.2.2.2.2.1) ((Thw.2.I (ea2 s)).trans hsb) ((Thw.2.I (ea 1)).trans r3) ((Thw.2.I (fM_d (by decide) (by decide) (by decide) (by omega))).trans heb) eb10 bM ((fk 0 (by decide)).trans l0) ((fk 1 (by decide)).trans l1) ((fk 2 (by decide)).trans l2) ((fk 4 (by decide)).trans l4) ((fk 5 (by decide)).trans l5) v6 ((fk 8 (by decide)).trans l8) ((fk 9 (by decide)).trans l9) ((fk 10 (by decide)).trans l10) ((fk 11 (by decide)).trans l11) v12
  have hjw : hw.2.2.2 1 t = some tw := (Thw.2.R (fM_d (by decide) (by decide) (by decide) (by omega))).trans hj
  rw [ew, av_cV_r, Option.bind_some, gR_0_0 Thw.1, ld1v Thw.1 t6 hjw, is_0 Thw.1, eg, av_cI_r, Option.bind_some]
  have T3h : tA m h g3 := ⟨T3.1, agr.tr Tl.2 T3.2⟩
  by_cases z : wg7 (sb.testBit x) (decide (bct Mm = 0)) (decide (a = b) || (!eb.testBit a && !eb.testBit b)) (decide (24 < k + (F + u.r - 1) / u.r)) (anyN m 0 (gaB D e k ((F + u.r - 1) / u.r) (nI a) (nI b))) (anyN m 0 (crB D e k ((F + u.r - 1) / u.r) t)) (!drB xa e u.dd || !drB xb e u.dd) = 0
  · obtain ⟨-, -, -, z4, -, -, z7⟩ := wg7_0 z
    rw [decide_eq_false_iff_not] at z4
    have Pd := dp z7
    have W0 : tw0 hw t tw F V := ⟨t6, a226, hjw, Thw.2.k T.2.1, (Thw.2.I (ea 0)).trans r1, (Thw.2.I (ea 4)).trans r9⟩
    obtain ⟨h', T', e'⟩ := c_whyH (X := X) (d := d) Thw.1 o (C.fr o (Ahw.fr (by decide +kernel))) (Jw.fr (Ahw.fr (by decide +kernel))) (Jf.fr (Ahw.fr (by decide +kernel))) (Jl.fr (Ahw.fr (by decide +kernel))) (kE.fr (Ahw.fr (by decide +kernel))) (((Thw.2.I (fM_d (by decide) (by decide) (by decide) (by omega))).trans hf)) hN hm Pd W0 ((Thw.2.I (ea 3)).trans r7) L9 V9 hs he (show k + (F + u.r - 1) / u.r ≤ 24 by omega) H1 wr1 hol_n
    refine ⟨h', g3, Mm, ag, wr, pr, wa, Thw.tc T', T3h, eM, R, ⟨wr1, pr1, wa1⟩, wr2, pr2, wa2, fun y => (dp y).t hm T', ?_⟩
    rw [if_pos z, gR_0_0 Thw.1, ld1v Thw.1 t6 hjw, is_0 Thw.1, e', av_cI_r, Option.bind_some, whV_eq, if_pos z]
    have q8 : anyN ((F + u.r - 1) / u.r) k (fun k => !lvB hw ml (nI t) (nI e) (nI k)) = anyN ((F + u.r - 1) / u.r) k (fun k => !lvB h ml (nI t) (nI e) (nI k)) := anyN_cg _ _ (fun k _ _ => congrArg (fun b => !b) (lvB_fr (Ahw.fr (by decide +kernel))))
    have q9 : anyN ((F + u.r - 1) / u.r) k (fun k => u.st (fct t s F e k (wvN hw s e k) (bct Mm) ((F + u.r - 1) / u.r) V ag)) = anyN ((F + u.r - 1) / u.r) k (fun k => u.st (fct t s F e k (wvN h s e k) (bct Mm) ((F + u.r - 1) / u.r) V ag)) := anyN_cg _ _ (fun k _ _ => by rw [wv_fr (Ahw.fr (by decide +kernel))])
    have q10 : anyN ((F + u.r - 1) / u.r) k (fun k => u.qu (fct t s F e k (wvN hw s e k) (bct Mm) ((F + u.r - 1) / u.r) V ag)) = anyN ((F + u.r - 1) / u.r) k (fun k => u.qu (fct t s F e k (wvN h s e k) (bct Mm) ((F + u.r - 1) / u.r) V ag)) := anyN_cg _ _ (fun k _ _ => by rw [wv_fr (Ahw.fr (by decide +kernel))])
    have q13 : anyN nf 0 (flP hw t s e k ((F + u.r - 1) / u.r)) = anyN nf 0 (flP h t s e k ((F + u.r - 1) / u.r)) := anyN_cg _ _ (fun i _ _ => flP_fr (Ahw.fr (by decide +kernel)))
    rw [← q8, ← q9, ← q10, ← q13]
    rfl
  · refine ⟨hw, g3, Mm, ag, wr, pr, wa, Thw, T3h, eM, R, ⟨wr1, pr1, wa1⟩, wr2, pr2, wa2, dp, ?_⟩
    rw [if_neg z, whV_eq, if_neg z]
end
