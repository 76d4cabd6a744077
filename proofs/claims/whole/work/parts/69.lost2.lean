/-! lost -/
def lvJ (h : av_H) (m : Nat) : Prop := m ≤ 60 ∧ h.2.1 9 5 = nI m ∧ h.2.1 137 23 = nI m ∧ ∀ i, i < m →
  h.2.1 155 i = h.2.1 10 i ∧ h.2.1 156 i = h.2.1 11 i ∧ h.2.1 12 i = h.2.1 11 i ∧ h.2.1 157 i = h.2.1 13 i ∧ h.2.1 158 i = h.2.1 14 i
theorem rg_self (x e : Int32) : rg e x.toInt x.toInt = decide (x = e) := by
  unfold rg
  apply decide_eq_decide.mpr
  constructor
  · intro z
    exact Int32.toInt_inj.mp (by omega)
  · intro z
    subst z
    omega
/-- there is leave -/
def lvB (h : av_H) (m : Nat) (t e k : Int32) : Bool := anyN m 0 (lvP h t e k)
section
variable {X : av_X} {d : Nat} {h : av_H}
theorem c_lv {h0 : av_H} (T : tC h0 h) {m : Nat} (J : lvJ h0 m) (t e k : Int32) : ev X (d + 3) 113 [vr (some 9), vi t, vi e, vi k] h = av_rI (bI (lvB h0 m t e k)) h := by
  obtain ⟨h1, h2, h3, h4⟩ := J
  have A := T.2.fr (q := false) (cs := [9, 10, 11, 12, 13, 14]) (fs := []) (by decide)
  rw [cov_9 T.1 ((A.I rfl).trans h2) h1, lvB]
  congr 2
  refine anyN_cg _ _ (fun i _ hi => ?_)
  obtain ⟨e1, e2, e3, e4, e5⟩ := h4 i (by omega)
  rw [spP_9, lvP, A.I (show FP false [9, 10, 11, 12, 13, 14] [] 10 i = true from rfl), A.I (show FP false [9, 10, 11, 12, 13, 14] [] 11 i = true from rfl), A.I (show FP false [9, 10, 11, 12, 13, 14] [] 12 i = true from rfl), A.I (show FP false [9, 10, 11, 12, 13, 14] [] 13 i = true from rfl), A.I (show FP false [9, 10, 11, 12, 13, 14] [] 14 i = true from rfl), e1, e2, e3, e4, e5, rg_self]
theorem s_lv {h0 : av_H} (T : tQ h0 h) {m : Nat} (J : lvJ h0 m) (t e k : Int32) : ev X (d + 2) 269 [vr (some 137), vi t, vi e, vi k] h = av_rI (bI (lvB h0 m t e k)) h := by
  obtain ⟨h1, h2, h3, h4⟩ := J
  have A := T.2.fr (q := false) (cs := [137, 155, 156, 157, 158]) (fs := []) (by decide)
  rw [s_hasLeave T.1 ((A.I rfl).trans h3) h1, lvB]
  congr 2
  refine anyN_cg _ _ (fun i _ hi => ?_)
  rw [lvP, lvP, A.I (show FP false [137, 155, 156, 157, 158] [] 155 i = true from rfl), A.I (show FP false [137, 155, 156, 157, 158] [] 156 i = true from rfl), A.I (show FP false [137, 155, 156, 157, 158] [] 157 i = true from rfl), A.I (show FP false [137, 155, 156, 157, 158] [] 158 i = true from rfl)]
/-- the reference asks a rule over an hour: stops, quiets -/
theorem s_so {h0 : av_H} (T : tQ h0 h) {u : Ru} (o : u.ok) (Q : u.Q h0) (Jw : J_wi h0) {of t s fl e k pn hs wo ag : Nat} (ho : of < 2) (hs4 : s < 4) (he : e < 100) (hk : k < 24) (F : fQ h t fl pn hs wo ag) : ∃ h', tQ h0 h' ∧ fQ h' t fl pn hs wo ag ∧ ev X (d + 3) 286 [vr (some 137), vi (nI of), vi (nI s), vi (nI e), vi (nI k)] h = av_rI (bI (if of = 0 then u.st (fct t s fl e k (wvN h0 s e k) pn hs wo ag) else u.qu (fct t s fl e k (wvN h0 s e k) pn hs wo ag))) h' := by
  have w := T.1
  have hW := (Jw.v hs4 he hk).1
  have hW' : h.2.1 154 ((100 * s + e) * 24 + k) = nI (wvN h0 s e k) := ((T.2.fr (q := false) (cs := [154]) (fs := []) (by decide)).I rfl).trans hW
  have T1 := soH_t T s e k (wvN h0 s e k)
  have F1 := soH_f (s := s) (e := e) (k := k) (wv := wvN h0 s e k) F
  have Q1 := Q.fr (T1.2.fr (by decide))
  obtain ⟨c1, c2, c3, c4, c5, c6, c7, c8, c9⟩ := Q1
  have key : ∃ h', pilE (soH h s e k (wvN h0 s e k)) h' ∧ bd X (d + 2) 286 42 [(0, vr (some 137)), (1, vi (nI of)), (5, vi 0), (6, vi 0)] [] (soH h s e k (wvN h0 s e k)) = av_rI (bI (if of = 0 then u.st (fct t s fl e k (wvN h0 s e k) pn hs wo ag) else u.qu (fct t s fl e k (wvN h0 s e k) pn hs wo ag))) h' := by
    rcases (show of = 0 ∨ of = 1 by omega) with rfl | rfl
    · rw [if_pos rfl, ← u.st_cg o F1]
      have z := so_lp (X := X) (d := d) (n0 := u.n0) (of := 0) (E := u.E) (l := u.l) (L := u.L) o.2.1 (by decide) (fun k hk => by rw [Nat.mul_zero, Nat.zero_add]; exact o.2.2.2.2.2 k (Or.inl hk)) u.n0 0 false _ (by omega) T1.1 c1 (fun k hk => by rw [Nat.mul_zero, Nat.zero_add]; exact ⟨c7 k hk, c6 k (Or.inl hk)⟩)
      simp only [Nat.mul_zero, Nat.zero_add] at z
      exact z
    · rw [if_neg (by decide), ← u.qu_cg o F1]
      exact so_lp (X := X) (d := d) (n0 := u.n1) (of := 1) (E := u.E) (l := u.l) (L := u.L) o.2.2.1 (by decide) (fun k hk => by rw [Nat.mul_one]; exact o.2.2.2.2.2 (6 + k) (Or.inr (Or.inl ⟨by omega, by omega⟩))) u.n1 0 false _ (by omega) T1.1 c2 (fun k hk => by rw [Nat.mul_one]; exact ⟨c8 k hk, c6 (6 + k) (Or.inr (Or.inl ⟨by omega, by omega⟩))⟩)
  obtain ⟨h', S, e'⟩ := key
  refine ⟨h', T1.pl S, (soH_q F).pl S, ?_⟩
  rw [← e', e_286, b_286_0, gR_137_43 w, show (1 : Int32) = nI 1 from rfl, st_166 w (show 1 < 11 by decide), gR_137_43 (WF_uI w), show (3 : Int32) = nI 3 from rfl, st_166 (WF_uI w) (show 3 < 11 by decide), gR_137_43 (WF_uI (WF_uI w)), if_neg (by decide), show (4 : Int32) = nI 4 from rfl, st_166 (WF_uI (WF_uI w)) (show 4 < 11 by decide), gR_137_43 (WF_uI (WF_uI (WF_uI w))), show (5 : Int32) = nI 5 from rfl, st_166 (WF_uI (WF_uI (WF_uI w))) (show 5 < 11 by decide), gR_137_43 (WF_uI (WF_uI (WF_uI (WF_uI w)))), gR_137_22 (WF_uI (WF_uI (WF_uI (WF_uI w)))), show (100 : Int32) = nI 100 from rfl, show (24 : Int32) = nI 24 from rfl, pk_mul, nI_add, pk_mul, nI_add, ld_154 (WF_uI (WF_uI (WF_uI (WF_uI w)))) (by omega), uI_ne (by decide), uI_ne (by decide), uI_ne (by decide), uI_ne (by decide), hW', show (6 : Int32) = nI 6 from rfl, st_166 (WF_uI (WF_uI (WF_uI (WF_uI w)))) (show 6 < 11 by decide)]
  rfl
/-- an hour is lost -/
def loB (h : av_H) (u : Ru) (m t s F e V k : Nat) : Bool := lvB h m (nI t) (nI e) (nI k) && u.st (fct t s F e k (wvN h s e k) 0 1 V 0)
theorem lost_c {h0 : av_H} {u : Ru} (o : u.ok) (C : u.C h0) (Jw : J_wi h0) {m : Nat} (Jl : lvJ h0 m) {t s F e V : Nat} (hs4 : s < 4) (he : e < 100) : ∀ n k h, k + n = 24 → tC h0 h → fB h t s F e 0 1 V 0 → ∃ h', tC h0 h' ∧ bd X (d + 3) 144 21 [(0, vr (some 0)), (1, vi (nI t)), (2, vi (nI s)), (3, vi (nI e)), (4, vi (nI (fb_ct (loB h0 u m t s F e V) k))), (5, vi (nI k))] [] h = av_rI (nI (fb_ct (loB h0 u m t s F e V) 24)) h'
  | 0, k, h, hk, T, _ => by
    obtain rfl : k = 24 := by omega
    refine ⟨h, T, ?_⟩
    rw [b_144_21, if_neg (by decide)]
  | n + 1, k, h, hk, T, fb => by
    have w := T.1
    rw [b_144_21, if_pos (show nI k < (24 : Int32) from nI_lt (b := 24) (by omega) (by omega)), gR_0_3 w, is_9 w, c_lv T Jl, av_cI_r, Option.bind_some, nI_1]
    have ih := lost_c o C Jw Jl (t := t) (s := s) (F := F) (e := e) (V := V) hs4 he n (k + 1)
    rw [fb_ct_succ] at ih
    cases q1 : lvB h0 m (nI t) (nI e) (nI k) with
    | false =>
      rw [show loB h0 u m t s F e V k = false by rw [loB, q1, Bool.false_and]] at ih
      rw [if_pos (show bI false = 0 from rfl)]
      exact ih h (by omega) T fb
    | true =>
      obtain ⟨h1, T1, F1, e1⟩ := c_hour (X := X) (d := d) T Jw hs4 he (show k < 24 by omega) fb
      obtain ⟨h2, S2, e2⟩ := c_stopping (X := X) (d := d) T1.1 o (C.fr o (T1.2.fr (by decide)))
      have F2 : fB h2 t s F e 0 1 V 0 := fB.fct (fun j hj => by rw [S2.ne (by rcases o.1 with z | z <;> rw [z] <;> decide)]; exact F1 j hj)
      rw [u.st_cg o F1] at e2
      rw [if_neg (show ¬ bI true = 0 by decide), is_0 w, e1, av_cV_r, Option.bind_some, g015 T1.1 (C.fr o (T1.2.fr (by decide))), gR_0_12 T1.1, is_R o T1.1, e2, av_cI_r, Option.bind_some, nI_1, Int32.add_zero]
      cases q2 : u.st (fct t s F e k (wvN h0 s e k) 0 1 V 0) with
      | false =>
        rw [show loB h0 u m t s F e V k = false by rw [loB, q2, Bool.and_false]] at ih
        rw [if_pos (show bI false = 0 from rfl)]
        exact ih h2 (by omega) (T1.st o S2) F2
      | true =>
        rw [show loB h0 u m t s F e V k = true by rw [loB, q1, q2]; rfl] at ih
        rw [if_neg (show ¬ bI true = 0 by decide)]
        exact ih h2 (by omega) (T1.st o S2) F2
theorem s_barred {h0 : av_H} (T : tQ h0 h) {u : Ru} (o : u.ok) (Q : u.Q h0) (Jw : J_wi h0) {of t s F e k V : Nat} (ho : of < 2) (h6 : t < 6) (hs4 : s < 4) (he : e < 100) (hk : k < 24) (hF : h0.2.1 143 t = nI F) (hV : h0.2.1 150 t = nI V) : ∃ h', tQ h0 h' ∧ ev X (d + 4) 305 [vr (some 137), vi (nI of), vi (nI t), vi (nI s), vi (nI e), vi (nI k)] h = av_rI (bI (if of = 0 then u.st (fct t s F e k (wvN h0 s e k) 0 1 V 0) else u.qu (fct t s F e k (wvN h0 s e k) 0 1 V 0))) h' := by
  have w := T.1
  obtain ⟨h1, T1, F1, e1⟩ := s_lays (X := X) (d := d + 2) (pn := 0) (hs := 1) (wo := V) (ag := 0) T h6 hF
  obtain ⟨h2, T2, F2, e2⟩ := s_so (X := X) (d := d) T1 o Q Jw ho hs4 he hk F1
  refine ⟨h2, T2, ?_⟩
  rw [e_305, b_305_0, gR_137_17 w, ld_150 w h6, show h.2.1 150 t = nI V from ((T.2.fr (q := false) (cs := [150]) (fs := []) (by decide)).I rfl).trans hV, is_137 w, show (0 : Int32) = nI 0 from rfl, show (1 : Int32) = nI 1 from rfl, e1, av_cV_r, Option.bind_some, is_137 T1.1, e2, av_cI_r, Option.bind_some, zb_b]
theorem lost_s {h0 : av_H} {u : Ru} (o : u.ok) (Q : u.Q h0) (Jw : J_wi h0) {m : Nat} (Jl : lvJ h0 m) {t s F e V : Nat} (h6 : t < 6) (hs4 : s < 4) (he : e < 100) (hF : h0.2.1 143 t = nI F) (hV : h0.2.1 150 t = nI V) : ∀ n k h, k + n = 24 → tQ h0 h → ∃ h', tQ h0 h' ∧ bd X (d + 4) 306 19 [(0, vr (some 137)), (1, vi (nI t)), (2, vi (nI s)), (3, vi (nI e)), (4, vi (nI (fb_ct (loB h0 u m t s F e V) k))), (5, vi (nI k))] [] h = av_rI (nI (fb_ct (loB h0 u m t s F e V) 24)) h'
  | 0, k, h, hk, T => by
    obtain rfl : k = 24 := by omega
    refine ⟨h, T, ?_⟩
    rw [b_306_19, if_neg (by decide)]
  | n + 1, k, h, hk, T => by
    have w := T.1
    rw [b_306_19, if_pos (show nI k < (24 : Int32) from nI_lt (b := 24) (by omega) (by omega)), is_137 w, s_lv T Jl, av_cI_r, Option.bind_some, nI_1, Int32.add_zero]
    have ih := lost_s o Q Jw Jl (t := t) (s := s) (F := F) (e := e) (V := V) h6 hs4 he hF hV n (k + 1)
    rw [fb_ct_succ] at ih
    cases q1 : lvB h0 m (nI t) (nI e) (nI k) with
    | false =>
      rw [show loB h0 u m t s F e V k = false by rw [loB, q1, Bool.false_and]] at ih
      rw [if_pos (show bI false = 0 from rfl)]
      exact ih h (by omega) T
    | true =>
      obtain ⟨h2, T2, e2⟩ := s_barred (X := X) (d := d) T o Q Jw (show 0 < 2 by decide) h6 hs4 he (show k < 24 by omega) hF hV
      rw [if_pos rfl] at e2
      rw [if_neg (show ¬ bI true = 0 by decide), is_137 w, show (0 : Int32) = nI 0 from rfl, e2, av_cI_r, Option.bind_some, nI_1]
      cases q2 : u.st (fct t s F e k (wvN h0 s e k) 0 1 V 0) with
      | false =>
        rw [show loB h0 u m t s F e V k = false by rw [loB, q2, Bool.and_false]] at ih
        rw [if_pos (show bI false = nI 0 from rfl)]
        exact ih h2 (by omega) T2
      | true =>
        rw [show loB h0 u m t s F e V k = true by rw [loB, q1, q2]; rfl] at ih
        rw [if_neg (show ¬ bI true = nI 0 by decide)]
        exact ih h2 (by omega) T2
theorem off.up {q r : Bool} {cs ds : List Nat} {fs gs : List (Nat × Nat)} {h h' : av_H} (A : off q cs fs h h') (D : fpS q cs fs r ds gs = true) : off r ds gs h h' := by
  refine agr.mono A (fun a k e => ?_)
  cases z : FP q cs fs a k with
  | false => rfl
  | true =>
    exfalso
    simp only [fpS, FP, Bool.and_eq_true, Bool.or_eq_true, Bool.not_eq_true', List.all_eq_true, List.elem_eq_mem, decide_eq_true_eq] at D z
    have y : FP r ds gs a k = true := by
      simp only [FP, Bool.and_eq_true, Bool.or_eq_true, List.elem_eq_mem, decide_eq_true_eq]
      obtain ⟨⟨D1, D2⟩, D3⟩ := D
      rcases z with (⟨e1, e2⟩ | e1) | e1
      · subst e1
        rcases D1 with D1 | D1
        · cases D1
        · exact Or.inl (Or.inl ⟨D1, e2⟩)
      · exact Or.inl (Or.inr (D2 a e1))
      · rcases D3 (a, k) e1 with z | z
        · exact Or.inr z
        · exact Or.inl (Or.inr z)
    rw [y] at e
    cases e
def okLo (h : av_H) (t s e : Int32) : Bool := told h t && rg s 0 3 && rg e 0 99
theorem lvJ.fr {h h' : av_H} {m : Nat} (J : lvJ h m) (A : agr (FP false [10, 11, 12, 13, 14, 155, 156, 157, 158] [(9, 5), (137, 23)]) h h') : lvJ h' m := by
  obtain ⟨h1, h2, h3, h4⟩ := J
  refine ⟨h1, (A.I rfl).trans h2, (A.I rfl).trans h3, fun i hi => ?_⟩
  rw [A.I rfl, A.I rfl, A.I rfl, A.I rfl, A.I rfl, A.I rfl, A.I rfl, A.I rfl, A.I rfl]
  exact h4 i hi
theorem lost_ok (w : WF h) (J : J_tow h) (Jw : J_wi h) (Jl : J_lv h) (Jr : J_ru h) (t s e : Int32) : ∃ v h1 h2, ev X (d + 6) 144 [vr (some 0), vi t, vi s, vi e] h = av_rI v h1 ∧ ev X (d + 6) 306 [vr (some 137), vi t, vi s, vi e] h1 = av_rI v h2 ∧ WF h2 ∧ off false [64, 71, 76, 166, 167] [(137, 0)] h h2 := by
  cases ok : okLo h t s e with
  | false =>
    refine ⟨-1, h, th h, ?_, ?_, w, agr.uI rfl agr.rfl⟩
    · rcases bdi (told h t) with q1 | q1
      · simp (disch := first | ((repeat (first | with_reducible apply WF_uI | with_reducible apply WF_uL | with_reducible apply WF_th | with_reducible apply WF_fillL | with_reducible apply WF_fgt)); with_reducible assumption) | omega | (simp only [uI_1, uL_1, th_1, uI_R, uL_R]; with_reducible assumption)) only [e_144, b_144_0, ↓is_0, ↓c_isTold', ↓c_isSide', ↓c_isDay', ↓reduceIte, i10, av_cI_r, av_cL_r, av_cV_r, Option.bind_some, ↓zb_0, ↓zb_1, ↓zb_b, bI_0, q1, Bool.true_eq_false]
      rcases bdi (rg s 0 3) with q2 | q2
      · simp (disch := first | ((repeat (first | with_reducible apply WF_uI | with_reducible apply WF_uL | with_reducible apply WF_th | with_reducible apply WF_fillL | with_reducible apply WF_fgt)); with_reducible assumption) | omega | (simp only [uI_1, uL_1, th_1, uI_R, uL_R]; with_reducible assumption)) only [e_144, b_144_0, ↓is_0, ↓c_isTold', ↓c_isSide', ↓c_isDay', ↓reduceIte, i10, av_cI_r, av_cL_r, av_cV_r, Option.bind_some, ↓zb_0, ↓zb_1, ↓zb_b, bI_0, q1, q2, Bool.true_eq_false]
      rcases bdi (rg e 0 99) with q3 | q3
      · simp (disch := first | ((repeat (first | with_reducible apply WF_uI | with_reducible apply WF_uL | with_reducible apply WF_th | with_reducible apply WF_fillL | with_reducible apply WF_fgt)); with_reducible assumption) | omega | (simp only [uI_1, uL_1, th_1, uI_R, uL_R]; with_reducible assumption)) only [e_144, b_144_0, ↓is_0, ↓c_isTold', ↓c_isSide', ↓c_isDay', ↓reduceIte, i10, av_cI_r, av_cL_r, av_cV_r, Option.bind_some, ↓zb_0, ↓zb_1, ↓zb_b, bI_0, q1, q2, q3, Bool.true_eq_false]
      simp [okLo, q1, q2, q3] at ok
    · rcases bdi (told h t) with q1 | q1
      · simp (disch := first | ((repeat (first | with_reducible apply WF_uI | with_reducible apply WF_uL | with_reducible apply WF_th | with_reducible apply WF_fillL | with_reducible apply WF_fgt)); with_reducible assumption) | omega | (simp only [uI_1, uL_1, th_1, uI_R, uL_R]; with_reducible assumption)) only [e_306, b_306_0, ↓pI_137, th_e, ↓is_137, ↓s_isTower', ↓s_isSide', ↓s_isDay', told_th, ↓reduceIte, i10, av_cI_r, av_cL_r, av_cV_r, Option.bind_some, ↓zb_0, ↓zb_1, ↓zb_b, bI_0, q1, Bool.true_eq_false]
      rcases bdi (rg s 0 3) with q2 | q2
      · simp (disch := first | ((repeat (first | with_reducible apply WF_uI | with_reducible apply WF_uL | with_reducible apply WF_th | with_reducible apply WF_fillL | with_reducible apply WF_fgt)); with_reducible assumption) | omega | (simp only [uI_1, uL_1, th_1, uI_R, uL_R]; with_reducible assumption)) only [e_306, b_306_0, ↓pI_137, th_e, ↓is_137, ↓s_isTower', ↓s_isSide', ↓s_isDay', told_th, ↓reduceIte, i10, av_cI_r, av_cL_r, av_cV_r, Option.bind_some, ↓zb_0, ↓zb_1, ↓zb_b, bI_0, q1, q2, Bool.true_eq_false]
      rcases bdi (rg e 0 99) with q3 | q3
      · simp (disch := first | ((repeat (first | with_reducible apply WF_uI | with_reducible apply WF_uL | with_reducible apply WF_th | with_reducible apply WF_fillL | with_reducible apply WF_fgt)); with_reducible assumption) | omega | (simp only [uI_1, uL_1, th_1, uI_R, uL_R]; with_reducible assumption)) only [e_306, b_306_0, ↓pI_137, th_e, ↓is_137, ↓s_isTower', ↓s_isSide', ↓s_isDay', told_th, ↓reduceIte, i10, av_cI_r, av_cL_r, av_cV_r, Option.bind_some, ↓zb_0, ↓zb_1, ↓zb_b, bI_0, q1, q2, q3, Bool.true_eq_false]
      simp [okLo, q1, q2, q3] at ok
  | true =>
    obtain ⟨⟨q1, q2⟩, q3⟩ : (told h t = true ∧ rg s 0 3 = true) ∧ rg e 0 99 = true := by simpa only [okLo, Bool.and_eq_true] using ok
    obtain ⟨t, a, h6, rfl, hj, T⟩ := told_ex J q1
    obtain ⟨s, hs, rfl⟩ := rg_nI (b := 3) (by decide) q2
    obtain ⟨e, he, rfl⟩ := rg_nI (b := 99) (by decide) q3
    obtain ⟨F, C, W, L, V, p1, p2, p3, p4, -, -, -, -, -, r1, r2, r3, r4, r5, r6, r7, r8, r9, r10⟩ := T.2.2.2.2.2.2.1
    obtain ⟨u, o, c, q⟩ := Jr
    obtain ⟨m, jl⟩ := Jl
    have Tc : tC h h := ⟨w, agr.rfl⟩
    obtain ⟨k1, T1, B1, e1⟩ := c_empty (X := X) (d := d + 3) (s := s) (e := e) Tc (show tw0 h t a F V from ⟨h6, T.1, hj, T.2.1, r1, r9⟩)
    obtain ⟨k2, T2, e2⟩ := lost_c (X := X) (d := d + 2) o c Jw jl (show s < 4 by omega) (show e < 100 by omega) 24 0 k1 (by omega) T1 B1
    have A2 : agr (FP false [10, 11, 12, 13, 14, 154, 155, 156, 157, 158, 161, 162, 163, 164, 165, 2, 143, 150] [(9, 5), (137, 23), (137, 37), (137, 38), (137, 41)]) h (th k2) := agr.uI rfl (T2.2.fr (by decide))
    have Tq : tQ (th k2) (th k2) := ⟨WF_uI T2.1, agr.rfl⟩
    have hl : loB (th k2) u m t s F e V = loB h u m t s F e V := by
      funext k
      rw [loB, loB, wv_fr (A2.sub (by decide))]
      congr 1
      refine anyN_cg _ _ (fun i _ hi => ?_)
      rw [lvP, lvP, A2.I rfl, A2.I rfl, A2.I rfl, A2.I rfl]
    obtain ⟨k3, T3, e3⟩ := lost_s (X := X) (d := d + 1) o (q.fr (A2.sub (by decide))) (Jw.fr (A2.sub (by decide))) (lvJ.fr jl (A2.sub (by decide))) h6 (show s < 4 by omega) (show e < 100 by omega) ((A2.I rfl).trans r2) ((A2.I rfl).trans r10) 24 0 (th k2) (by omega) Tq
    rw [hl] at e3
    refine ⟨nI (fb_ct (loB h u m t s F e V) 24), k2, k3, ?_, ?_, T3.1, agr.tr (agr.uI rfl (T2.2.up (by decide))) (T3.2.up (by decide))⟩
    · simp (disch := first | ((repeat (first | with_reducible apply WF_uI | with_reducible apply WF_uL | with_reducible apply WF_th | with_reducible apply WF_fillL | with_reducible apply WF_fgt)); with_reducible assumption) | omega | (simp only [uI_1, uL_1, th_1, uI_R, uL_R]; with_reducible assumption)) only [e_144, b_144_0, ↓is_0, ↓c_isTold', ↓c_isSide', ↓c_isDay', ↓reduceIte, i10, av_cI_r, av_cL_r, av_cV_r, Option.bind_some, ↓zb_0, ↓zb_1, ↓zb_b, bI_0, q1, q2, q3, Bool.true_eq_false]
      rw [e1, av_cV_r, Option.bind_some]
      exact e2
    · have q1' : told k2 (nI t) = true := by rw [← q1, told, told]; simp only [(T2.2.fr (q := false) (cs := [143]) (fs := []) (by decide)).I (show FP false [143] [] 143 _ = true from rfl)]
      have w2 := T2.1
      simp (disch := first | ((repeat (first | with_reducible apply WF_uI | with_reducible apply WF_uL | with_reducible apply WF_th | with_reducible apply WF_fillL | with_reducible apply WF_fgt)); with_reducible assumption) | omega | (simp only [uI_1, uL_1, th_1, uI_R, uL_R]; with_reducible assumption)) only [e_306, b_306_0, ↓pI_137, th_e, ↓is_137, ↓s_isTower', ↓s_isSide', ↓s_isDay', told_th, ↓reduceIte, i10, av_cI_r, av_cL_r, av_cV_r, Option.bind_some, ↓zb_0, ↓zb_1, ↓zb_b, bI_0, q1', q2, q3, Bool.true_eq_false]
      exact e3
end
