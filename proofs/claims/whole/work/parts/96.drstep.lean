/-! a drop asked for and kept, the two sides on heaps of their own -/
/-- a tower's object lies there -/
def tws (h : av_H) (a : Nat) : Bool := (List.range 6).any (fun t => h.2.2.2 1 t == some a)
theorem tws_t {h : av_H} {t a : Nat} (ht : t < 6) (e : h.2.2.2 1 t = some a) : tws h a = true := by
  rw [tws, List.any_eq_true]
  exact ⟨t, List.mem_range.mpr ht, by rw [e]; exact beq_self_eq_true _⟩
theorem tws_e {h : av_H} {a : Nat} (e : tws h a = true) : ∃ t, t < 6 ∧ h.2.2.2 1 t = some a := by
  rw [tws, List.any_eq_true] at e
  obtain ⟨t, h1, h2⟩ := e
  exact ⟨t, List.mem_range.mp h1, eq_of_beq h2⟩
theorem tws_b {h : av_H} (J : J_tow h) {a : Nat} (e : tws h a = true) : 226 ≤ a := by
  obtain ⟨t, h6, z⟩ := tws_e e
  rcases J.1 t h6 with ⟨y, -⟩ | ⟨b, y, T⟩
  · rw [z] at y; cases y
  · rw [z] at y
    injection y with y
    rw [y]
    exact T.1
theorem tws_n {h : av_H} (J : J_tow h) {t a b : Nat} (ht : t < 6) (e : h.2.2.2 1 t = some a) (h1 : a < b) (h2 : b < a + 3) : tws h b = false := by
  cases z : tws h b with
  | false => rfl
  | true =>
    obtain ⟨u, u6, y⟩ := tws_e z
    by_cases q : t = u
    · rw [← q, e] at y
      injection y with y
      omega
    · rcases J.2 t u a b ht u6 q e y with z | z <;> omega
/-- all that the class leaves alone while it makes drops -/
def fT (h0 : av_H) (a k : Nat) : Bool := !(FP false ([64, 71, 76] ++ dCells) [(0, 17)] a k || (tws h0 a && decide (k = 4)))
theorem fT_up {h0 : av_H} (J : J_tow h0) {cs : List Nat} {fs : List (Nat × Nat)} (D : fpD false cs fs false ([64, 71, 76] ++ dCells) [(0, 17)] = true) (c1 : cs.all (fun a => decide (a < 226)) = true) (c2 : fs.all (fun z => decide (z.1 < 226)) = true) : ∀ a k, FP false cs fs a k = true → fT h0 a k = true := fun a k e => by
  have z := fpD_ok D e
  have ha : a < 226 := by
    simp only [FP, Bool.false_and, Bool.false_or, Bool.or_eq_true, List.elem_eq_mem, decide_eq_true_eq] at e
    rw [List.all_eq_true] at c1 c2
    rcases e with e | e
    · have := c1 a e
      rw [decide_eq_true_eq] at this
      omega
    · have := c2 (a, k) e
      rw [decide_eq_true_eq] at this
      omega
  have y : tws h0 a = false := by
    cases q : tws h0 a with
    | false => rfl
    | true => exact absurd (tws_b J q) (by omega)
  rw [fT, y, Bool.false_and, Bool.or_false]
  exact z
theorem fT_t {h0 : av_H} {a k : Nat} (ha : 226 ≤ a) (q : tws h0 a = false ∨ k ≠ 4) : fT h0 a k = true := by
  have f : FP false ([64, 71, 76] ++ dCells) [(0, 17)] a k = false := by
    have D : fpD true [] [] false ([64, 71, 76] ++ dCells) [(0, 17)] = true := by decide +kernel
    have z := fpD_ok D (a := a) (k := k) (by simp [FP, ha])
    rw [Bool.not_eq_true'] at z
    exact z
  rw [fT, f, Bool.false_or]
  rcases q with q | q
  · rw [q]; rfl
  · rw [decide_eq_false q, Bool.and_false]; rfl
def SC (h0 hc : av_H) (m : Nat) (D : Nat → Nat → Nat) (M V : Nat → Nat) : Prop := WF hc ∧ agr (fT h0) h0 hc ∧ DC hc m D M ∧ ∀ t a, t < 6 → h0.2.2.2 1 t = some a → hc.2.1 a 4 = nI (V t)
def RB : List Nat := [2, 10, 11, 12, 13, 14, 143, 144, 145, 147, 148, 149, 151, 152, 153, 154, 155, 156, 157, 158, 159, 160, 161, 162, 163, 164, 165, 200, 201, 202, 203, 204, 205, 206, 207, 208, 209]
def RF : List (Nat × Nat) := [(9, 5), (137, 18), (137, 23), (137, 37), (137, 38), (137, 41), (137, 80), (137, 85)]
def SR (h0 hr : av_H) (m : Nat) (D : Nat → Nat → Nat) (M N V : Nat → Nat) : Prop := WF hr ∧ agr (FP false RB RF) h0 hr ∧ DR hr m D N ∧ DW hr m D M ∧ ∀ t, t < 6 → hr.2.1 150 t = nI (V t)
theorem SC.tv {h0 hc : av_H} {m : Nat} {D : Nat → Nat → Nat} {M V : Nat → Nat} (S : SC h0 hc m D M V) (J : J_tow h0) (V9 : ∀ t, V t ≤ 9999) : J_tv hc ∧ (∀ t, hc.2.2.2 1 t = h0.2.2.2 1 t) ∧ ∀ t a, t < 6 → h0.2.2.2 1 t = some a → twV hc t a := by
  have A := S.2.1
  have up : ∀ {cs : List Nat} {fs : List (Nat × Nat)}, fpD false cs fs false ([64, 71, 76] ++ dCells) [(0, 17)] = true → cs.all (fun a => decide (a < 226)) = true → fs.all (fun z => decide (z.1 < 226)) = true → agr (FP false cs fs) h0 hc := fun D c1 c2 => agr.mono A (fT_up J D c1 c2)
  have B := up (cs := [1, 143, 144, 145, 147, 148, 149]) (fs := []) (by decide +kernel) (by decide) (by decide)
  have T : ∀ t, hc.2.2.2 1 t = h0.2.2.2 1 t := fun t => B.R rfl
  have K : ∀ t a, t < 6 → h0.2.2.2 1 t = some a → twV hc t a := fun t a ht e => by
    rcases J.1 t ht with ⟨y, -⟩ | ⟨b, y, T⟩
    · rw [e] at y; cases y
    · rw [e] at y
      injection y with y
      subst y
      obtain ⟨b0, b1, b2, b3, b4, b5, ⟨F, C, W, L, V', p1, p2, p3, p4, p5, p6, p7, p8, p9, q1, q2, q3, q4, q5, q6, q7, q8, q9, -⟩, b7, b8⟩ := T
      have n1 : ∀ k, fT h0 (a + 1) k = true := fun k => fT_t (by omega) (Or.inl (tws_n J ht e (by omega) (by omega)))
      have n2 : ∀ k, fT h0 (a + 2) k = true := fun k => fT_t (by omega) (Or.inl (tws_n J ht e (by omega) (by omega)))
      have n0 : ∀ k, k ≠ 4 → fT h0 a k = true := fun k z => fT_t b0 (Or.inr z)
      refine ⟨b0, A.k b1, A.k b2, A.k b3, (A.R (n0 5 (by decide))).trans b4, (A.R (n0 6 (by decide))).trans b5, ⟨F, C, W, L, V t, p1, p2, p3, p4, p5, p6, p7, p8, V9 t, (A.I (n0 0 (by decide))).trans q1, (B.I rfl).trans q2, (A.I (n0 1 (by decide))).trans q3, (B.I rfl).trans q4, (A.I (n0 2 (by decide))).trans q5, (B.I rfl).trans q6, (A.I (n0 3 (by decide))).trans q7, (B.I rfl).trans q8, S.2.2.2 t a ht e⟩, fun s hs c hc => ?_, fun s hs => ?_⟩
      · obtain ⟨b, z1, z2, z3⟩ := b7 s hs c hc
        exact ⟨b, z1, (A.I (n1 _)).trans z2, fun f hf => (B.I rfl).trans (z3 f hf)⟩
      · obtain ⟨b, z1, z2, z3⟩ := b8 s hs
        exact ⟨b, z1, (A.I (n2 _)).trans z2, fun x hx => (B.I rfl).trans (z3 x hx)⟩
  refine ⟨⟨fun t ht => ?_, fun t u a b => by rw [T, T]; exact J.2 t u a b⟩, T, K⟩
  rw [T]
  rcases J.1 t ht with ⟨h1, h2⟩ | ⟨a, h1, -⟩
  · exact Or.inl ⟨h1, (B.I rfl).trans h2.1⟩
  · exact Or.inr ⟨a, h1, K t a ht h1⟩
theorem fT_tA {h0 h g : av_H} {m : Nat} (J : J_tow h0) (hm : m < 60) (A : agr (fT h0) h0 h) (T : tA m h g) : agr (fT h0) h0 g := agr.tr A (agr.mono (T.up hm) (fun a k e => by
  rw [fT, Bool.not_eq_true', Bool.or_eq_false_iff] at e
  have f := e.1
  simp only [FP, Bool.false_and, Bool.false_or, Bool.or_eq_false_iff, Bool.not_eq_true'] at f ⊢
  exact ⟨f.1, rfl⟩))
theorem SC.ta {h0 hc g : av_H} {m : Nat} {D : Nat → Nat → Nat} {M V : Nat → Nat} (S : SC h0 hc m D M V) (J : J_tow h0) (hm : m < 60) (T : tA m hc g) : SC h0 g m D M V :=
  ⟨T.1, fT_tA J hm S.2.1 T, S.2.2.1.ta hm T, fun t a ht e => by
    have b := tws_b J (tws_t ht e)
    rw [T.2.I (fM_d (by omega) (by omega) (by omega) (by omega))]
    exact S.2.2.2 t a ht e⟩
theorem SR.th {h0 hr : av_H} {m : Nat} {D : Nat → Nat → Nat} {M N V : Nat → Nat} (S : SR h0 hr m D M N V) : SR h0 (th hr) m D M N V :=
  ⟨S.1, agr.uI rfl S.2.1, S.2.2.1.fr (agr.uI rfl agr.rfl), S.2.2.2.1.fr (agr.uI rfl agr.rfl), fun t ht => by rw [th_I (by decide)]; exact S.2.2.2.2 t ht⟩
theorem SR.tq {h0 hr g : av_H} {m : Nat} {D : Nat → Nat → Nat} {M N V : Nat → Nat} (S : SR h0 hr m D M N V) (T : tQ hr g) : SR h0 g m D M N V :=
  ⟨T.1, agr.tr S.2.1 (T.2.fr (by decide +kernel)), S.2.2.1.fr (T.2.fr (by decide +kernel)), S.2.2.2.1.fr (T.2.fr (by decide +kernel)), fun t ht => by
    rw [(T.2.fr (q := false) (cs := [150]) (fs := []) (by decide)).I rfl]
    exact S.2.2.2.2 t ht⟩
theorem roP_fr {h g : av_H} (A : agr (FP false [145, 152, 153] []) h g) {m t s x : Nat} {q : Nat → Nat} {e : Int32} : roP g m q t s x e = roP h m q t s x e := by
  funext f i
  unfold roP
  rw [A.I rfl, anyN_cg (Q := neP h q (((4 * t + s) * 12 + f) * 10 + (x + i)) e) _ _ (fun k _ _ => by unfold neP; rw [A.I rfl, A.I rfl])]
theorem wh9_0 : ∀ b9 b10 b11 b12 b13 : Bool, wh9 b9 b10 b11 b12 b13 = 0 → b11 = false := by
  intro b9 b10 b11 b12 b13
  cases b9 <;> cases b10 <;> cases b11 <;> cases b12 <;> cases b13 <;> decide
theorem whV_0 {b1 b2 b3 b4 b5 b6 b7 b8 b9 b10 b11 b12 b13 : Bool} (z : whV b1 b2 b3 b4 b5 b6 b7 b8 (wh9 b9 b10 b11 b12 b13) = 0) : b2 = false ∧ b3 = false ∧ b4 = false ∧ b7 = false ∧ b11 = false := by
  rw [whV_eq] at z
  by_cases y : wg7 b1 b2 b3 b4 b5 b6 b7 = 0
  · rw [if_pos y] at z
    obtain ⟨-, y2, y3, y4, -, -, y7⟩ := wg7_0 y
    cases b8 with
    | true =>
      rw [if_pos rfl] at z
      exact absurd z (by decide)
    | false =>
      rw [if_neg (show ¬ false = true by decide)] at z
      exact ⟨y2, y3, y4, y7, wh9_0 _ _ _ _ _ z⟩
  · rw [if_neg y] at z
    exact absurd z y
theorem drB_le {y e dd : Nat} (hy : y < 100) (he : e < 100) (q : drB (nI y) e dd = true) : y ≤ e := by
  rw [drB, Bool.and_eq_true] at q
  have z := q.2
  simp only [rg, Bool.and_eq_true, decide_eq_true_eq] at z
  have z2 := z.2
  rw [toI_nI (by omega), toI_nI (by omega)] at z2
  omega
theorem wsh_cg {D D' : Nat → Nat → Nat} {M M' : Nat → Nat} {t s f c : Nat} : ∀ n, (∀ i, i < n → D' i = D i ∧ M' i = M i) → wsh D' M' t s f c n = wsh D M t s f c n
  | 0, _ => rfl
  | n + 1, q => by rw [wsh, wsh, wsh_cg n (fun i hi => q i (by omega)), (q n (by omega)).1, (q n (by omega)).2]
