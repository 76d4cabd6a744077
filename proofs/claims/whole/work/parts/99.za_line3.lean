/-! the reader: a line with an E, both sides -/
/-- what a line leaves as it is -/
def cL (R a k : Nat) : Bool := !((a == 37 && (k == 6 || k == 7 || k == 8 || k == 9)) || a == R || a == R + 1 || a == R + 2 || a == R + 3)
theorem cL_37 {R k : Nat} (h : k = 6 ∨ k = 7 ∨ k = 8 ∨ k = 9) : cL R 37 k = false := by
  rcases h with rfl | rfl | rfl | rfl <;> rfl
theorem cL_R {R k : Nat} : cL R R k = false := by simp [cL]
theorem cL_G {R a k : Nat} (h : cL R a k = true) : cG R a k = true := by
  unfold cL at h
  unfold cG cF
  simp only [Bool.not_eq_true', Bool.or_eq_false_iff, Bool.and_eq_false_iff, Bool.and_eq_true, beq_eq_false_iff_ne] at h ⊢
  obtain ⟨⟨⟨⟨h1, h2⟩, h3⟩, h4⟩, h5⟩ := h
  refine ⟨⟨⟨?_, Or.inl h2⟩, h3⟩, h4, h5⟩
  rcases h1 with h1 | h1
  · exact Or.inl h1
  · exact Or.inr h1.1
theorem cL_F {R a k : Nat} (h : cL R a k = true) : cF R a k = true := cF_G (cL_G h)
/-- the numbers of the draft -/
def LF (u : Ru) (m : Int32) (h : av_H) : Prop := h.2.1 37 9 = m ∧ h.2.1 u.R 0 = nI u.n0 ∧ h.2.1 u.R 1 = nI u.n1 ∧ h.2.1 u.R 2 = nI u.r ∧ h.2.1 u.R 3 = nI u.dd ∧ h.2.1 u.R 4 = bI u.ky
def RFl (u : Ru) (rt dt : Bool) (h : av_H) : Prop := h.2.1 163 2 = nI u.n0 ∧ h.2.1 163 3 = nI u.n1 ∧ h.2.1 137 39 = (if rt = true then nI u.r else -1) ∧ h.2.1 137 40 = (if dt = true then nI u.dd else -1) ∧ h.2.1 137 42 = bI u.ky
/-- the rule in force stays -/
def kpR (h0 h : av_H) : Prop := (∀ j, j < 1100 → h.2.1 161 j = h0.2.1 161 j ∧ h.2.1 162 j = h0.2.1 162 j) ∧ (∀ j, j < 2 → h.2.1 163 j = h0.2.1 163 j) ∧ (∀ j, j < 12 → h.2.1 164 j = h0.2.1 164 j) ∧ ∀ j, j < 3 → h.2.1 165 j = h0.2.1 165 j
def offL (h0 h : av_H) : Prop := off false [161, 162, 163, 164, 165] [(137, 7), (137, 8), (137, 31), (137, 39), (137, 40), (137, 42)] h0 h
def LC (T : Nat → Nat) (hc0 : av_H) (u : Ru) (m : Int32) (h : av_H) (a len : Nat) : Prop := WF h ∧ agr (cL u.R) hc0 h ∧ h.2.1 37 6 = nI a ∧ h.2.1 37 7 = nI (T a) ∧ h.2.1 37 8 = 0 ∧ h.2.1 u.R 9 = nI len ∧ LF u m h ∧ KC u h len
def LR (hr0 : av_H) (u : Ru) (rt dt : Bool) (h : av_H) (a c : Nat) : Prop := WF h ∧ offL hr0 h ∧ h.2.1 137 7 = nI a ∧ h.2.1 137 8 = nI 0 ∧ h.2.1 137 31 = nI c ∧ kpR hr0 h ∧ RFl u rt dt h ∧ KR u h c
def LX (R : Nat) (hc0 h : av_H) (F : Nat) : Prop := WF h ∧ agr (cL R) hc0 h ∧ h.2.1 37 8 = nI F
def LY (hr0 h : av_H) (F : Nat) : Prop := WF h ∧ offL hr0 h ∧ kpR hr0 h ∧ h.2.1 137 8 = nI F
theorem LF.fr {u : Ru} {m : Int32} {h h' : av_H} (hR : u.R = 67 ∨ u.R = 72) (L : LF u m h) (A : agr (cG u.R) h h') : LF u m h' := by
  obtain ⟨h1, h2, h3, h4, h5, h6⟩ := L
  have e9 : h'.2.1 37 9 = h.2.1 37 9 := A.I (by rcases hR with e | e <;> rw [e] <;> rfl)
  have eR : ∀ k, k < 5 → h'.2.1 u.R k = h.2.1 u.R k := fun k hk => A.I (by
    rcases hR with e | e <;> rw [e] <;> (rcases k with _ | _ | _ | _ | _ | k <;> first | rfl | omega))
  exact ⟨e9.trans h1, (eR 0 (by decide)).trans h2, (eR 1 (by decide)).trans h3, (eR 2 (by decide)).trans h4, (eR 3 (by decide)).trans h5, (eR 4 (by decide)).trans h6⟩
theorem RFl.fr {u : Ru} {rt dt : Bool} {h h' : av_H} (L : RFl u rt dt h) (A : agr (FP false [163] [(137, 39), (137, 40), (137, 42)]) h h') : RFl u rt dt h' := by
  obtain ⟨h1, h2, h3, h4, h5⟩ := L
  exact ⟨(A.I rfl).trans h1, (A.I rfl).trans h2, (A.I rfl).trans h3, (A.I rfl).trans h4, (A.I rfl).trans h5⟩
theorem kpR.tr {h0 h h' : av_H} (k : kpR h0 h) (q : ∀ j, j < 1100 → h'.2.1 161 j = h.2.1 161 j ∧ h'.2.1 162 j = h.2.1 162 j) (A : agr (FP false [163, 164, 165] []) h h') : kpR h0 h' := by
  obtain ⟨k1, k2, k3, k4⟩ := k
  exact ⟨fun j hj => ⟨(q j hj).1.trans (k1 j hj).1, (q j hj).2.trans (k1 j hj).2⟩, fun j hj => (A.I rfl).trans (k2 j hj), fun j hj => (A.I rfl).trans (k3 j hj), fun j hj => (A.I rfl).trans (k4 j hj)⟩
theorem KC.cg {u : Ru} {h h' : av_H} {len : Nat} (J : KC u h len) (e1 : h'.2.1 (u.R + 1) = h.2.1 (u.R + 1)) (e2 : h'.2.1 (u.R + 2) = h.2.1 (u.R + 2)) (e3 : h'.2.1 (u.R + 3) = h.2.1 (u.R + 3)) : KC u h' len := by
  unfold KC at J ⊢
  rw [e1, e2, e3]
  exact J
theorem KR.cg {u : Ru} {h h' : av_H} {c : Nat} (J : KR u h c) (A : agr (FP false [161, 162, 164, 165] []) h h') : KR u h' c := by
  obtain ⟨h1, h2, h3, h4⟩ := J
  refine ⟨fun Q hQ => ?_, fun k hk => (A.I rfl).trans (h2 k hk), fun k hk => (A.I rfl).trans (h3 k hk), fun j hj => (A.I rfl).trans (h4 j hj)⟩
  obtain ⟨b1, b2, b3⟩ := h1 Q hQ
  exact ⟨b1, fun i hi => ⟨(A.I rfl).trans (b2 i hi).1, fun z => (A.I rfl).trans ((b2 i hi).2 z)⟩, (A.I rfl).trans b3⟩
section
variable {X : av_X} {d e : Nat} {T P : Nat → Nat} {n : Nat}
/-- an E, when a fault is there -/
theorem s_allF (K : TK T P n) {hr0 : av_H} (C : TR T P n hr0) {hr : av_H} {a c F dep : Nat} (ha : a ≤ n) (f0 : 0 < F) (f1 : F < 100000) (U : RS hr0 hr a c F) : ∃ hr', ev X (e + 7) 279 [vr (some 137), vi (nI dep)] hr = av_rV hr' ∧ RS hr0 hr' a c F ∧ sm6 hr hr' := by
  have pt : ev X (e + 3) 283 [vr (some 137), vi (nI dep)] hr = av_rV hr := by
    rw [e_283, b_283_0, gI_137_8 U.1, U.2.2.2.1, if_pos (show (0 : Int32) < nI F from nI_lt (a := 0) f0 (by omega))]
  obtain ⟨h1, e1, U1, m1⟩ := (rl_3 (X := X) (e := e + 1) K C (dep := dep)).2.1 hr a c F ha f0 f1 U
  have pr : ev X (e + 4) 282 [vr (some 137), vi (nI dep)] hr = av_rV h1 := by
    rw [e_282, b_282_0, is_137 U.1, pt, av_cV_r, Option.bind_some]
    exact e1
  obtain ⟨h2, e2, U2, m2⟩ := (rl_2 (X := X) (e := e + 3) K C (dep := dep)).2.1 h1 a c F ha f0 f1 U1
  have su : ev X (e + 5) 281 [vr (some 137), vi (nI dep)] hr = av_rV h2 := by
    rw [e_281, b_281_0, is_137 U.1, pr, av_cV_r, Option.bind_some]
    exact e2
  obtain ⟨h3, e3, U3, m3⟩ := s_hasS (X := X) (d := e + 3) C K U2 ha (by omega) (g := 60) (by decide)
  rw [if_neg (by omega)] at U3
  obtain ⟨h4, e4, U4, m4⟩ := s_hasS (X := X) (d := e + 3) C K U3 ha (by omega) (g := 61) (by decide)
  rw [if_neg (by omega)] at U4
  have te : ev X (e + 6) 280 [vr (some 137), vi (nI dep)] hr = av_rV h4 := by
    rw [e_280, b_280_0, is_137 U.1, su, av_cV_r, Option.bind_some, is_137 U2.1, show (60 : Int32) = nI 60 from rfl, s_isS C K U2 ha (by omega) (by decide), av_cI_r, Option.bind_some]
    dsimp only
    rw [is_137 U2.1, e3, av_cI_r, Option.bind_some]
    dsimp only
    rw [if_pos (dz (by omega)), is_137 U3.1, show (61 : Int32) = nI 61 from rfl, e4, av_cI_r, Option.bind_some]
    dsimp only
    rw [if_pos (dz (by omega))]
  obtain ⟨h5, e5, U5, m5⟩ := (rl_0 (X := X) (e := e + 5) K C (dep := dep)).2.1 h4 a c F ha f0 f1 U4
  refine ⟨h5, ?_, U5, ((((m1.tr m2).tr m3).tr m4).tr m5)⟩
  rw [e_279, b_279_0, is_137 U.1, te, av_cV_r, Option.bind_some]
  exact e5
theorem s_whF (K : TK T P n) {hr0 : av_H} (C : TR T P n hr0) {hr : av_H} {a c F : Nat} (ha : a ≤ n) (hc : c < 1100) (f0 : 0 < F) (f1 : F < 100000) (U : RS hr0 hr a c F) : ∃ hr', ev X (e + 38) 278 [vr (some 137)] hr = av_rV hr' ∧ RS hr0 hr' a (c + 1) F ∧ ∀ j, j < 1100 + c → hr'.2.1 161 j = hr.2.1 161 j ∧ hr'.2.1 162 j = hr.2.1 162 j := by
  obtain ⟨h1, e1, U1, m1⟩ := s_allF (X := X) (e := e + 30) K C (dep := 0) ha f0 f1 U
  obtain ⟨h2, e2, U2, p1, p2, p3⟩ := s_emit (X := X) (d := e + 36) U1 hc (v1 := 0) (v2 := 0)
  refine ⟨h2, ?_, U2, fun j hj => ?_⟩
  · rw [e_278, b_278_0, is_137 U.1, show (0 : Int32) = nI 0 from rfl, e1, av_cV_r, Option.bind_some, is_137 U1.1, show nI 0 = (0 : Int32) from rfl, e2, av_cV_r, Option.bind_some]
  · obtain ⟨x1, x2⟩ := p3 j (by omega)
    exact ⟨x1.trans (congrFun m1.1 j), x2.trans (congrFun m1.2 j)⟩
theorem offL.of {h0 h h' : av_H} (A : offL h0 h) (B : off false [161, 162] [(137, 7), (137, 8), (137, 31)] h h') : offL h0 h' := agr.tr A (B.up (by decide))
/-- an E at its place, and what is told by then -/
theorem ln_E {u : Ru} {m : Int32} {rt dt : Bool} (hR : u.R = 67 ∨ u.R = 72) (K : TK T P n) (TW : ∀ i, i ≤ n → T i < 20000 → T i < 10023) {hc0 hr0 hc hr hr1 : av_H} (C : TC T P n hc) (CR : TR T P n hr) {p a len c : Nat} (hp : p < 15) (x : u.nx p) (o : u.okE)
    (w : WF hc) (A : agr (cL u.R) hc0 hc) (c6 : hc.2.1 37 6 = nI a) (c7 : hc.2.1 37 7 = nI (T a)) (c8 : hc.2.1 37 8 = 0) (c9 : hc.2.1 u.R 9 = nI len) (LFc : LF (u.put p [] 0) m hc) (kc : KC u hc len)
    (wr : WF hr) (Ar : offL hr0 hr) (r7 : hr.2.1 137 7 = nI a) (r8 : hr.2.1 137 8 = nI 0) (r31 : hr.2.1 137 31 = nI c) (kpr : kpR hr0 hr) (RFr : RFl (u.put p [] 0) rt dt hr)
    (kr : KR u hr1 c) (e1 : hr.2.1 161 = hr1.2.1 161) (e2 : hr.2.1 162 = hr1.2.1 162) (a4 : ∀ k, hr.2.1 164 (12 + k) = if p < 12 ∧ k = p then nI c else hr1.2.1 164 (12 + k)) (a5 : ∀ k, k < 3 → hr.2.1 165 (3 + k) = if 12 + k = p then nI c else hr1.2.1 165 (3 + k)) (ha : a ≤ n) (hlen : len < a) (hcc : c < a) :
    (∃ a' es hc' hr', a ≤ a' ∧ a' ≤ n ∧ len + es.length ≤ a' ∧ c + es.length + 1 ≤ a' ∧ (u.put p es c).okE ∧ ev X (d + 38) 90 [vr (some 37), vr (some u.R), vi (nI p)] hc = av_rI (bI true) hc' ∧ ev X (e + 38) 278 [vr (some 137)] hr = av_rV hr' ∧ LC T hc0 (u.put p es c) m hc' a' (len + es.length) ∧ LR hr0 (u.put p es c) rt dt hr' a' (c + es.length + 1))
    ∨ (∃ F hc' hr', 0 < F ∧ F < 100000 ∧ ev X (d + 38) 90 [vr (some 37), vr (some u.R), vi (nI p)] hc = av_rI (bI false) hc' ∧ ev X (e + 38) 278 [vr (some 137)] hr = av_rV hr' ∧ LX u.R hc0 hc' F ∧ LY hr0 hr' F) := by
  rcases rdE (X := X) (d := d) (e := e) hR K TW C CR hp w c6 c7 c8 c9 (⟨wr, agr.rfl, r7, r8, r31⟩ : RS hr hr a c 0) ha (by omega) (by omega) with ⟨a', es, hc', hr', q1, q2, q3, q4, q5, q6, q7, q8, q9, q10, q11, q12, q13, q14, q15, q16, q17, q18, q19, q20⟩ | ⟨F, a', c', hc', hr', q1, q2, q3, q4, q5, q6, q7, q8, q9, q10⟩
  · obtain ⟨y0, y1, y2, y3, y4⟩ := q17
    refine Or.inl ⟨a', es, hc', hr', q1, q2, by omega, by omega, okE_put x o q4, q5, q6, ⟨q7, agr.tr A (agr.mono q8 (fun _ _ z => cL_G z)), q9, q10, q11, q12, ?_, ?_⟩, ⟨y0, Ar.of y1, y2, y3, ?_, ?_, ?_, ?_⟩⟩
    · exact LF.fr (u := u.put p es c) hR LFc q8
    · exact KC_put x kc rfl q13 q14 q15 q16
    · exact y4
    · exact kpr.tr (fun j hj => q20 j (by omega)) (y1.fr (by decide))
    · exact RFl.fr (u := u.put p es c) RFr (y1.fr (by decide))
    · have z4 : agr (FP false [164, 165] []) hr hr' := y1.fr (by decide)
      refine KR_put x kr rfl q18 q19 (fun j hj => ?_) (fun k => (z4.I rfl).trans (a4 k)) (fun k hk => (z4.I rfl).trans (a5 k hk))
      rw [← e1, ← e2]
      exact q20 j hj
  · obtain ⟨y0, y1, y2, y3, y4⟩ := q9
    exact Or.inr ⟨F, hc', hr', q1, q2, q3, q4, ⟨q5, agr.tr A (agr.mono q6 (fun _ _ z => cL_G z)), q7⟩, ⟨y0, Ar.of y1, kpr.tr (fun j hj => q10 j (by omega)) (y1.fr (by decide)), y3⟩⟩
end
