/-! the reader: all lines, both sides -/
theorem KR.cg' {u : Ru} {h h' : av_H} {c : Nat} (J : KR u h c) (m : sm6 h h') (A : agr (FP false [164, 165] []) h h') : KR u h' c := by
  obtain ⟨h1, h2, h3, h4⟩ := J
  refine ⟨fun Q hQ => ?_, fun k hk => (A.I rfl).trans (h2 k hk), fun k hk => (A.I rfl).trans (h3 k hk), fun j hj => (A.I rfl).trans (h4 j hj)⟩
  obtain ⟨b1, b2, b3⟩ := h1 Q hQ
  rw [m.1, m.2]
  exact ⟨b1, b2, b3⟩
section
variable {X : av_X} {d e : Nat} {T P : Nat → Nat} {n : Nat} {hc0 hr0 : av_H}
theorem ln_ok {u : Ru} {rt dt : Bool} {hc hr : av_H} {a len c : Nat} (H : LnH T P n hc0 hr0 u rt dt hc hr a len c) : LnR T n hc0 hr0 u.R a (ev X (d + 40) 84 [vr (some 37), vr (some u.R)] hc) (ev X (e + 39) 277 [vr (some 137)] hr) := by
  by_cases z : T a < 10000 ∨ 10008 ≤ T a
  · exact ln_bad H z
  · have : T a = 10000 ∨ T a = 10001 ∨ T a = 10002 ∨ T a = 10003 ∨ T a = 10004 ∨ T a = 10005 ∨ T a = 10006 ∨ T a = 10007 := by omega
    rcases this with y | y | y | y | y | y | y | y
    · exact ln_w0 H y
    · exact ln_w1 H y
    · exact ln_w2 H y
    · exact ln_w3 H y
    · exact ln_w4 H y
    · exact ln_w5 H y
    · exact ln_w6 H y
    · exact ln_keys H y
def RdR (X : av_X) (e : Nat) (T : Nat → Nat) (n : Nat) (hc0 hr0 : av_H) (R : Nat) (rc rr : Option (Option (Option av_V) × av_H)) : Prop :=
  (∃ u' rt' dt' len' c' hc' hr', Ru.R u' = R ∧ okU u' rt' dt' ∧ len' ≤ 1000 ∧ c' ≤ 1000 ∧ rc = av_rI (nI 0) (av_uI hc' 37 0 0) ∧ rr = bd X (e + 40) 274 54 [(0, vr (some 137))] [] hr' ∧ LC T hc0 u' (oMu u' rt' dt') hc' n len' ∧ LR hr0 u' rt' dt' hr' n c')
  ∨ (∃ F hc' hr', 0 < F ∧ F < 100000 ∧ rc = av_rI (nI F) (av_uI hc' 37 0 0) ∧ rr = bd X (e + 40) 274 54 [(0, vr (some 137))] [] hr' ∧ LX R hc0 hc' F ∧ LY hr0 hr' F)
theorem c_outF {h : av_H} {F i : Nat} {R : Nat} (w : WF h) (e8 : h.2.1 37 8 = nI F) (f0 : 0 < F) (f1 : F < 100000) (hi : i ≤ 1000) : bd X (d + 41) 70 21 [(0, vr (some 37)), (1, vr (some R)), (2, vi (nI i))] [] h = av_rI (nI F) (av_uI h 37 0 0) := by
  rw [b_70_21, if_neg (show ¬ (1000 : Int32) < nI i from nI_nlt (a := 1000) hi (by omega)), gI_37_8 w, e8, if_neg (show ¬ nI F = 0 from fun q => absurd ((nI_eq (b := 0) (by omega) (by omega)).mp q) (by omega)), pI_37 w, gI_37_8 (WF_uI w), uI_nk (by decide), e8]
theorem s_outF {h : av_H} {F : Nat} (w : WF h) (e8 : h.2.1 137 8 = nI F) (f0 : 0 < F) (f1 : F < 100000) : bd X (e + 40) 274 39 [(0, vr (some 137))] [] h = bd X (e + 40) 274 54 [(0, vr (some 137))] [] h := by
  rw [b_274_39, gI_137_8 w, e8, if_neg (show ¬ nI F = 0 from fun q => absurd ((nI_eq (b := 0) (by omega) (by omega)).mp q) (by omega))]
theorem rd_lp (K : TK T P n) (TW : ∀ i, i ≤ n → T i < 20000 → T i < 10023) (C : TC T P n hc0) (CR : TR T P n hr0) : ∀ r a i len c u rt dt hc hr, n - a ≤ r → i ≤ a → a ≤ n → len ≤ a → c ≤ a → (Ru.R u = 67 ∨ u.R = 72) → okU u rt dt → LC T hc0 u (oMu u rt dt) hc a len → LR hr0 u rt dt hr a c → RdR X e T n hc0 hr0 u.R (bd X (d + 41) 70 21 [(0, vr (some 37)), (1, vr (some u.R)), (2, vi (nI i))] [] hc) (bd X (e + 40) 274 39 [(0, vr (some 137))] [] hr) := by
  have kn := K.1
  have fin : ∀ i len c u rt dt hc hr, i ≤ 1000 → len ≤ 1000 → c ≤ 1000 → okU u rt dt → LC T hc0 u (oMu u rt dt) hc n len → LR hr0 u rt dt hr n c → RdR X e T n hc0 hr0 u.R (bd X (d + 41) 70 21 [(0, vr (some 37)), (1, vr (some u.R)), (2, vi (nI i))] [] hc) (bd X (e + 40) 274 39 [(0, vr (some 137))] [] hr) := fun i len c u rt dt hc hr hi hl hcc o L M => by
    refine Or.inl ⟨u, rt, dt, len, c, hc, hr, rfl, o, hl, hcc, ?_, ?_, L, M⟩
    · obtain ⟨w, A, c6, c7, c8, _⟩ := L
      rw [b_70_21, if_neg (show ¬ (1000 : Int32) < nI i from nI_nlt (a := 1000) hi (by omega)), gI_37_8 w, c8, if_pos rfl, gI_37_7 w, c7, K.2.1, if_pos (show nI 30001 = 30001 from rfl), pI_37 w, gI_37_8 (WF_uI w), uI_nk (by decide), c8]
      rfl
    · obtain ⟨w, A, r7, r8, _⟩ := M
      have t := (CR.fr (off.fr A (by decide))) n (Nat.le_refl _)
      rw [b_274_39, gI_137_8 w, r8, if_pos (show nI 0 = 0 from rfl), gR_137_4 w, gI_137_7 w, r7, ld_139 w (by omega), if_pos (t.1.2.2.2.2.mpr K.2.1)]
  intro r
  induction r with
  | zero =>
    intro a i len c u rt dt hc hr hr' hi ha hl hcc hR o L M
    obtain rfl : a = n := by omega
    exact fin i len c u rt dt hc hr (by omega) (by omega) (by omega) o L M
  | succ r ih =>
    intro a i len c u rt dt hc hr hr' hi ha hl hcc hR o L M
    by_cases an : a = n
    · subst an
      exact fin i len c u rt dt hc hr (by omega) (by omega) (by omega) o L M
    · have H : LnH T P n hc0 hr0 u rt dt hc hr a len c := ⟨hR, o, K, TW, C, CR, by omega, hl, hcc, L, M⟩
      have ok := ln_ok (X := X) (d := d + 1) (e := e + 1) H
      have t1 := K.2.2.1 a (by omega)
      obtain ⟨w, A, c6, c7, c8, _⟩ := L
      obtain ⟨wr, Ar, r7, r8, _⟩ := M
      have t := (CR.fr (off.fr Ar (by decide))) a ha
      rw [b_70_21, if_neg (show ¬ (1000 : Int32) < nI i from nI_nlt (a := 1000) (by omega) (by omega)), gI_37_8 w, c8, if_pos rfl, gI_37_7 w, c7, if_neg (show ¬ nI (T a) = 30001 from fun q => absurd ((nI_eq (b := 30001) (by omega) (by omega)).mp q) (by omega)), is_37 w, b_274_39, gI_137_8 wr, r8, if_pos (show nI 0 = 0 from rfl), gR_137_4 wr, gI_137_7 wr, r7, ld_139 wr (by omega), if_neg (fun q => absurd (t.1.2.2.2.2.mp q) (by omega)), is_137 wr]
      rcases ok with ⟨u', rt', dt', a', len', c', hc', hr', q1, q2, q3, q4, q5, q6, q7, q8, q9, q10⟩ | ⟨F, hc', hr', q1, q2, q3, q4, q5, q6⟩
      · rw [q7, q8, av_cI_r, Option.bind_some, av_cV_r, Option.bind_some]
        dsimp only
        rw [if_neg (show ¬ bI true = 0 by decide), ← q1]
        have hR' : u'.R = 67 ∨ u'.R = 72 := by rw [q1]; exact hR
        obtain ⟨x0, x1, x2, x3, x4, x5, x6, x7⟩ := q9
        obtain ⟨z0, z1, z2, z3, z4, z5, z6, z7⟩ := q10
        have S1 : CS T u'.R hc' hc' a' len' := ⟨x0, agr.rfl, x2, x3, x4, x5⟩
        have U1 : RS hr' hr' a' c' 0 := ⟨z0, agr.rfl, z2, z3, z4⟩
        have C1 := C.fL hR' x1
        have CR1 := CR.fr (off.fr z1 (by decide))
        obtain ⟨p1, p0⟩ := c_pass (X := X) (d := d + 39) hR' K C1 S1 q4 (by omega) (t := 20059) (by omega)
        rw [is_37 x0, is_137 z0, show (20059 : Int32) = nI 20059 from rfl, show (59 : Int32) = nI 59 from rfl]
        by_cases y : T a' = 20059
        · obtain ⟨h2, e2, ⟨y0, y1, y2, y3, y4, y5⟩, o2⟩ := p1 y
          obtain ⟨g2, f2, ⟨v0, v1, v2, v3, v4⟩, m2⟩ := s_tkS1 (X := X) (d := e + 38) CR1 K U1 q4 (g := 59) (by decide) y
          have an' : a' < n := K.lt q4 (by omega)
          rw [e2, f2, av_cI_r, Option.bind_some, av_cV_r, Option.bind_some, nI_1]
          exact ih (a' + 1) (i + 1) len' c' u' rt' dt' h2 g2 (by omega) (by omega) an' (by omega) (by omega) hR' q2 ⟨y0, x1.LF y1, y2, y3, y4, y5, x6.byF hR' y1, KC.byF hR' x7 y1 o2⟩ ⟨v0, z1.of v1, v2, v3, v4, z5.tr (fun j _ => ⟨congrFun m2.1 j, congrFun m2.2 j⟩) (v1.fr (by decide)), z6.fr (v1.fr (by decide)), z7.cg' m2 (v1.fr (by decide))⟩
        · obtain ⟨h2, e2, B2⟩ := p0 y
          obtain ⟨g2, f2, U2, m2⟩ := s_tkS0 (X := X) (d := e + 38) CR1 K U1 q4 (g := 59) (by decide) y
          have kp := K.2.2.2 a' q4
          have X2 := LX.of x1 B2
          have Y2 := LY.of z1 z5 U2 m2
          rw [e2, f2, av_cI_r, Option.bind_some, av_cV_r, Option.bind_some, nI_1]
          dsimp only
          exact Or.inr ⟨1 + 16 * P a', h2, g2, by omega, by omega, c_outF X2.1 X2.2.2 (by omega) (by omega) (by omega), s_outF Y2.1 Y2.2.2.2 (by omega) (by omega), X2, Y2⟩
      · rw [q3, q4, av_cI_r, Option.bind_some, av_cV_r, Option.bind_some]
        dsimp only
        rw [if_pos (show bI false = 0 from rfl), is_137 q6.1, s_semF q6.1 q1 q2 q6.2.2.2, av_cV_r, Option.bind_some, nI_1]
        exact Or.inr ⟨F, hc', hr', q1, q2, c_outF q5.1 q5.2.2 q1 q2 (by omega), s_outF q6.1 q6.2.2.2 q1 q2, q5, q6⟩
end
