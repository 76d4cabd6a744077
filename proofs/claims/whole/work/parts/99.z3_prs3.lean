/-! the reader: what is read is written alike on both sides -/
def AL (f : Nat → Int32) : Nat → List Nat → Prop
  | _, [] => True
  | b, s :: es => f b = nI s ∧ AL f (b + 1) es
def RL (h : av_H) : Nat → List Nat → Prop
  | _, [] => True
  | b, s :: es => (h.2.1 161 b = nI (opc s) ∧ ((s < 10000 ∨ isF s) → h.2.1 162 b = nI (agc s))) ∧ RL h (b + 1) es
def oSL : List Nat → Nat → Nat → Prop
  | [], m, k => m = k
  | s :: es, m, k => okSt s m ∧ oSL es (dpS s m) k
theorem AL_app {f : Nat → Int32} : ∀ {es fs : List Nat} {b : Nat}, AL f b es → AL f (b + es.length) fs → AL f b (es ++ fs)
  | [], fs, b, _, h2 => h2
  | s :: es, fs, b, h1, h2 => ⟨h1.1, AL_app h1.2 (by rw [List.length_cons, show b + (es.length + 1) = b + 1 + es.length by omega] at h2; exact h2)⟩
theorem AL_cg {f g : Nat → Int32} : ∀ {es : List Nat} {b : Nat}, (∀ j, b ≤ j → j < b + es.length → g j = f j) → AL f b es → AL g b es
  | [], _, _, _ => trivial
  | s :: es, b, e, h => ⟨(e b (Nat.le_refl _) (by rw [List.length_cons]; omega)).trans h.1, AL_cg (fun j h1 h2 => e j (by omega) (by rw [List.length_cons]; omega)) h.2⟩
theorem RL_app {h : av_H} : ∀ {es fs : List Nat} {b : Nat}, RL h b es → RL h (b + es.length) fs → RL h b (es ++ fs)
  | [], fs, b, _, h2 => h2
  | s :: es, fs, b, h1, h2 => ⟨h1.1, RL_app h1.2 (by rw [List.length_cons, show b + (es.length + 1) = b + 1 + es.length by omega] at h2; exact h2)⟩
theorem RL_cg {h h' : av_H} : ∀ {es : List Nat} {b : Nat}, (∀ j, b ≤ j → j < b + es.length → h'.2.1 161 j = h.2.1 161 j ∧ h'.2.1 162 j = h.2.1 162 j) → RL h b es → RL h' b es
  | [], _, _, _ => trivial
  | s :: es, b, e, q => by
    obtain ⟨e1, e2⟩ := e b (Nat.le_refl _) (by rw [List.length_cons]; omega)
    exact ⟨⟨e1.trans q.1.1, fun z => e2.trans (q.1.2 z)⟩, RL_cg (fun j h1 h2 => e j (by omega) (by rw [List.length_cons]; omega)) q.2⟩
theorem oSL_app : ∀ {es fs : List Nat} {m j k : Nat}, oSL es m j → oSL fs j k → oSL (es ++ fs) m k
  | [], fs, m, j, k, h1, h2 => by
    have : m = j := h1
    rw [this]
    exact h2
  | s :: es, fs, m, j, k, h1, h2 => ⟨h1.1, oSL_app h1.2 h2⟩
theorem jt_B {l t : Nat} (h : jtB l t = true) : isB t ∧ ¬ t < 10000 ∧ ¬ isF t ∧ t ≠ 30001 := by
  unfold jtB at h
  unfold isB isF
  split at h
  · rw [Bool.or_eq_true, decide_eq_true_eq, decide_eq_true_eq] at h; omega
  · split at h
    · rw [Bool.or_eq_true, decide_eq_true_eq, decide_eq_true_eq] at h; omega
    · split at h
      · rw [Bool.or_eq_true, decide_eq_true_eq, decide_eq_true_eq] at h; omega
      · rw [decide_eq_true_eq] at h; omega
theorem isB_ok {t m : Nat} (h : isB t) (n1 : ¬ t < 10000) (n2 : ¬ isF t) (hm : m ≤ 30) : oSL [t] (m + 2) (m + 1) := by
  refine ⟨Or.inr (Or.inr (Or.inr ⟨h, by omega, by omega⟩)), ?_⟩
  show dpS t (m + 2) = m + 1
  unfold isF at n2
  unfold isB at h
  rw [dpS, if_neg n1, if_neg n2, if_neg (by omega)]
  omega
def Res (T : Nat → Nat) (n R : Nat) (hc0 hr0 : av_H) (Q : List Nat → Prop) (hc hr : av_H) (a len c : Nat) (rc rr : Option (Option (Option av_V) × av_H)) : Prop :=
  (∃ a' es hc' hr', a ≤ a' ∧ a' ≤ n ∧ es.length ≤ a' - a ∧ Q es ∧ rc = av_rI (bI true) hc' ∧ rr = av_rV hr' ∧ CS T R hc0 hc' a' (len + es.length) ∧ AL (hc'.2.1 (R + 1)) len es ∧ (∀ j, j < len → hc'.2.1 (R + 1) j = hc.2.1 (R + 1) j) ∧ RS hr0 hr' a' (c + es.length) 0 ∧ RL hr' (1100 + c) es ∧ (∀ j, j < 1100 + c → hr'.2.1 161 j = hr.2.1 161 j ∧ hr'.2.1 162 j = hr.2.1 162 j))
  ∨ (∃ F a' c' hc' hr', 0 < F ∧ F < 100000 ∧ rc = av_rI (bI false) hc' ∧ rr = av_rV hr' ∧ CB R hc0 hc' F ∧ a ≤ a' ∧ a' ≤ n ∧ c' ≤ c + (a' - a) ∧ c ≤ c' ∧ RS hr0 hr' a' c' F ∧ (∀ j, j < 1100 + c → hr'.2.1 161 j = hr.2.1 161 j ∧ hr'.2.1 162 j = hr.2.1 162 j))
def Sub (T : Nat → Nat) (n R : Nat) (hc0 hr0 : av_H) (Q : List Nat → Prop) (fc fr : av_H → Option (Option (Option av_V) × av_H)) : Prop := ∀ hc hr a len c, a ≤ n → len ≤ a → c ≤ a → CS T R hc0 hc a len → RS hr0 hr a c 0 → Res T n R hc0 hr0 Q hc hr a len c (fc hc) (fr hr)
def RLoop (X : av_X) (e : Nat) (T : Nat → Nat) (n : Nat) (hr0 : av_H) (l : Nat) (sub rl : av_H → Option (Option (Option av_V) × av_H)) : Prop :=
  (∀ hr a c, a ≤ n → RS hr0 hr a c 0 → jtB l (T a) = false → ∃ hr', rl hr = av_rV hr' ∧ RS hr0 hr' a c 0 ∧ sm6 hr hr') ∧ (∀ hr a c F, a ≤ n → 0 < F → F < 100000 → RS hr0 hr a c F → ∃ hr', rl hr = av_rV hr' ∧ RS hr0 hr' a c F ∧ sm6 hr hr') ∧ ∀ hr a c, a < n → RS hr0 hr a c 0 → jtB l (T a) = true → ∃ hr1, RS hr0 hr1 (a + 1) c 0 ∧ sm6 hr hr1 ∧ ∀ q, sub hr1 = av_rV q → WF q → rl hr = (av_cV (ev X (e + 1) 273 [vr (some 137), vi (nI (opc (T a))), vi 0] q)).bind rl
section
variable {X : av_X} {d e : Nat} {hc0 hr0 : av_H} {T P : Nat → Nat} {n R : Nat}
theorem lv_bad {l dep i mx : Nat} {h : av_H} : bd X (d + 1) 91 25 [(0, vr (some 37)), (1, vr (some R)), (2, vi (nI l)), (3, vi (nI dep)), (4, vi (bI false)), (5, vi (nI mx)), (6, vi (nI i))] [] h = av_rI (bI false) h := by
  rw [b_91_25]
  split
  · rw [if_pos (show bI false = 0 from rfl), zb_b]
  · rw [zb_b]
theorem lv_stop (K : TK T P n) {l dep i mx : Nat} {h : av_H} {a len : Nat} (hl : l ≤ 3) (S : CS T R hc0 h a len) (ha : a ≤ n) (z : jtB l (T a) = false) : bd X (d + 1) 91 25 [(0, vr (some 37)), (1, vr (some R)), (2, vi (nI l)), (3, vi (nI dep)), (4, vi (bI true)), (5, vi (nI mx)), (6, vi (nI i))] [] h = av_rI (bI true) h := by
  rw [b_91_25]
  split
  · rw [if_neg (show ¬ bI true = 0 by decide), is_37 S.1, c_joint K S ha hl, av_cI_r, Option.bind_some, z, if_pos (show bI false = 0 from rfl), zb_b]
  · rw [zb_b]
theorem lv_go (hR : R = 67 ∨ R = 72) (K : TK T P n) (C : TC T P n hc0) {l dep i mx : Nat} {h : av_H} {a len : Nat} (hl : l ≤ 3) (S : CS T R hc0 h a len) (ha : a < n) (z : jtB l (T a) = true) (hi : i < mx) (hm : mx ≤ 1000) : ∃ h1, CS T R hc0 h1 (a + 1) len ∧ h1.2.1 (R + 1) = h.2.1 (R + 1) ∧ bd X (d + 1) 91 25 [(0, vr (some 37)), (1, vr (some R)), (2, vi (nI l)), (3, vi (nI dep)), (4, vi (bI true)), (5, vi (nI mx)), (6, vi (nI i))] [] h = (av_cI (ev X (d + 1) 91 [vr (some 37), vr (some R), vi (nI (l + 1)), vi (nI dep)] h1)).bind fun q4 => if av_is q4.2 (some R) 6 = true then ((av_cV (ev X (d + 1) 98 [vr (some R), vi (nI (T a))] q4.2)).bind fun q5 => bd X (d + 1) 91 25 [(0, vr (some 37)), (1, vr (some R)), (2, vi (nI l)), (3, vi (nI dep)), (4, vi q4.1), (5, vi (nI mx)), (6, vi (nI (i + 1)))] [] q5) else none := by
  obtain ⟨h1, e1, S1, o1⟩ := c_tkT (X := X) (d := d) hR K C S ha
  refine ⟨h1, S1, o1, ?_⟩
  rw [b_91_25, if_pos (nI_lt hi (by omega)), if_neg (show ¬ bI true = 0 by decide), is_37 S.1, c_joint K S (by omega) hl, av_cI_r, Option.bind_some, z, if_neg (show ¬ bI true = 0 by decide), gI_37_7 S.1, S.2.2.2.1, is_37 S.1, e1, av_cV_r, Option.bind_some, is_37 S1.1, nI_1, nI_1]
theorem lv_lp (hR : R = 67 ∨ R = 72) (K : TK T P n) (C : TC T P n hc0) {l dep B : Nat} (hl : l ≤ 3) (hB : B ≤ 29) {sub rl : av_H → Option (Option (Option av_V) × av_H)} (Hs : Sub T n R hc0 hr0 (fun es => ∀ m, m ≤ B + 1 → oSL es m (m + 1)) (fun h => ev X (d + 1) 91 [vr (some 37), vr (some R), vi (nI (l + 1)), vi (nI dep)] h) sub) (HL : RLoop X e T n hr0 l sub rl) : ∀ k i hc hr a len c, n - a ≤ k → i ≤ a → a ≤ n → len ≤ a → c ≤ a → CS T R hc0 hc a len → RS hr0 hr a c 0 → Res T n R hc0 hr0 (fun es => ∀ m, m ≤ B → oSL es (m + 1) (m + 1)) hc hr a len c (bd X (d + 1) 91 25 [(0, vr (some 37)), (1, vr (some R)), (2, vi (nI l)), (3, vi (nI dep)), (4, vi (bI true)), (5, vi (nI 1000)), (6, vi (nI i))] [] hc) (rl hr) := by
  intro k
  induction k with
  | zero =>
    intro i hc hr a len c hk hi ha hlen hcc S U
    have an : a = n := by omega
    have z : jtB l (T a) = false := by
      cases y : jtB l (T a) with
      | false => rfl
      | true => exact absurd (an ▸ K.2.1) (jt_B y).2.2.2
    obtain ⟨hr', e1, U', sm⟩ := HL.1 hr a c ha U z
    refine Or.inl ⟨a, [], hc, hr', Nat.le_refl _, ha, Nat.zero_le _, fun m _ => rfl, lv_stop K hl S ha z, e1, S, trivial, fun _ _ => rfl, U', trivial, fun j _ => ⟨congrFun sm.1 j, congrFun sm.2 j⟩⟩
  | succ k ih =>
    intro i hc hr a len c hk hi ha hlen hcc S U
    cases z : jtB l (T a) with
    | false =>
      obtain ⟨hr', e1, U', sm⟩ := HL.1 hr a c ha U z
      exact Or.inl ⟨a, [], hc, hr', Nat.le_refl _, ha, Nat.zero_le _, fun m _ => rfl, lv_stop K hl S ha z, e1, S, trivial, fun _ _ => rfl, U', trivial, fun j _ => ⟨congrFun sm.1 j, congrFun sm.2 j⟩⟩
    | true =>
      obtain ⟨jb, j1, j2, j3⟩ := jt_B z
      have an : a < n := K.lt ha j3
      have kn := K.1
      obtain ⟨h1, S1, o1, e1⟩ := lv_go (X := X) (d := d) hR K C (dep := dep) (i := i) (mx := 1000) hl S an z (by omega) (by omega)
      obtain ⟨g1, U1, m1, f1⟩ := HL.2.2 hr a c an U z
      rw [e1]
      rcases Hs h1 g1 (a + 1) len c (by omega) (by omega) (by omega) S1 U1 with ⟨a', es, h2, g2, q1, q2, q3, q4, q5, q6, q7, q8, q9, q10, q11, q12⟩ | ⟨F, a', c', h2, g2, q1, q2, q3, q4, q5, q6, q7, q8, q8', q9, q10⟩
      · obtain ⟨h3, e3, S3, o3, o3'⟩ := c_addg (X := X) (d := d) hR q7 (by omega) (v := T a)
        obtain ⟨g3, f3, U3, p3, p3', p3''⟩ := s_emit (X := X) (d := e) q10 (by omega) (v1 := nI (opc (T a))) (v2 := 0)
        dsimp only at q5
        rw [q5, f1 g2 q6 q10.1, av_cI_r, Option.bind_some]
        dsimp only
        rw [is_Rg hR q7.1, e3, f3, av_cV_r, Option.bind_some, av_cV_r, Option.bind_some]
        have AL3 : AL (h3.2.1 (R + 1)) len (es ++ [T a]) := AL_app (AL_cg (fun j h1 h2 => o3' j (by omega)) q8) ⟨o3, trivial⟩
        have RL3 : RL g3 (1100 + c) (es ++ [T a]) := RL_app (RL_cg (fun j h1 h2 => p3'' j (by omega)) q11) ⟨⟨by rw [show 1100 + c + es.length = 1100 + (c + es.length) by omega]; exact p3, fun y => absurd y (fun y => y.elim j1 j2)⟩, trivial⟩
        have fl : (es ++ [T a]).length = es.length + 1 := by rw [List.length_append]; rfl
        rcases ih (i + 1) h3 g3 a' (len + es.length + 1) (c + es.length + 1) (by omega) (by omega) q2 (by omega) (by omega) S3 U3 with ⟨a2, fs, h4, g4, r1, r2, r3, r4, r5, r6, r7, r8, r9, r10, r11, r12⟩ | ⟨F, a2, c2, h4, g4, r1, r2, r3, r4, r5, r6, r7, r8, r8', r9, r10⟩
        · refine Or.inl ⟨a2, (es ++ [T a]) ++ fs, h4, g4, by omega, r2, ?_, fun m hm => ?_, r5, r6, ?_, ?_, fun j hj => ?_, ?_, ?_, fun j hj => ?_⟩
          · rw [List.length_append, fl]
            omega
          · exact oSL_app (oSL_app (q4 (m + 1) (by omega)) (isB_ok jb j1 j2 (by omega))) (r4 m hm)
          · rw [List.length_append, fl, show len + (es.length + 1 + fs.length) = len + es.length + 1 + fs.length by omega]
            exact r7
          · exact AL_app (AL_cg (fun j h1 h2 => r9 j (by rw [fl] at h2; omega)) AL3) (by rw [fl, ← Nat.add_assoc]; exact r8)
          · rw [r9 j (by omega), o3' j (by omega), q9 j hj, o1]
          · rw [List.length_append, fl, show c + (es.length + 1 + fs.length) = c + es.length + 1 + fs.length by omega]
            exact r10
          · exact RL_app (RL_cg (fun j h1 h2 => r12 j (by rw [fl] at h2; omega)) RL3) (by rw [fl, show 1100 + c + (es.length + 1) = 1100 + (c + es.length + 1) by omega]; exact r11)
          · obtain ⟨x1, x2⟩ := r12 j (by omega)
            obtain ⟨y1, y2⟩ := p3'' j (by omega)
            obtain ⟨z1, z2⟩ := q12 j hj
            exact ⟨x1.trans (y1.trans (z1.trans (congrFun m1.1 j))), x2.trans (y2.trans (z2.trans (congrFun m1.2 j)))⟩
        · refine Or.inr ⟨F, a2, c2, h4, g4, r1, r2, r3, r4, r5, by omega, r7, by omega, by omega, r9, fun j hj => ?_⟩
          obtain ⟨x1, x2⟩ := r10 j (by omega)
          obtain ⟨y1, y2⟩ := p3'' j (by omega)
          obtain ⟨z1, z2⟩ := q12 j hj
          exact ⟨x1.trans (y1.trans (z1.trans (congrFun m1.1 j))), x2.trans (y2.trans (z2.trans (congrFun m1.2 j)))⟩
      · obtain ⟨h3, e3, S3⟩ := c_addb (X := X) (d := d) hR q5 (v := T a)
        obtain ⟨g3, f3, U3, p3, p3', p3''⟩ := s_emit (X := X) (d := e) q9 (by omega) (v1 := nI (opc (T a))) (v2 := 0)
        obtain ⟨g4, f4, U4, m4⟩ := HL.2.1 g3 a' (c' + 1) F q7 q1 q2 U3
        dsimp only at q3
        rw [q3, f1 g2 q4 q9.1, av_cI_r, Option.bind_some]
        dsimp only
        rw [is_Rg hR q5.1, e3, f3, av_cV_r, Option.bind_some, av_cV_r, Option.bind_some, lv_bad, f4]
        refine Or.inr ⟨F, a', c' + 1, h3, g4, q1, q2, rfl, rfl, S3, by omega, q7, by omega, by omega, U4, fun j hj => ?_⟩
        obtain ⟨y1, y2⟩ := p3'' j (by omega)
        obtain ⟨z1, z2⟩ := q10 j hj
        exact ⟨(congrFun m4.1 j).trans (y1.trans (z1.trans (congrFun m1.1 j))), (congrFun m4.2 j).trans (y2.trans (z2.trans (congrFun m1.2 j)))⟩
end
