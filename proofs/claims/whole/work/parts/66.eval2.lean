/-! the class's answers, the reference's worth, whether a rule stops or quiets -/
/-- an E of the class, at place P of rule R -/
def ruG (R : Nat) (h : av_H) (P : Nat) (E : Nat → Nat) (l : Nat) : Prop := ∃ b T, b + l ≤ T ∧ T ≤ 1000 ∧ h.2.1 R 9 = nI T ∧ h.2.1 (R + 2) P = nI b ∧ h.2.1 (R + 3) P = nI (b + l) ∧ ∀ i, i < l → h.2.1 (R + 1) (b + i) = nI (E i)
/-- the rule's stack may hold anything -/
def stkE (R : Nat) (h h' : av_H) : Prop := ∃ f, h' = setC h (R + 4) f
theorem stkE.rfl {R : Nat} {h : av_H} : stkE R h h := ⟨h.2.1 (R + 4), setC_id.symm⟩
theorem setC_2 {h : av_H} {a : Nat} {f g : Nat → Int32} : setC (setC h a f) a g = setC h a g := by
  have e : va_up (va_up h.2.1 a f) a g = va_up h.2.1 a g := by
    funext c
    by_cases e1 : c = a
    · subst e1
      rw [va_up_self, va_up_self]
    · rw [va_up_ne _ _ e1, va_up_ne _ _ e1, va_up_ne _ _ e1]
  simp only [setC, e]
theorem stkE.tr {R : Nat} {h g k : av_H} (a : stkE R h g) (b : stkE R g k) : stkE R h k := by
  obtain ⟨f, rfl⟩ := a
  obtain ⟨f', rfl⟩ := b
  exact ⟨f', setC_2⟩
theorem stkE.ne {R : Nat} {h h' : av_H} (S : stkE R h h') {a : Nat} (e : a ≠ R + 4) : h'.2.1 a = h.2.1 a := by
  obtain ⟨f, rfl⟩ := S
  exact setC_ne e
theorem stkE.wf {R : Nat} {h h' : av_H} (S : stkE R h h') (w : WF h) : WF h' := by
  obtain ⟨f, rfl⟩ := S
  exact WF_setC w
theorem ruG.st {R : Nat} {h h' : av_H} (S : stkE R h h') {P : Nat} {E : Nat → Nat} {l : Nat} (G : ruG R h P E l) : ruG R h' P E l := by
  obtain ⟨b, T, h1, h2, h3, h4, h5, h6⟩ := G
  refine ⟨b, T, h1, h2, ?_, ?_, ?_, fun i hi => ?_⟩
  · rw [S.ne (by omega)]; exact h3
  · rw [S.ne (by omega)]; exact h4
  · rw [S.ne (by omega)]; exact h5
  · rw [S.ne (by omega)]; exact h6 i hi
/-- the reference's pile may hold anything -/
def pilE (h h' : av_H) : Prop := ∃ f, h' = setC h 167 f
theorem pilE.rfl {h : av_H} : pilE h h := ⟨h.2.1 167, setC_id.symm⟩
theorem pilE.tr {h g k : av_H} (a : pilE h g) (b : pilE g k) : pilE h k := by
  obtain ⟨f, rfl⟩ := a
  obtain ⟨f', rfl⟩ := b
  exact ⟨f', setC_2⟩
theorem pilE.ne {h h' : av_H} (S : pilE h h') {a : Nat} (e : a ≠ 167) : h'.2.1 a = h.2.1 a := by
  obtain ⟨f, rfl⟩ := S
  exact setC_ne e
theorem pilE.wf {h h' : av_H} (S : pilE h h') (w : WF h) : WF h' := by
  obtain ⟨f, rfl⟩ := S
  exact WF_setC w
theorem ruQ.pl {h h' : av_H} (S : pilE h h') {L : Nat} {E : Nat → Nat} {l : Nat} (Q : ruQ h L E l) : ruQ h' L E l := by
  obtain ⟨h1, h2, h3⟩ := Q
  refine ⟨h1, fun i hi => ?_, ?_⟩
  · rw [S.ne (by decide), S.ne (by decide)]
    exact h2 i hi
  · rw [S.ne (by decide)]
    exact h3
section
variable {X : av_X} {d : Nat} {h : av_H}
theorem ans_67 (w : WF h) {P l : Nat} {E : Nat → Nat} (hP : P < 15) (G : ruG 67 h P E l) (ok : okRu E l 0 0) : ∃ h', stkE 67 h h' ∧ ev X (d + 2) 101 [vr (some 67), vi (nI P), vr (some 64)] h = av_rI (wor (h.2.1 64) E l) h' := by
  obtain ⟨b, T, h1, h2, h3, h4, h5, h6⟩ := G
  refine ⟨setC h 71 (rnS (h.2.1 64) E l 0 (0, h.2.1 71)).2, ⟨_, rfl⟩, ?_⟩
  rw [e_101, b_101_0, if_neg (nI_pos (by omega)), if_pos (show nI P < (15 : Int32) from nI_lt (b := 15) hP (by omega)), gR_67_6 w, ld_69 w hP, show h.2.1 69 P = nI b from h4]
  have e := ans_lp_67 (X := X) (d := d) w hP h1 h2 h3 h5 h6 l 0 (0, h.2.1 71) (by omega) ok
  rw [wor_eq (fun _ _ => rfl) ok] at e
  simp only [setC_id] at e
  exact e
theorem ansN_67 (w : WF h) {P b : Nat} (hP : P < 15) (hb : b < 100000) (h4 : h.2.1 69 P = nI b) (h5 : h.2.1 70 P = nI b) : ev X (d + 2) 101 [vr (some 67), vi (nI P), vr (some 64)] h = av_rI 0 h := by
  rw [e_101, b_101_0, if_neg (nI_pos (by omega)), if_pos (show nI P < (15 : Int32) from nI_lt (b := 15) hP (by omega)), gR_67_6 w, ld_69 w hP, h4, b_101_14, gR_67_7 w, ld_70 w hP, h5, if_neg (nI_nlt (by omega) (by omega)), b_101_78, if_neg (by decide)]
theorem stop_lp_67 {n0 : Nat} {E : Nat → Nat → Nat} {l : Nat → Nat} (n6 : n0 ≤ 6) (ok : ∀ k, k < n0 → okRu (E k) (l k) 0 0) : ∀ r k (h : av_H), k + r = n0 → WF h → h.2.1 67 0 = nI n0 → (∀ k, k < n0 → ruG 67 h k (E k) (l k)) → ∃ h', stkE 67 h h' ∧ bd X (d + 2) 99 2 [(0, vr (some 67)), (1, vr (some 64)), (2, vi (nI k))] [] h = av_rI (bI (anyN r k (fun k => !decide (wor (h.2.1 64) (E k) (l k) = 0)))) h'
  | 0, k, h, hk, w, e0, G => by
    refine ⟨h, stkE.rfl, ?_⟩
    rw [b_99_2, gI_67_0 w, e0, if_neg (nI_nlt (by omega) (by omega))]
    rfl
  | r + 1, k, h, hk, w, e0, G => by
    obtain ⟨h1, s1, a1⟩ := ans_67 (X := X) (d := d) w (show k < 15 by omega) (G k (by omega)) (ok k (by omega))
    rw [b_99_2, gI_67_0 w, e0, if_pos (nI_lt (by omega) (by omega)), is_67 w, a1, av_cI_r, Option.bind_some, nI_1, anyN]
    by_cases q : wor (h.2.1 64) (E k) (l k) = 0
    · obtain ⟨h2, s2, a2⟩ := stop_lp_67 n6 ok r (k + 1) h1 (by omega) (s1.wf w) (by rw [s1.ne (by decide)]; exact e0) (fun k hk => (G k hk).st s1)
      rw [s1.ne (by decide)] at a2
      refine ⟨h2, s1.tr s2, ?_⟩
      rw [if_pos q, decide_eq_true q, a2]
      rfl
    · refine ⟨h1, s1, ?_⟩
      rw [if_neg q, decide_eq_false q]
      rfl
theorem quiet_lp_67 {n0 : Nat} {E : Nat → Nat → Nat} {l : Nat → Nat} (n6 : n0 ≤ 6) (ok : ∀ k, k < n0 → okRu (E (6 + k)) (l (6 + k)) 0 0) : ∀ r k (h : av_H), k + r = n0 → WF h → h.2.1 67 1 = nI n0 → (∀ k, k < n0 → ruG 67 h (6 + k) (E (6 + k)) (l (6 + k))) → ∃ h', stkE 67 h h' ∧ bd X (d + 2) 100 2 [(0, vr (some 67)), (1, vr (some 64)), (2, vi (nI k))] [] h = av_rI (bI (anyN r k (fun k => !decide (wor (h.2.1 64) (E (6 + k)) (l (6 + k)) = 0)))) h'
  | 0, k, h, hk, w, e0, G => by
    refine ⟨h, stkE.rfl, ?_⟩
    rw [b_100_2, gI_67_1 w, e0, if_neg (nI_nlt (by omega) (by omega))]
    rfl
  | r + 1, k, h, hk, w, e0, G => by
    obtain ⟨h1, s1, a1⟩ := ans_67 (X := X) (d := d) w (show 6 + k < 15 by omega) (G k (by omega)) (ok k (by omega))
    rw [b_100_2, gI_67_1 w, e0, if_pos (nI_lt (by omega) (by omega)), is_67 w, lit_6, nI_add, a1, av_cI_r, Option.bind_some, nI_1, anyN]
    by_cases q : wor (h.2.1 64) (E (6 + k)) (l (6 + k)) = 0
    · obtain ⟨h2, s2, a2⟩ := quiet_lp_67 n6 ok r (k + 1) h1 (by omega) (s1.wf w) (by rw [s1.ne (by decide)]; exact e0) (fun k hk => (G k hk).st s1)
      rw [s1.ne (by decide)] at a2
      refine ⟨h2, s1.tr s2, ?_⟩
      rw [if_pos q, decide_eq_true q, a2]
      rfl
    · refine ⟨h1, s1, ?_⟩
      rw [if_neg q, decide_eq_false q]
      rfl
theorem ans_72 (w : WF h) {P l : Nat} {E : Nat → Nat} (hP : P < 15) (G : ruG 72 h P E l) (ok : okRu E l 0 0) : ∃ h', stkE 72 h h' ∧ ev X (d + 2) 101 [vr (some 72), vi (nI P), vr (some 64)] h = av_rI (wor (h.2.1 64) E l) h' := by
  obtain ⟨b, T, h1, h2, h3, h4, h5, h6⟩ := G
  refine ⟨setC h 76 (rnS (h.2.1 64) E l 0 (0, h.2.1 76)).2, ⟨_, rfl⟩, ?_⟩
  rw [e_101, b_101_0, if_neg (nI_pos (by omega)), if_pos (show nI P < (15 : Int32) from nI_lt (b := 15) hP (by omega)), gR_72_6 w, ld_74 w hP, show h.2.1 74 P = nI b from h4]
  have e := ans_lp_72 (X := X) (d := d) w hP h1 h2 h3 h5 h6 l 0 (0, h.2.1 76) (by omega) ok
  rw [wor_eq (fun _ _ => rfl) ok] at e
  simp only [setC_id] at e
  exact e
theorem ansN_72 (w : WF h) {P b : Nat} (hP : P < 15) (hb : b < 100000) (h4 : h.2.1 74 P = nI b) (h5 : h.2.1 75 P = nI b) : ev X (d + 2) 101 [vr (some 72), vi (nI P), vr (some 64)] h = av_rI 0 h := by
  rw [e_101, b_101_0, if_neg (nI_pos (by omega)), if_pos (show nI P < (15 : Int32) from nI_lt (b := 15) hP (by omega)), gR_72_6 w, ld_74 w hP, h4, b_101_14, gR_72_7 w, ld_75 w hP, h5, if_neg (nI_nlt (by omega) (by omega)), b_101_78, if_neg (by decide)]
theorem stop_lp_72 {n0 : Nat} {E : Nat → Nat → Nat} {l : Nat → Nat} (n6 : n0 ≤ 6) (ok : ∀ k, k < n0 → okRu (E k) (l k) 0 0) : ∀ r k (h : av_H), k + r = n0 → WF h → h.2.1 72 0 = nI n0 → (∀ k, k < n0 → ruG 72 h k (E k) (l k)) → ∃ h', stkE 72 h h' ∧ bd X (d + 2) 99 2 [(0, vr (some 72)), (1, vr (some 64)), (2, vi (nI k))] [] h = av_rI (bI (anyN r k (fun k => !decide (wor (h.2.1 64) (E k) (l k) = 0)))) h'
  | 0, k, h, hk, w, e0, G => by
    refine ⟨h, stkE.rfl, ?_⟩
    rw [b_99_2, gI_72_0 w, e0, if_neg (nI_nlt (by omega) (by omega))]
    rfl
  | r + 1, k, h, hk, w, e0, G => by
    obtain ⟨h1, s1, a1⟩ := ans_72 (X := X) (d := d) w (show k < 15 by omega) (G k (by omega)) (ok k (by omega))
    rw [b_99_2, gI_72_0 w, e0, if_pos (nI_lt (by omega) (by omega)), is_72 w, a1, av_cI_r, Option.bind_some, nI_1, anyN]
    by_cases q : wor (h.2.1 64) (E k) (l k) = 0
    · obtain ⟨h2, s2, a2⟩ := stop_lp_72 n6 ok r (k + 1) h1 (by omega) (s1.wf w) (by rw [s1.ne (by decide)]; exact e0) (fun k hk => (G k hk).st s1)
      rw [s1.ne (by decide)] at a2
      refine ⟨h2, s1.tr s2, ?_⟩
      rw [if_pos q, decide_eq_true q, a2]
      rfl
    · refine ⟨h1, s1, ?_⟩
      rw [if_neg q, decide_eq_false q]
      rfl
theorem quiet_lp_72 {n0 : Nat} {E : Nat → Nat → Nat} {l : Nat → Nat} (n6 : n0 ≤ 6) (ok : ∀ k, k < n0 → okRu (E (6 + k)) (l (6 + k)) 0 0) : ∀ r k (h : av_H), k + r = n0 → WF h → h.2.1 72 1 = nI n0 → (∀ k, k < n0 → ruG 72 h (6 + k) (E (6 + k)) (l (6 + k))) → ∃ h', stkE 72 h h' ∧ bd X (d + 2) 100 2 [(0, vr (some 72)), (1, vr (some 64)), (2, vi (nI k))] [] h = av_rI (bI (anyN r k (fun k => !decide (wor (h.2.1 64) (E (6 + k)) (l (6 + k)) = 0)))) h'
  | 0, k, h, hk, w, e0, G => by
    refine ⟨h, stkE.rfl, ?_⟩
    rw [b_100_2, gI_72_1 w, e0, if_neg (nI_nlt (by omega) (by omega))]
    rfl
  | r + 1, k, h, hk, w, e0, G => by
    obtain ⟨h1, s1, a1⟩ := ans_72 (X := X) (d := d) w (show 6 + k < 15 by omega) (G k (by omega)) (ok k (by omega))
    rw [b_100_2, gI_72_1 w, e0, if_pos (nI_lt (by omega) (by omega)), is_72 w, lit_6, nI_add, a1, av_cI_r, Option.bind_some, nI_1, anyN]
    by_cases q : wor (h.2.1 64) (E (6 + k)) (l (6 + k)) = 0
    · obtain ⟨h2, s2, a2⟩ := quiet_lp_72 n6 ok r (k + 1) h1 (by omega) (s1.wf w) (by rw [s1.ne (by decide)]; exact e0) (fun k hk => (G k hk).st s1)
      rw [s1.ne (by decide)] at a2
      refine ⟨h2, s1.tr s2, ?_⟩
      rw [if_pos q, decide_eq_true q, a2]
      rfl
    · refine ⟨h1, s1, ?_⟩
      rw [if_neg q, decide_eq_false q]
      rfl
theorem both_e {s : Nat} (hs : isB s) (a b : Int32) : ev X (d + 1) 285 [vi (nI (opc s)), vi a, vi b] h = av_rI (bin s a b) h := by
  rw [e_285, b_285_0]
  rcases hs with rfl | rfl | rfl | rfl | rfl | rfl | rfl
  · rw [show opc 10009 = 9 from rfl, if_neg (by decide), if_neg (by decide), if_neg (by decide), if_neg (by decide), if_neg (by decide), if_pos (show nI 9 = (9 : Int32) from rfl), bin_a]
    by_cases q : a = 0
    · rw [if_pos q, if_pos q]
    · rw [if_neg q, if_neg q]
      split <;> rfl
  · rw [show opc 10010 = 10 from rfl, if_neg (by decide), if_neg (by decide), if_neg (by decide), if_neg (by decide), if_neg (by decide), if_neg (by decide), bin_o]
    by_cases q : a = 0
    · rw [if_pos q, if_pos q]
      split <;> rfl
    · rw [if_neg q, if_neg q]
  · rw [show opc 20043 = 4 from rfl, if_pos (show nI 4 = (4 : Int32) from rfl), bin_p]
  · rw [show opc 20045 = 5 from rfl, if_neg (by decide), if_pos (show nI 5 = (5 : Int32) from rfl), bin_m]
  · rw [show opc 20060 = 7 from rfl, if_neg (by decide), if_neg (by decide), if_neg (by decide), if_pos (show nI 7 = (7 : Int32) from rfl), bin_l]
    split <;> rfl
  · rw [show opc 20061 = 8 from rfl, if_neg (by decide), if_neg (by decide), if_neg (by decide), if_neg (by decide), if_pos (show nI 8 = (8 : Int32) from rfl), bin_e]
    split <;> rfl
  · rw [show opc 20042 = 6 from rfl, if_neg (by decide), if_neg (by decide), if_pos (show nI 6 = (6 : Int32) from rfl), bin_t]
theorem opc_B {s : Nat} (hs : isB s) : 4 ≤ opc s ∧ opc s ≤ 10 := by rcases hs with rfl | rfl | rfl | rfl | rfl | rfl | rfl <;> decide
theorem wor_lp (w : WF h) {L l0 : Nat} {E : Nat → Nat} (Q : ruQ h L E l0) : ∀ l i (st : Nat × (Nat → Int32)), i + l = l0 → okRu E l i st.1 → bd X (d + 1) 284 4 [(0, vr (some 137)), (2, vi (nI st.1)), (3, vi (nI (L + i)))] [] (setC h 167 st.2) = av_rI ((rnS (h.2.1 166) E l i st).2 0) (setC h 167 (rnS (h.2.1 166) E l i st).2)
  | 0, i, st, hi, ok => by
    have w' : WF (setC h 167 st.2) := w
    obtain rfl : i = l0 := by omega
    have hL := Q.1
    rw [b_284_4, gR_137_32 w', ld_161 w' (by omega), setC_ne (by decide), Q.2.2, if_pos rfl, gR_137_44 w', lit_0, ld_167 w' (by decide), setC_eq]
    rfl
  | l + 1, i, st, hi, ok => by
    have w' : WF (setC h 167 st.2) := w
    have hL := Q.1
    obtain ⟨q1, q2⟩ := Q.2.1 i (by omega)
    have ih := wor_lp w Q l (i + 1) (stp (h.2.1 166) (E i) st) (by omega) (by rw [stp_1]; exact ok.2)
    rw [b_284_4, gR_137_32 w', ld_161 w' (by omega), setC_ne (by decide), q1, nI_1]
    rw [rnS]
    rw [stp] at ih ⊢
    by_cases z1 : E i < 10000
    · have n32 : st.1 < 32 := by
        rcases ok.1 with o | o | o | o
        · exact o.2
        · exact o.2
        · omega
        · rcases o.1 with h | h | h | h | h | h | h <;> omega
      have oc : opc (E i) = 1 := by rw [opc, if_pos z1]
      rw [if_pos z1] at ih ⊢
      rw [oc, if_neg (by decide), gR_137_32 w', ld_161 w' (by omega), setC_ne (by decide), q1, oc, if_pos (show nI 1 = (1 : Int32) from rfl), b_284_20, gR_137_44 w', if_pos (show nI 1 = (1 : Int32) from rfl), gR_137_33 w', ld_162 w' (by omega), setC_ne (by decide), q2 (Or.inl z1), agc, if_pos z1, st_167 w' (by omega), setC_u, nI_1, nI_1]
      exact ih
    · rw [if_neg z1] at ih ⊢
      by_cases z2 : 10012 ≤ E i ∧ E i < 10023
      · have n32 : st.1 < 32 := by
          rcases ok.1 with o | o | o | o
          · omega
          · exact o.2
          · omega
          · rcases o.1 with h | h | h | h | h | h | h <;> omega
        have oc : opc (E i) = 2 := by rw [opc, if_neg z1, if_pos z2]
        rw [if_pos z2] at ih ⊢
        rw [oc, if_neg (by decide), gR_137_32 w', ld_161 w' (by omega), setC_ne (by decide), q1, oc, if_neg (by decide), if_pos (show nI 2 = (2 : Int32) from rfl), b_284_20, gR_137_44 w', if_neg (by decide), gR_137_43 w', gR_137_33 w', ld_162 w' (by omega), setC_ne (by decide), q2 (Or.inr z2), agc, if_neg z1, ld_166 w' (by omega), setC_ne (by decide), st_167 w' (by omega), setC_u, nI_1, nI_1]
        exact ih
      · rw [if_neg z2] at ih ⊢
        by_cases z3 : E i = 10011
        · have n1 : 1 ≤ st.1 ∧ st.1 ≤ 32 := by
            rcases ok.1 with o | o | o | o
            · omega
            · exact absurd o.1 z2
            · exact o.2
            · rcases o.1 with h | h | h | h | h | h | h <;> omega
          have oc : opc (E i) = 3 := by rw [opc, if_neg z1, if_neg z2, if_pos z3]
          rw [if_pos z3] at ih ⊢
          rw [oc, if_neg (by decide), gR_137_32 w', ld_161 w' (by omega), setC_ne (by decide), q1, oc, if_neg (by decide), if_neg (by decide), if_pos (show nI 3 = (3 : Int32) from rfl), gR_137_44 w', gR_137_44 w', nI_prd n1.1, ld_167 w' (by omega), setC_eq]
          by_cases y : st.2 (st.1 - 1) = 0
          · rw [if_pos y] at ih ⊢
            rw [st_167 w' (by omega), setC_u, if_pos y]
            exact ih
          · rw [if_neg y] at ih ⊢
            rw [st_167 w' (by omega), setC_u, if_neg y]
            exact ih
        · have n2 : isB (E i) ∧ 2 ≤ st.1 ∧ st.1 ≤ 32 := by
            rcases ok.1 with o | o | o | o
            · omega
            · exact absurd o.1 z2
            · omega
            · exact o
          obtain ⟨o1, o2⟩ := opc_B n2.1
          have m1 : nI st.1 + (-1) = nI (st.1 - 1) := by rw [m1s, nI_prd (by omega)]
          have m2 : nI (st.1 - 1) - 1 = nI (st.1 - 2) := by rw [nI_prd (by omega), Nat.sub_sub]
          rw [if_neg z3] at ih ⊢
          rw [if_neg (nI_ne0 (by omega) (by omega)), gR_137_32 w', ld_161 w' (by omega), setC_ne (by decide), q1, if_neg (show ¬ nI (opc (E i)) = (1 : Int32) from fun y => by have := (nI_eq (b := 1) (by omega) (by omega)).mp y; omega), if_neg (show ¬ nI (opc (E i)) = (2 : Int32) from fun y => by have := (nI_eq (b := 2) (by omega) (by omega)).mp y; omega), if_neg (show ¬ nI (opc (E i)) = (3 : Int32) from fun y => by have := (nI_eq (b := 3) (by omega) (by omega)).mp y; omega), gR_137_44 w', gR_137_44 w', m1, m2, ld_167 w' (by omega), setC_eq, gR_137_44 w', ld_167 w' (by omega), setC_eq, both_e n2.1, av_cI_r, Option.bind_some, st_167 w' (by omega), setC_u]
          exact ih
theorem s_wor (w : WF h) {L l : Nat} {E : Nat → Nat} (Q : ruQ h L E l) (ok : okRu E l 0 0) : ∃ h', pilE h h' ∧ ev X (d + 2) 284 [vr (some 137), vi (nI L)] h = av_rI (wor (h.2.1 166) E l) h' := by
  refine ⟨setC h 167 (rnS (h.2.1 166) E l 0 (0, h.2.1 167)).2, ⟨_, rfl⟩, ?_⟩
  rw [e_284, b_284_0]
  have e := wor_lp (X := X) (d := d) w Q l 0 (0, h.2.1 167) (by omega) ok
  rw [wor_eq (fun _ _ => rfl) ok] at e
  simp only [setC_id] at e
  exact e
/-- the reference's loop over its lines -/
theorem so_lp {n0 of : Nat} {E : Nat → Nat → Nat} {l L : Nat → Nat} (n6 : n0 ≤ 6) (ho : of < 2) (ok : ∀ k, k < n0 → okRu (E (6 * of + k)) (l (6 * of + k)) 0 0) : ∀ r k (b : Bool) (h : av_H), k + r = n0 → WF h → h.2.1 163 of = nI n0 → (∀ k, k < n0 → h.2.1 164 (6 * of + k) = nI (L (6 * of + k)) ∧ ruQ h (L (6 * of + k)) (E (6 * of + k)) (l (6 * of + k))) → ∃ h', pilE h h' ∧ bd X (d + 2) 286 42 [(0, vr (some 137)), (1, vi (nI of)), (5, vi (bI b)), (6, vi (nI k))] [] h = av_rI (bI (b || anyN r k (fun k => !decide (wor (h.2.1 166) (E (6 * of + k)) (l (6 * of + k)) = 0)))) h'
  | 0, k, b, h, hk, w, e0, G => by
    refine ⟨h, pilE.rfl, ?_⟩
    rw [b_286_42, gR_137_34 w, ld_163 w (by omega), e0, if_neg (nI_nlt (by omega) (by omega)), zb_b, anyN, Bool.or_false]
  | r + 1, k, b, h, hk, w, e0, G => by
    cases b with
    | true =>
      obtain ⟨h2, s2, a2⟩ := so_lp n6 ho ok r (k + 1) true h (by omega) w e0 G
      refine ⟨h2, s2, ?_⟩
      rw [b_286_42, gR_137_34 w, ld_163 w (by omega), e0, if_pos (nI_lt (by omega) (by omega)), if_neg (show ¬ bI true = 0 by decide), nI_1, Bool.true_or]
      rw [Bool.true_or] at a2
      exact a2
    | false =>
      obtain ⟨g1, g2⟩ := G k (by omega)
      obtain ⟨h1, s1, a1⟩ := s_wor (X := X) (d := d) w g2 (ok k (by omega))
      obtain ⟨h2, s2, a2⟩ := so_lp n6 ho ok r (k + 1) (!decide (wor (h.2.1 166) (E (6 * of + k)) (l (6 * of + k)) = 0)) h1 (by omega) (s1.wf w) (by rw [s1.ne (by decide)]; exact e0) (fun k hk => ⟨by rw [s1.ne (by decide)]; exact (G k hk).1, (G k hk).2.pl s1⟩)
      rw [s1.ne (by decide)] at a2
      refine ⟨h2, s1.tr s2, ?_⟩
      rw [b_286_42, gR_137_34 w, ld_163 w (by omega), e0, if_pos (nI_lt (by omega) (by omega)), if_pos (show bI false = 0 from rfl), gR_137_35 w, lit_6, pk_mul, nI_add, ld_164 w (by omega), g1, is_137 w, a1, av_cI_r, Option.bind_some, nI_1, anyN, Bool.false_or, ← a2]
      by_cases q : wor (h.2.1 166) (E (6 * of + k)) (l (6 * of + k)) = 0
      · rw [if_pos q, decide_eq_true q]
        rfl
      · rw [if_neg q, decide_eq_false q]
        rfl
end
