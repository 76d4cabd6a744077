/-! the reader: an E at its place -/
/-- what a line's E leaves as it is -/
def cG (R a k : Nat) : Bool := cF R a k && !(a == R + 2 || a == R + 3)
theorem cF_G {R a k : Nat} (h : cG R a k = true) : cF R a k = true := by
  rw [cG, Bool.and_eq_true] at h
  exact h.1
theorem cG_2 {R k : Nat} : cG R (R + 2) k = false := by simp [cG]
theorem cG_3 {R k : Nat} : cG R (R + 3) k = false := by simp [cG]
section
variable {X : av_X} {d e : Nat} {T P : Nat → Nat} {n R : Nat}
theorem c_open (hR : R = 67 ∨ R = 72) {h : av_H} (w : WF h) {p len : Nat} (hp : p < 15) (hl : h.2.1 R 9 = nI len) : ev X (d + 2) 96 [vr (some R), vi (nI p)] h = av_rV (av_uI h (R + 2) p (nI len)) := by
  rcases hR with rfl | rfl
  · rw [e_96, b_96_0, show (15 : Int32) = nI 15 from rfl, c_below', rg_lt hp (by decide), if_neg (show ¬ bI true = 0 by decide), gR_67_6 w, gI_67_9 w, hl, st_69 w hp]
  · rw [e_96, b_96_0, show (15 : Int32) = nI 15 from rfl, c_below', rg_lt hp (by decide), if_neg (show ¬ bI true = 0 by decide), gR_72_6 w, gI_72_9 w, hl, st_74 w hp]
theorem c_close (hR : R = 67 ∨ R = 72) {h : av_H} (w : WF h) {p len : Nat} (hp : p < 15) (hl : h.2.1 R 9 = nI len) : ev X (d + 2) 97 [vr (some R), vi (nI p)] h = av_rV (av_uI h (R + 3) p (nI len)) := by
  rcases hR with rfl | rfl
  · rw [e_97, b_97_0, show (15 : Int32) = nI 15 from rfl, c_below', rg_lt hp (by decide), if_neg (show ¬ bI true = 0 by decide), gR_67_7 w, gI_67_9 w, hl, st_70 w hp]
  · rw [e_97, b_97_0, show (15 : Int32) = nI 15 from rfl, c_below', rg_lt hp (by decide), if_neg (show ¬ bI true = 0 by decide), gR_72_7 w, gI_72_9 w, hl, st_75 w hp]
theorem TC.fw {h : av_H} (hR : R = 67 ∨ R = 72) {p : Nat} {v : Int32} (C : TC T P n h) : TC T P n (av_uI h (R + 2) p v) := by
  rcases hR with rfl | rfl
  · exact ⟨by rw [uI_ne (by decide)]; exact C.1, fun i hi => by rw [uI_ne (by decide), uI_ne (by decide)]; exact C.2 i hi⟩
  · exact ⟨by rw [uI_ne (by decide)]; exact C.1, fun i hi => by rw [uI_ne (by decide), uI_ne (by decide)]; exact C.2 i hi⟩
theorem agr.I' {F : Nat → Nat → Bool} {h h' : av_H} {a k : Nat} (A : agr F h h') (e : F a k = true) : h'.2.1 a k = h.2.1 a k := A.I e
theorem rdE (hR : R = 67 ∨ R = 72) (K : TK T P n) (TW : ∀ i, i ≤ n → T i < 20000 → T i < 10023) {hc hr hr0 : av_H} (C : TC T P n hc) (CR : TR T P n hr0) {p a len c : Nat} (hp : p < 15) (w : WF hc) (c6 : hc.2.1 37 6 = nI a) (c7 : hc.2.1 37 7 = nI (T a)) (c8 : hc.2.1 37 8 = 0) (c9 : hc.2.1 R 9 = nI len) (U : RS hr0 hr a c 0) (ha : a ≤ n) (hlen : len ≤ a) (hcc : c ≤ a) :
    (∃ a' es hc' hr', a ≤ a' ∧ a' ≤ n ∧ es.length ≤ a' - a ∧ oSL es 0 1 ∧ ev X (d + 38) 90 [vr (some 37), vr (some R), vi (nI p)] hc = av_rI (bI true) hc' ∧ ev X (e + 38) 278 [vr (some 137)] hr = av_rV hr' ∧ WF hc' ∧ agr (cG R) hc hc' ∧ hc'.2.1 37 6 = nI a' ∧ hc'.2.1 37 7 = nI (T a') ∧ hc'.2.1 37 8 = 0 ∧ hc'.2.1 R 9 = nI (len + es.length) ∧ AL (hc'.2.1 (R + 1)) len es ∧ (∀ j, j < len → hc'.2.1 (R + 1) j = hc.2.1 (R + 1) j) ∧ (∀ j, hc'.2.1 (R + 2) j = if j = p then nI len else hc.2.1 (R + 2) j) ∧ (∀ j, hc'.2.1 (R + 3) j = if j = p then nI (len + es.length) else hc.2.1 (R + 3) j) ∧ RS hr0 hr' a' (c + es.length + 1) 0 ∧ RL hr' (1100 + c) es ∧ hr'.2.1 161 (1100 + c + es.length) = 0 ∧ ∀ j, j < 1100 + c → hr'.2.1 161 j = hr.2.1 161 j ∧ hr'.2.1 162 j = hr.2.1 162 j)
    ∨ (∃ F a' c' hc' hr', 0 < F ∧ F < 100000 ∧ ev X (d + 38) 90 [vr (some 37), vr (some R), vi (nI p)] hc = av_rI (bI false) hc' ∧ ev X (e + 38) 278 [vr (some 137)] hr = av_rV hr' ∧ WF hc' ∧ agr (cG R) hc hc' ∧ hc'.2.1 37 8 = nI F ∧ a' ≤ n ∧ RS hr0 hr' a' c' F ∧ ∀ j, j < 1100 + c → hr'.2.1 161 j = hr.2.1 161 j ∧ hr'.2.1 162 j = hr.2.1 162 j) := by
  have kn := K.1
  have w1 : WF (av_uI hc (R + 2) p (nI len)) := WF_uI w
  have C1 := C.fw hR (p := p) (v := nI len)
  have S1 : CS T R (av_uI hc (R + 2) p (nI len)) (av_uI hc (R + 2) p (nI len)) a len := ⟨w1, agr.rfl, by rw [uI_ne (by omega)]; exact c6, by rw [uI_ne (by omega)]; exact c7, by rw [uI_ne (by omega)]; exact c8, by rw [uI_ne (by omega)]; exact c9⟩
  have s2 : ∀ j, (av_uI hc (R + 2) p (nI len)).2.1 (R + 2) j = if j = p then nI len else hc.2.1 (R + 2) j := fun j => by
    by_cases z : j = p
    · rw [if_pos z, z, uI_eq]
    · rw [if_neg z, uI_nk z]
  have s1 : (av_uI hc (R + 2) p (nI len)).2.1 (R + 1) = hc.2.1 (R + 1) := uI_ne (by omega)
  have s3 : (av_uI hc (R + 2) p (nI len)).2.1 (R + 3) = hc.2.1 (R + 3) := uI_ne (by omega)
  have A1 : agr (cG R) hc (av_uI hc (R + 2) p (nI len)) := agr.uI cG_2 agr.rfl
  have op := c_open (X := X) (d := d + 35) hR w hp c9
  generalize av_uI hc (R + 2) p (nI len) = h1 at w1 C1 S1 s1 s2 s3 A1 op
  have f2 : ∀ k, cF R (R + 2) k = true := fun k => by rcases hR with rfl | rfl <;> rfl
  have f3 : ∀ k, cF R (R + 3) k = true := fun k => by rcases hR with rfl | rfl <;> rfl
  have AO := all_of (X := X) hR K C1 CR (dep := 0) (by omega) (part_ok hR K C1 CR TW 5 0 d e (by omega))
  rcases AO h1 hr a len c ha hlen hcc S1 U with ⟨a', es, h2, g2, q1, q2, q3, q4, q5, q6, q7, q8, q9, q10, q11, q12⟩ | ⟨F, a', c', h2, g2, q1, q2, q3, q4, q5, q6, q7, q8, q8', q9, q10⟩
  · dsimp only at q5 q6
    obtain ⟨y0, y1, y2, y3, y4, y5⟩ := q7
    have cl := c_close (X := X) (d := d + 35) hR y0 hp y5
    obtain ⟨g3, f4, U4, p4, p4', p4''⟩ := s_emit (X := X) (d := e + 36) q10 (by omega) (v1 := 0) (v2 := 0)
    refine Or.inl ⟨a', es, av_uI h2 (R + 3) p (nI (len + es.length)), g3, q1, q2, q3, q4 0 (Nat.le_refl _), ?_, ?_, WF_uI y0, ?_, ?_, ?_, ?_, ?_, ?_, ?_, ?_, ?_, U4, ?_, ?_, ?_⟩
    · rw [e_90, b_90_0, is_Rg hR w, op, av_cV_r, Option.bind_some, is_37 w1, show (0 : Int32) = nI 0 from rfl, q5, av_cI_r, Option.bind_some]
      dsimp only
      rw [is_Rg hR y0, cl, av_cV_r, Option.bind_some, zb_b]
    · rw [e_278, b_278_0, is_137 U.1, show (0 : Int32) = nI 0 from rfl, q6, av_cV_r, Option.bind_some, is_137 q10.1, show nI 0 = (0 : Int32) from rfl, f4, av_cV_r, Option.bind_some]
    · exact agr.uI cG_3 (agr.tr A1 (agr.mono y1 (fun _ _ z => cF_G z)))
    · rw [uI_ne (by omega)]; exact y2
    · rw [uI_ne (by omega)]; exact y3
    · rw [uI_ne (by omega)]; exact y4
    · rw [uI_ne (by omega)]; exact y5
    · rw [uI_ne (by omega)]; exact q8
    · intro j hj
      rw [uI_ne (by omega), q9 j hj, s1]
    · intro j
      rw [uI_ne (by omega), y1.I' (f2 j)]
      exact s2 j
    · intro j
      by_cases z : j = p
      · rw [if_pos z, z, uI_eq]
      · rw [if_neg z, uI_nk z, y1.I' (f3 j), s3]
    · exact RL_cg (fun j h1 h2 => p4'' j (by omega)) q11
    · rw [Nat.add_assoc]; exact p4
    · intro j hj
      obtain ⟨x1, x2⟩ := p4'' j (by omega)
      obtain ⟨z1, z2⟩ := q12 j hj
      exact ⟨x1.trans z1, x2.trans z2⟩
  · dsimp only at q3 q4
    obtain ⟨y0, y1, y2, l, l1, y3⟩ := q5
    have cl := c_close (X := X) (d := d + 35) hR y0 hp y3
    obtain ⟨g3, f4, U4, p4, p4', p4''⟩ := s_emit (X := X) (d := e + 36) q9 (by omega) (v1 := 0) (v2 := 0)
    refine Or.inr ⟨F, a', c' + 1, av_uI h2 (R + 3) p (nI l), g3, q1, q2, ?_, ?_, WF_uI y0, ?_, ?_, q7, U4, fun j hj => ?_⟩
    · rw [e_90, b_90_0, is_Rg hR w, op, av_cV_r, Option.bind_some, is_37 w1, show (0 : Int32) = nI 0 from rfl, q3, av_cI_r, Option.bind_some]
      dsimp only
      rw [is_Rg hR y0, cl, av_cV_r, Option.bind_some, zb_b]
    · rw [e_278, b_278_0, is_137 U.1, show (0 : Int32) = nI 0 from rfl, q4, av_cV_r, Option.bind_some, is_137 q9.1, show nI 0 = (0 : Int32) from rfl, f4, av_cV_r, Option.bind_some]
    · exact agr.uI cG_3 (agr.tr A1 (agr.mono y1 (fun _ _ z => cF_G z)))
    · rw [uI_ne (by omega)]; exact y2
    · obtain ⟨x1, x2⟩ := p4'' j (by omega)
      obtain ⟨z1, z2⟩ := q10 j hj
      exact ⟨x1.trans z1, x2.trans z2⟩
end
