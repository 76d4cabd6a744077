/-! the reader: a part, and the whole E -/
section
variable {X : av_X} {d e : Nat} {hc0 hr0 : av_H} {T P : Nat → Nat} {n R : Nat}
/-- what may begin a part -/
def ptB (t : Nat) : Prop := t < 10000 ∨ (10012 ≤ t ∧ t < 20000) ∨ t = 10011 ∨ t = 20040
theorem wcN_f {k : Nat} (h : k < 11) : wcN (11 + k) = 10012 + k := by
  rw [wcN, if_neg (by omega), if_pos (by omega)]
  omega
theorem s_fact (K : TK T P n) (C : TR T P n hr0) {hr : av_H} {a c : Nat} {v1 : Int32} (ha : a ≤ n) (U : RS hr0 hr a c 0) : ∀ m k v, k + m = 11 → v = (if 10012 ≤ T a ∧ T a < 10012 + k then nI (T a - 10012) else -1) → bd X (e + 1) 283 8 [(0, vr (some 137)), (1, vi v1), (2, vi v), (3, vi (nI (11 + k)))] [] hr = bd X (e + 1) 283 33 [(0, vr (some 137)), (1, vi v1), (2, vi (if 10012 ≤ T a ∧ T a < 10023 then nI (T a - 10012) else -1))] [vi (bI (decide (T a < 10000)))] hr
  | 0, k, v, hk, hv => by
    obtain rfl : k = 11 := by omega
    obtain ⟨wf, A, s1, s2, s3⟩ := U
    obtain ⟨t, p⟩ := C.fr (A.fr (by decide)) a ha
    have kn := K.1
    rw [b_283_8, if_neg (show ¬ nI (11 + 11) < 22 by decide), gR_137_4 wf, gI_137_7 wf, s1, ld_139 wf (by omega), hv]
    by_cases z : T a < 10000
    · rw [if_pos (t.2.2.1.mpr z), decide_eq_true z]
      rfl
    · rw [if_neg (fun q => z (t.2.2.1.mp q)), decide_eq_false z]
      rfl
  | m + 1, k, v, hk, hv => by
    have sw := s_isW (X := X) (d := e) C K U ha (by omega) (w := 11 + k) (by omega)
    rw [wcN_f (by omega)] at sw
    rw [b_283_8, if_pos (show nI (11 + k) < 22 from nI_lt (b := 22) (by omega) (by omega)), is_137 U.1, sw, av_cI_r, Option.bind_some]
    dsimp only
    by_cases y : T a = 10012 + k
    · rw [if_neg (do' ⟨rfl, y⟩), nI_1, show (11 : Int32) = nI 11 from rfl, pk_sub (by omega)]
      exact s_fact K C ha U m (k + 1) _ (by omega) (by rw [if_pos (by omega), y, show 11 + k - 11 = k by omega, show 10012 + k - 10012 = k by omega])
    · rw [if_pos (dz (fun q => y q.2)), nI_1]
      refine s_fact K C ha U m (k + 1) _ (by omega) ?_
      rw [hv]
      by_cases x : 10012 ≤ T a ∧ T a < 10012 + k
      · rw [if_pos x, if_pos (by omega)]
      · rw [if_neg x, if_neg (by omega)]
/-- the reference at a part: refused, or let through -/
theorem s_part0 (K : TK T P n) (C : TR T P n hr0) {hr : av_H} {a c dep : Nat} (ha : a ≤ n) (hd : dep ≤ 5) (tl : T a < 20000 → T a < 10023) (U : RS hr0 hr a c 0) : (¬ ptB (T a) → ∃ hr', ev X (e + 3) 283 [vr (some 137), vi (nI dep)] hr = av_rV hr' ∧ RS hr0 hr' a c (1 + 16 * P a) ∧ sm6 hr hr') ∧ (ptB (T a) → dep = 5 → ∃ hr', ev X (e + 3) 283 [vr (some 137), vi (nI dep)] hr = av_rV hr' ∧ RS hr0 hr' a c (5 + 16 * P a) ∧ sm6 hr hr') ∧ (ptB (T a) → dep < 5 → ev X (e + 3) 283 [vr (some 137), vi (nI dep)] hr = bd X (e + 2) 283 56 [(0, vr (some 137)), (1, vi (nI dep)), (2, vi (if 10012 ≤ T a ∧ T a < 10023 then nI (T a - 10012) else -1)), (3, vi (bI (decide (T a < 10000))))] [] hr) := by
  have st : ev X (e + 3) 283 [vr (some 137), vi (nI dep)] hr = bd X (e + 2) 283 33 [(0, vr (some 137)), (1, vi (nI dep)), (2, vi (if 10012 ≤ T a ∧ T a < 10023 then nI (T a - 10012) else -1))] [vi (bI (decide (T a < 10000)))] hr := by
    rw [e_283, b_283_0, gI_137_8 U.1, U.2.2.2.1, if_neg (show ¬ (0 : Int32) < nI 0 by decide)]
    exact s_fact K C ha U 11 0 (-1) (by omega) (by rw [if_neg (by omega)])
  have pb : ∀ q, 0 < q → q < 100000 → ∀ g, RS hr0 g a c q → ∀ v2 v3 : Int32, bd X (e + 2) 283 56 [(0, vr (some 137)), (1, vi (nI dep)), (2, vi v2), (3, vi v3)] [] g = av_rV g := fun q q0 q1 g U' v2 v3 => by
    rw [b_283_56, gI_137_8 U'.1, U'.2.2.2.1, if_pos (show (0 : Int32) < nI q from nI_lt (a := 0) q0 (by omega))]
  have kp := K.2.2.2 a ha
  have fi : ptB (T a) → bd X (e + 2) 283 33 [(0, vr (some 137)), (1, vi (nI dep)), (2, vi (if 10012 ≤ T a ∧ T a < 10023 then nI (T a - 10012) else -1))] [vi (bI (decide (T a < 10000)))] hr = bd X (e + 2) 283 50 [(0, vr (some 137)), (1, vi (nI dep)), (2, vi (if 10012 ≤ T a ∧ T a < 10023 then nI (T a - 10012) else -1)), (3, vi (bI (decide (T a < 10000))))] [] hr := fun pt => by
    rw [b_283_33]
    by_cases f : 10012 ≤ T a ∧ T a < 10023
    · rw [if_pos f, if_neg (show ¬ nI (T a - 10012) < 0 from fun y => absurd (i_lt.mp y) (by rw [nI_toInt (by omega)]; simp))]
    · rw [if_neg f, if_pos (show (-1 : Int32) < 0 by decide)]
      by_cases m : T a < 10000
      · rw [if_neg (do' m)]
      · rw [if_pos (dz m), is_137 U.1, show (40 : Int32) = nI 40 from rfl, s_isS C K U ha (by omega) (by decide), av_cI_r, Option.bind_some]
        dsimp only
        by_cases o : T a = 20040
        · rw [if_neg (do' ⟨rfl, o⟩)]
        · have nt : T a = 10011 := by
            rcases pt with y | y | y | y
            · exact absurd y m
            · exact absurd ⟨y.1, tl y.2⟩ f
            · exact y
            · exact absurd y o
          rw [if_pos (dz (fun q => o q.2)), is_137 U.1, show (10 : Int32) = nI 10 from rfl, s_isW C K U ha (by omega) (by decide), av_cI_r, Option.bind_some]
          dsimp only
          rw [if_neg (do' ⟨rfl, nt⟩)]
  refine ⟨fun np => ?_, fun pt d5 => ?_, fun pt d5 => ?_⟩
  · obtain ⟨hr', e1, U1, m1⟩ := s_wr0 (X := X) (d := e + 1) C K U ha (k := 1)
    refine ⟨hr', ?_, U1, m1⟩
    rw [st, b_283_33, if_neg (show ¬ (10012 ≤ T a ∧ T a < 10023) from fun q => np (Or.inr (Or.inl ⟨q.1, by omega⟩))), if_pos (show (-1 : Int32) < 0 by decide), if_pos (dz (fun q => np (Or.inl q))), is_137 U.1, show (40 : Int32) = nI 40 from rfl, s_isS C K U ha (by omega) (by decide), av_cI_r, Option.bind_some]
    dsimp only
    rw [if_pos (dz (fun q => np (Or.inr (Or.inr (Or.inr q.2))))), is_137 U.1, show (10 : Int32) = nI 10 from rfl, s_isW C K U ha (by omega) (by decide), av_cI_r, Option.bind_some]
    dsimp only
    rw [if_pos (dz (fun q => np (Or.inr (Or.inr (Or.inl q.2))))), is_137 U.1, show (1 : Int32) = nI 1 from rfl, e1, av_cV_r, Option.bind_some, pb _ (by omega) (by omega) _ U1]
  · obtain ⟨hr', e1, U1, m1⟩ := s_wr0 (X := X) (d := e + 1) C K U ha (k := 5)
    refine ⟨hr', ?_, U1, m1⟩
    rw [st, fi pt, b_283_50, if_pos (show nI dep = 5 by rw [d5]; rfl), is_137 U.1, show (5 : Int32) = nI 5 from rfl, e1, av_cV_r, Option.bind_some, pb _ (by omega) (by omega) _ U1]
  · rw [st, fi pt, b_283_50, if_neg (show ¬ nI dep = 5 from fun q => absurd ((nI_eq (b := 5) (by omega) (by omega)).mp q) (by omega))]
/-- the class at a part: refused, or let through -/
theorem c_part0 (hR : R = 67 ∨ R = 72) (K : TK T P n) (C : TC T P n hc0) {hc : av_H} {a len dep : Nat} (ha : a ≤ n) (hl : len ≤ 1000) (hd : dep ≤ 5) (S : CS T R hc0 hc a len) : (¬ ptB (T a) → ∃ hc', ev X (d + 2) 93 [vr (some 37), vr (some R), vi (nI dep)] hc = av_rI (bI false) hc' ∧ CB R hc0 hc' (1 + 16 * P a)) ∧ (ptB (T a) → dep = 5 → ∃ hc', ev X (d + 2) 93 [vr (some 37), vr (some R), vi (nI dep)] hc = av_rI (bI false) hc' ∧ CB R hc0 hc' (5 + 16 * P a)) ∧ (ptB (T a) → dep < 5 → ev X (d + 2) 93 [vr (some 37), vr (some R), vi (nI dep)] hc = bd X (d + 1) 93 19 [(0, vr (some 37)), (1, vr (some R)), (2, vi (nI dep)), (3, vi (nI (T a)))] [] hc) := by
  have t := K.le ha
  have fi : ptB (T a) → ev X (d + 2) 93 [vr (some 37), vr (some R), vi (nI dep)] hc = bd X (d + 1) 93 19 [(0, vr (some 37)), (1, vr (some R)), (2, vi (nI dep)), (3, vi (nI (T a)))] [] hc := fun pt => by
    rw [e_93, b_93_0, gI_37_7 S.1, S.2.2.2.1]
    by_cases z1 : T a = 10011
    · rw [if_pos (show nI (T a) = 10011 by rw [z1]; rfl)]
    · rw [if_neg (show ¬ nI (T a) = 10011 from fun q => z1 ((nI_eq (b := 10011) (by omega) (by omega)).mp q))]
      by_cases z2 : T a = 20040
      · rw [if_pos (show nI (T a) = 20040 by rw [z2]; rfl)]
      · rw [if_neg (show ¬ nI (T a) = 20040 from fun q => z2 ((nI_eq (b := 20040) (by omega) (by omega)).mp q)), is_37 S.1, c_isN K S ha, av_cI_r, Option.bind_some]
        dsimp only
        by_cases z3 : T a < 10000
        · rw [if_neg (do' z3)]
        · rw [if_pos (dz z3), is_37 S.1, c_isFa K S ha, av_cI_r, Option.bind_some]
          dsimp only
          rw [if_neg (do' (by unfold ptB at pt; omega))]
  refine ⟨fun np => ?_, fun pt d5 => ?_, fun pt d5 => fi pt⟩
  · obtain ⟨hc', e1, B1⟩ := c_rfs (X := X) (d := d) hR K C S ha hl (k := 1)
    refine ⟨hc', ?_, B1⟩
    unfold ptB at np
    rw [e_93, b_93_0, gI_37_7 S.1, S.2.2.2.1, if_neg (show ¬ nI (T a) = 10011 from fun q => absurd ((nI_eq (b := 10011) (by omega) (by omega)).mp q) (by omega)), if_neg (show ¬ nI (T a) = 20040 from fun q => absurd ((nI_eq (b := 20040) (by omega) (by omega)).mp q) (by omega)), is_37 S.1, c_isN K S ha, av_cI_r, Option.bind_some]
    dsimp only
    rw [if_pos (dz (by omega)), is_37 S.1, c_isFa K S ha, av_cI_r, Option.bind_some]
    dsimp only
    rw [if_pos (dz (by omega)), is_37 S.1, show (1 : Int32) = nI 1 from rfl, e1, av_cI_r, Option.bind_some, zb_b]
  · obtain ⟨hc', e1, B1⟩ := c_rfs (X := X) (d := d) hR K C S ha hl (k := 5)
    refine ⟨hc', ?_, B1⟩
    rw [fi pt, b_93_19, if_neg (show ¬ nI dep < 5 by rw [d5]; decide), is_37 S.1, show (5 : Int32) = nI 5 from rfl, e1, av_cI_r, Option.bind_some, zb_b]
end
