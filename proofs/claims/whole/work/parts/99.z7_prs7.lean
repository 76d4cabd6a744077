/-! the reader: an E on both sides -/
section
variable {X : av_X} {d e : Nat} {hc0 hr0 : av_H} {T P : Nat → Nat} {n R : Nat}
theorem all_of (hR : R = 67 ∨ R = 72) (K : TK T P n) (C : TC T P n hc0) (CR : TR T P n hr0) {dep : Nat} (hd : dep ≤ 5) (Hp : Sub T n R hc0 hr0 (fun es => ∀ m, m ≤ 4 * dep + 4 → oSL es m (m + 1)) (fun h => ev X (d + 2) 93 [vr (some 37), vr (some R), vi (nI dep)] h) (fun h => ev X (e + 3) 283 [vr (some 137), vi (nI dep)] h)) : Sub T n R hc0 hr0 (fun es => ∀ m, m ≤ 4 * dep → oSL es m (m + 1)) (fun h => ev X (d + 7) 91 [vr (some 37), vr (some R), vi (nI 0), vi (nI dep)] h) (fun h => ev X (e + 7) 279 [vr (some 137), vi (nI dep)] h) := by
  have H4 : Sub T n R hc0 hr0 (fun es => ∀ m, m ≤ 4 * dep + 3 + 1 → oSL es m (m + 1)) (fun h => ev X (d + 2 + 1) 91 [vr (some 37), vr (some R), vi (nI (3 + 1)), vi (nI dep)] h) (fun h => ev X (e + 3) 283 [vr (some 137), vi (nI dep)] h) := by
    intro hc hr a len c ha hlen hcc S U
    dsimp only
    have pass : ∀ {h' : av_H} {b : Bool}, ev X (d + 2) 93 [vr (some 37), vr (some R), vi (nI dep)] hc = av_rI (bI b) h' → ev X (d + 2 + 1) 91 [vr (some 37), vr (some R), vi (nI (3 + 1)), vi (nI dep)] hc = av_rI (bI b) h' := fun {h' b} q => by
      rw [e_91, b_91_0, if_pos (show (3 : Int32) < nI (3 + 1) by decide), is_37 S.1, q, av_cI_r, Option.bind_some, zb_b]
    rcases Hp hc hr a len c ha hlen hcc S U with ⟨a', es, h2, g2, q1, q2, q3, q4, q5, q⟩ | ⟨F, a', c', h2, g2, q1, q2, q3, q⟩
    · exact Or.inl ⟨a', es, h2, g2, q1, q2, q3, q4, pass q5, q⟩
    · exact Or.inr ⟨F, a', c', h2, g2, q1, q2, pass q3, q⟩
  have H3 := lv_all hR K C (l := 3) (B := 4 * dep + 3) (by omega) (by omega) (by omega) H4 (rl_3 (e := e + 1) K CR) (fr := fun h => ev X (e + 4) 282 [vr (some 137), vi (nI dep)] h) (fun hr w => by rw [e_282, b_282_0, is_137 w])
  have H2 := lv_all hR K C (l := 2) (B := 4 * dep + 2) (by omega) (by omega) (by omega) H3 (rl_2 (e := e + 3) K CR) (fr := fun h => ev X (e + 5) 281 [vr (some 137), vi (nI dep)] h) (fun hr w => by rw [e_281, b_281_0, is_137 w])
  have H1 := lv_tst hR K C CR (d := d + 4) (e := e + 3) (B := 4 * dep + 1) (by omega) H2
  exact lv_all hR K C (l := 0) (B := 4 * dep) (by omega) (by omega) (by omega) H1 (rl_0 (e := e + 5) K CR) (fr := fun h => ev X (e + 7) 279 [vr (some 137), vi (nI dep)] h) (fun hr w => by rw [e_279, b_279_0, is_137 w])
theorem part_ok (hR : R = 67 ∨ R = 72) (K : TK T P n) (C : TC T P n hc0) (CR : TR T P n hr0) (TW : ∀ i, i ≤ n → T i < 20000 → T i < 10023) : ∀ k dep d e, dep + k = 5 → Sub T n R hc0 hr0 (fun es => ∀ m, m ≤ 4 * dep + 4 → oSL es m (m + 1)) (fun h => ev X (d + 6 * k + 2) 93 [vr (some 37), vr (some R), vi (nI dep)] h) (fun h => ev X (e + 6 * k + 3) 283 [vr (some 137), vi (nI dep)] h)
  | 0, dep, d, e, hk => by
    intro hc hr a len c ha hlen hcc S U
    have kn := K.1
    have kp := K.2.2.2 a ha
    have cp := c_part0 (X := X) (d := d + 6 * 0) hR K C ha (show len ≤ 1000 by omega) (show dep ≤ 5 by omega) S
    have sp := s_part0 (X := X) (e := e + 6 * 0) K CR ha (show dep ≤ 5 by omega) (TW a ha) U
    by_cases pt : ptB (T a)
    · obtain ⟨h1, e1, B1⟩ := cp.2.1 pt (by omega)
      obtain ⟨g1, f1, U1, m1⟩ := sp.2.1 pt (by omega)
      exact Or.inr ⟨_, a, c, h1, g1, by omega, by omega, e1, f1, B1, Nat.le_refl _, ha, by omega, Nat.le_refl _, U1, fun j _ => ⟨congrFun m1.1 j, congrFun m1.2 j⟩⟩
    · obtain ⟨h1, e1, B1⟩ := cp.1 pt
      obtain ⟨g1, f1, U1, m1⟩ := sp.1 pt
      exact Or.inr ⟨_, a, c, h1, g1, by omega, by omega, e1, f1, B1, Nat.le_refl _, ha, by omega, Nat.le_refl _, U1, fun j _ => ⟨congrFun m1.1 j, congrFun m1.2 j⟩⟩
  | k + 1, dep, d, e, hk => by
    intro hc hr a len c ha hlen hcc S U
    have kn := K.1
    have kp := K.2.2.2 a ha
    have cp := c_part0 (X := X) (d := d + 6 * (k + 1)) hR K C ha (show len ≤ 1000 by omega) (show dep ≤ 5 by omega) S
    have sp := s_part0 (X := X) (e := e + 6 * (k + 1)) K CR ha (show dep ≤ 5 by omega) (TW a ha) U
    by_cases pt : ptB (T a)
    · have an : a < n := K.lt ha (by unfold ptB at pt; omega)
      have e1 := cp.2.2 pt (by omega)
      have f1 := sp.2.2 pt (by omega)
      obtain ⟨h1, e2, S1, o1⟩ := c_tkT (X := X) (d := d + 6 * (k + 1)) hR K C S an
      dsimp only
      rw [e1, f1, b_93_19, if_pos (show nI dep < 5 from nI_lt (b := 5) (by omega) (by omega)), is_37 S.1, e2, av_cV_r, Option.bind_some, b_283_56, gI_137_8 U.1, U.2.2.2.1, if_neg (show ¬ (0 : Int32) < nI 0 by decide), is_137 U.1]
      obtain ⟨g1, f2, U1, m1⟩ := s_hasW (X := X) (d := e + 6 * (k + 1)) CR K U ha (by omega) (g := 10) (by decide)
      rw [show (10 : Int32) = nI 10 from rfl, f2, av_cI_r, Option.bind_some]
      dsimp only
      have ihp := part_ok hR K C CR TW k (dep + 1) (d + 5) (e + 5) (by omega)
      have ihq := part_ok hR K C CR TW k (dep + 1) d (e + 1) (by omega)
      have iha := all_of hR K C CR (show dep + 1 ≤ 5 by omega) ihq
      by_cases z2 : T a = 20040
      · -- in brackets
        rw [if_neg (show ¬ (0 = 0 ∧ T a = wcN 10) from fun q => by rw [z2] at q; exact absurd q.2 (by decide))] at U1
        obtain ⟨g2, f3, U2, m2⟩ := s_hasS (X := X) (d := e + 6 * (k + 1)) CR K U1 ha (by omega) (g := 40) (by decide)
        rw [if_pos ⟨rfl, z2⟩] at U2
        rw [if_pos (show nI (T a) = 20040 by rw [z2]; rfl), is_37 S1.1, nI_1, if_pos (dz (fun q => by rw [z2] at q; exact absurd q.2 (by decide))), is_137 U1.1, show (40 : Int32) = nI 40 from rfl, f3, av_cI_r, Option.bind_some]
        dsimp only
        rw [if_neg (do' ⟨rfl, z2⟩), is_137 U2.1, show (0 : Int32) = nI 0 from rfl]
        rcases iha h1 g2 (a + 1) len c (by omega) (by omega) (by omega) S1 U2 with ⟨a', es, h3, g3, q1, q2, q3, q4, q5, q6, q7, q8, q9, q10, q11, q12⟩ | ⟨F, a', c', h3, g3, q1, q2, q3, q4, q5, q6, q7, q8, q8', q9, q10⟩
        · dsimp only at q5 q6
          have cs := c_pass (X := X) (d := d + 6 * k + 5) hR K C q7 q2 (by omega) (t := 20041) (by omega)
          have kp' := K.2.2.2 a' q2
          rw [show d + 6 * (k + 1) + 1 = d + 6 * k + 7 by omega, show e + 6 * (k + 1) + 2 = e + 1 + 6 * k + 7 by omega, q5, q6, av_cI_r, Option.bind_some, av_cV_r, Option.bind_some]
          dsimp only
          rw [if_neg (show ¬ bI true = nI 0 by decide), is_37 q7.1, is_137 q10.1, show (20041 : Int32) = nI 20041 from rfl, show (41 : Int32) = nI 41 from rfl]
          by_cases w : T a' = 20041
          · obtain ⟨h4, e4, S4, o4⟩ := cs.1 w
            obtain ⟨g4, f4, U4, m4⟩ := s_tkS1 (X := X) (d := e + 1 + 6 * k + 5) CR K q10 q2 (g := 41) (by decide) w
            have an' : a' < n := K.lt q2 (by omega)
            rw [e4, f4, av_cI_r, Option.bind_some, av_cV_r, Option.bind_some]
            dsimp only
            rw [if_neg (show ¬ bI true = nI 0 by decide), zb_1]
            refine Or.inl ⟨a' + 1, es, h4, g4, by omega, an', by omega, fun m hm => q4 m (by omega), rfl, rfl, S4, by rw [o4]; exact q8, fun j hj => by rw [o4, q9 j hj, o1], U4, RL_cg (fun j _ _ => ⟨congrFun m4.1 j, congrFun m4.2 j⟩) q11, fun j hj => ?_⟩
            obtain ⟨x1, x2⟩ := q12 j hj
            have m := (m1.tr m2)
            exact ⟨(congrFun m4.1 j).trans (x1.trans (congrFun m.1 j)), (congrFun m4.2 j).trans (x2.trans (congrFun m.2 j))⟩
          · obtain ⟨h4, e4, S4⟩ := cs.2 w
            obtain ⟨g4, f4, U4, m4⟩ := s_tkS0 (X := X) (d := e + 1 + 6 * k + 5) CR K q10 q2 (g := 41) (by decide) w
            rw [e4, f4, av_cI_r, Option.bind_some, av_cV_r, Option.bind_some]
            dsimp only
            rw [if_pos (show bI false = nI 0 from rfl), show nI 0 = bI false from rfl, zb_b]
            refine Or.inr ⟨_, a', c + es.length, h4, g4, by omega, by omega, rfl, rfl, S4, by omega, q2, by omega, by omega, U4, fun j hj => ?_⟩
            obtain ⟨x1, x2⟩ := q12 j hj
            have m := (m1.tr m2)
            exact ⟨(congrFun m4.1 j).trans (x1.trans (congrFun m.1 j)), (congrFun m4.2 j).trans (x2.trans (congrFun m.2 j))⟩
        · dsimp only at q3 q4
          rw [show d + 6 * (k + 1) + 1 = d + 6 * k + 7 by omega, show e + 6 * (k + 1) + 2 = e + 1 + 6 * k + 7 by omega, q3, q4, av_cI_r, Option.bind_some, av_cV_r, Option.bind_some]
          dsimp only
          rw [if_pos (show bI false = nI 0 from rfl), show nI 0 = bI false from rfl, zb_b, is_137 q9.1, show (41 : Int32) = nI 41 from rfl, s_tkSF CR K q9 q7 (by omega) q1 (by decide), av_cV_r, Option.bind_some]
          refine Or.inr ⟨F, a', c', h3, g3, q1, q2, rfl, rfl, q5, by omega, q7, by omega, q8', q9, fun j hj => ?_⟩
          obtain ⟨x1, x2⟩ := q10 j hj
          have m := (m1.tr m2)
          exact ⟨x1.trans (congrFun m.1 j), x2.trans (congrFun m.2 j)⟩
      · rw [if_neg (show ¬ nI (T a) = 20040 from fun q => z2 ((nI_eq (b := 20040) (by have := K.le ha; omega) (by omega)).mp q))]
        by_cases z1 : T a = 10011
        · -- not
          rw [if_pos ⟨rfl, z1⟩] at U1
          rw [if_pos (show nI (T a) = 10011 by rw [z1]; rfl), is_37 S1.1, nI_1, if_neg (do' ⟨rfl, z1⟩), is_137 U1.1]
          rcases ihp h1 g1 (a + 1) len c (by omega) (by omega) (by omega) S1 U1 with ⟨a', es, h3, g3, q1, q2, q3, q4, q5, q6, q7, q8, q9, q10, q11, q12⟩ | ⟨F, a', c', h3, g3, q1, q2, q3, q4, q5, q6, q7, q8, q8', q9, q10⟩
          · dsimp only at q5 q6
            obtain ⟨h4, e4, S4, o4, o4'⟩ := c_addg (X := X) (d := d + 6 * (k + 1)) hR q7 (by omega) (v := T a)
            obtain ⟨g4, f4, U4, p4, p4', p4''⟩ := s_emit (X := X) (d := e + 6 * (k + 1) + 1) q10 (by omega) (v1 := 3) (v2 := 0)
            rw [show d + 6 * (k + 1) + 1 = d + 5 + 6 * k + 2 by omega, show e + 6 * (k + 1) + 2 = e + 5 + 6 * k + 3 by omega, q5, q6, av_cI_r, Option.bind_some, av_cV_r, Option.bind_some]
            dsimp only
            rw [show d + 5 + 6 * k + 2 = d + 6 * (k + 1) + 1 by omega, show e + 5 + 6 * k + 3 = e + 6 * (k + 1) + 2 by omega, if_neg (show ¬ bI true = 0 by decide), is_Rg hR q7.1, is_137 q10.1, e4, f4, av_cV_r, Option.bind_some, av_cV_r, Option.bind_some, zb_1]
            have fl : (es ++ [T a]).length = es.length + 1 := by rw [List.length_append]; rfl
            refine Or.inl ⟨a', es ++ [T a], h4, g4, by omega, q2, by rw [fl]; omega, fun m hm => ?_, rfl, rfl, by rw [fl]; exact S4, ?_, fun j hj => ?_, by rw [fl]; exact U4, ?_, fun j hj => ?_⟩
            · refine oSL_app (q4 m (by omega)) ⟨?_, ?_⟩
              · exact Or.inr (Or.inr (Or.inl ⟨z1, by omega, by omega⟩))
              · show dpS (T a) (m + 1) = m + 1
                rw [z1]
                rfl
            · exact AL_app (AL_cg (fun j h1 h2 => o4' j (by omega)) q8) ⟨o4, trivial⟩
            · rw [o4' j (by omega), q9 j hj, o1]
            · refine RL_app (RL_cg (fun j h1 h2 => p4'' j (by omega)) q11) ⟨⟨?_, fun y => ?_⟩, trivial⟩
              · rw [show 1100 + c + es.length = 1100 + (c + es.length) by omega, p4, z1]
                rfl
              · rw [z1] at y
                exact absurd y (by unfold isF; omega)
            · obtain ⟨x1, x2⟩ := p4'' j (by omega)
              obtain ⟨y1, y2⟩ := q12 j hj
              exact ⟨x1.trans (y1.trans (congrFun m1.1 j)), x2.trans (y2.trans (congrFun m1.2 j))⟩
          · dsimp only at q3 q4
            obtain ⟨h4, e4, S4⟩ := c_addb (X := X) (d := d + 6 * (k + 1)) hR q5 (v := T a)
            obtain ⟨g4, f4, U4, p4, p4', p4''⟩ := s_emit (X := X) (d := e + 6 * (k + 1) + 1) q9 (by omega) (v1 := 3) (v2 := 0)
            rw [show d + 6 * (k + 1) + 1 = d + 5 + 6 * k + 2 by omega, show e + 6 * (k + 1) + 2 = e + 5 + 6 * k + 3 by omega, q3, q4, av_cI_r, Option.bind_some, av_cV_r, Option.bind_some]
            dsimp only
            rw [show d + 5 + 6 * k + 2 = d + 6 * (k + 1) + 1 by omega, show e + 5 + 6 * k + 3 = e + 6 * (k + 1) + 2 by omega, if_pos (show bI false = 0 from rfl), is_Rg hR q5.1, is_137 q9.1, e4, f4, av_cV_r, Option.bind_some, av_cV_r, Option.bind_some, zb_0]
            refine Or.inr ⟨F, a', c' + 1, h4, g4, q1, q2, rfl, rfl, S4, by omega, q7, by omega, by omega, U4, fun j hj => ?_⟩
            obtain ⟨x1, x2⟩ := p4'' j (by omega)
            obtain ⟨y1, y2⟩ := q10 j hj
            exact ⟨x1.trans (y1.trans (congrFun m1.1 j)), x2.trans (y2.trans (congrFun m1.2 j))⟩
        · -- a number, a fact
          have tn : ¬ (0 = 0 ∧ T a = wcN 10) := fun q => z1 q.2
          rw [if_neg tn] at U1
          obtain ⟨g2, f3, U2, m2⟩ := s_hasS (X := X) (d := e + 6 * (k + 1)) CR K U1 ha (by omega) (g := 40) (by decide)
          rw [if_neg (fun q => z2 q.2)] at U2
          obtain ⟨h4, e4, S4, o4, o4'⟩ := c_addg (X := X) (d := d + 6 * (k + 1)) hR S1 (by omega) (v := T a)
          have tk := K.le ha
          have mm := m1.tr m2
          rw [if_neg (show ¬ nI (T a) = 10011 from fun q => z1 ((nI_eq (b := 10011) (by omega) (by omega)).mp q)), is_Rg hR S1.1, e4, av_cV_r, Option.bind_some, zb_1, if_pos (dz tn), is_137 U1.1, show (40 : Int32) = nI 40 from rfl, f3, av_cI_r, Option.bind_some]
          dsimp only
          rw [if_pos (dz (fun q => z2 q.2))]
          have done : ∀ v2 v3 : Int32, v2 = nI (opc (T a)) → v3 = nI (agc (T a)) → (T a < 10000 ∨ isF (T a)) → Res T n R hc0 hr0 (fun es => ∀ m, m ≤ 4 * dep + 4 → oSL es m (m + 1)) hc hr a len c (av_rI 1 h4) ((av_cV (ev X (e + 6 * (k + 1) + 2) 273 [vr (some 137), vi v2, vi v3] g2)).bind fun q1 => (av_gI q1 (some 137) 11 7).bind fun x2 => (av_pI q1 (some 137) 11 7 (x2 + 1)).bind fun g3 => av_rV g3) := fun v2 v3 hv2 hv3 nf => by
            obtain ⟨g4, f4, U4, p4, p4', p4''⟩ := s_emit (X := X) (d := e + 6 * (k + 1) + 1) U2 (by omega) (v1 := v2) (v2 := v3)
            obtain ⟨b1, b2⟩ := U4.at (nI_1 a)
            rw [f4, av_cV_r, Option.bind_some, gI_137_7 U4.1, U4.2.2.1, pI_137 U4.1]
            refine Or.inl ⟨a + 1, [T a], h4, _, by omega, an, by show 1 ≤ _; omega, fun m hm => ⟨?_, ?_⟩, rfl, rfl, S4, ⟨o4, trivial⟩, fun j hj => ?_, b1, ⟨⟨?_, fun _ => ?_⟩, trivial⟩, fun j hj => ?_⟩
            · exact nf.elim (fun y => Or.inl ⟨y, by omega⟩) (fun y => Or.inr (Or.inl ⟨y, by omega⟩))
            · show dpS (T a) m = m + 1
              unfold dpS
              rcases nf with y | y
              · rw [if_pos y]
              · unfold isF at y
                rw [if_neg (by omega), if_pos y]
            · rw [o4' j (by omega), o1]
            · rw [congrFun b2.1 (1100 + c), p4, hv2]
            · rw [congrFun b2.2 (1100 + c), p4', hv3]
            · obtain ⟨x1, x2⟩ := p4'' j (by omega)
              rw [congrFun b2.1 j, congrFun b2.2 j, x1, x2, congrFun mm.1 j, congrFun mm.2 j]
              exact ⟨rfl, rfl⟩
          by_cases z3 : T a < 10000
          · obtain ⟨t, p⟩ := CR.fr (U2.2.1.fr (by decide)) a ha
            rw [if_neg (do' z3), b_283_93, if_neg (do' z3), gR_137_6 U2.1, gI_137_7 U2.1, U2.2.2.1, ld_141 U2.1 (by omega), t.2.2.2.1 z3, is_137 U2.1]
            exact done _ _ (by rw [opc, if_pos z3]; rfl) (by rw [agc, if_pos z3]; exact Int32.toInt32_toInt64 _) (Or.inl z3)
          · have fa : 10012 ≤ T a ∧ T a < 10023 := by
              have := TW a ha
              unfold ptB at pt
              omega
            rw [if_pos (dz z3), b_283_93, if_pos (dz z3), is_137 U2.1]
            exact done _ _ (by rw [opc, if_neg z3, if_pos fa]; rfl) (by rw [if_pos fa, agc, if_neg z3]) (Or.inr fa)
    · obtain ⟨h1, e1, B1⟩ := cp.1 pt
      obtain ⟨g1, f1, U1, m1⟩ := sp.1 pt
      exact Or.inr ⟨_, a, c, h1, g1, by omega, by omega, e1, f1, B1, Nat.le_refl _, ha, by omega, Nat.le_refl _, U1, fun j _ => ⟨congrFun m1.1 j, congrFun m1.2 j⟩⟩
end
