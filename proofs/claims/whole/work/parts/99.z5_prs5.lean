/-! the reader: less and equal -/
section
variable {X : av_X} {d e : Nat} {hc0 hr0 : av_H} {T P : Nat → Nat} {n R : Nat}
theorem lv_tst (hR : R = 67 ∨ R = 72) (K : TK T P n) (C : TC T P n hc0) (CR : TR T P n hr0) {dep B : Nat} (hB : B ≤ 29) (Hs : Sub T n R hc0 hr0 (fun es => ∀ m, m ≤ B + 1 → oSL es m (m + 1)) (fun h => ev X (d + 1) 91 [vr (some 37), vr (some R), vi (nI 2), vi (nI dep)] h) (fun h => ev X (e + 2) 281 [vr (some 137), vi (nI dep)] h)) : Sub T n R hc0 hr0 (fun es => ∀ m, m ≤ B → oSL es m (m + 1)) (fun h => ev X (d + 2) 91 [vr (some 37), vr (some R), vi (nI 1), vi (nI dep)] h) (fun h => ev X (e + 3) 280 [vr (some 137), vi (nI dep)] h) := by
  intro hc hr a len c ha hlen hcc S U
  have kn := K.1
  dsimp only
  rw [e_91, b_91_0, if_neg (show ¬ (3 : Int32) < nI 1 by decide), is_37 S.1, show nI 1 + 1 = nI 2 from rfl, e_280, b_280_0, is_137 U.1]
  rcases Hs hc hr a len c ha hlen hcc S U with ⟨a', es, h2, g2, q1, q2, q3, q4, q5, q6, q7, q8, q9, q10, q11, q12⟩ | ⟨F, a', c', h2, g2, q1, q2, q3, q4, q5, q6, q7, q8, q8', q9, q10⟩
  · dsimp only at q5 q6
    obtain ⟨g3, f3, U3, m3⟩ := s_hasS (X := X) (d := e) CR K q10 q2 (by omega) (g := 60) (by decide)
    rw [q5, q6, av_cI_r, Option.bind_some, av_cV_r, Option.bind_some, if_pos (show nI 1 = 1 from rfl), show (1 : Int32) = nI 1 from rfl, show (0 : Int32) = nI 0 from rfl, is_137 q10.1, show (60 : Int32) = nI 60 from rfl, s_isS CR K q10 q2 (by omega) (by decide), av_cI_r, Option.bind_some]
    dsimp only
    rw [is_137 q10.1, f3, av_cI_r, Option.bind_some]
    dsimp only
    -- one more, with its joint
    have go : ∀ (b : Bool) (t : Nat) (g4 : av_H), T a' = t → (t = 20060 ∧ b = true ∨ t = 20061 ∧ b = false) → RS hr0 g4 (a' + 1) (c + es.length) 0 → sm6 g2 g4 → Res T n R hc0 hr0 (fun es => ∀ m, m ≤ B → oSL es m (m + 1)) hc hr a len c (bd X (d + 1) 91 25 [(0, vr (some 37)), (1, vr (some R)), (2, vi (nI 1)), (3, vi (nI dep)), (4, vi (bI true)), (5, vi (nI 1)), (6, vi (nI 0))] [] h2) (bd X (e + 2) 280 15 [(0, vr (some 137)), (1, vi (nI dep)), (2, vi (bI b))] [] g4) := fun b t g4 tt tb U4 m4 => by
      have z : jtB 1 (T a') = true := by
        rw [tt]
        rcases tb with y | y <;> rw [y.1] <;> decide
      obtain ⟨jb, j1, j2, j3⟩ := jt_B z
      have an : a' < n := K.lt q2 j3
      obtain ⟨h3, S3, o3, e3⟩ := lv_go (X := X) (d := d) hR K C (dep := dep) (i := 0) (mx := 1) (by omega) q7 an z (by omega) (by omega)
      rw [e3, b_280_15, is_137 U4.1]
      have fin : ∀ {h : av_H} {v : Bool}, bd X (d + 1) 91 25 [(0, vr (some 37)), (1, vr (some R)), (2, vi (nI 1)), (3, vi (nI dep)), (4, vi (bI v)), (5, vi (nI 1)), (6, vi (nI (0 + 1)))] [] h = av_rI (bI v) h := fun {h v} => by
        rw [b_91_25, if_neg (show ¬ nI (0 + 1) < nI 1 by decide), zb_b]
      have em : ∀ {g : av_H}, WF g → (if bI b = 0 then (if av_is g (some 137) 11 = true then (av_cV (ev X (e + 2) 273 [vr (some 137), vi 8, vi 0] g)).bind fun q2 => av_rV q2 else none) else if av_is g (some 137) 11 = true then (av_cV (ev X (e + 2) 273 [vr (some 137), vi 7, vi 0] g)).bind fun q3 => av_rV q3 else none) = (av_cV (ev X (e + 2) 273 [vr (some 137), vi (nI (opc t)), vi 0] g)).bind fun q2 => av_rV q2 := fun {g} wg => by
        rcases tb with y | y
        · rw [y.1, y.2, if_neg (show ¬ bI true = 0 by decide), is_137 wg]
          rfl
        · rw [y.1, y.2, if_pos (show bI false = 0 from rfl), is_137 wg]
          rfl
      rcases Hs h3 g4 (a' + 1) (len + es.length) (c + es.length) (by omega) (by omega) (by omega) S3 U4 with ⟨a2, fs, h5, g5, r1, r2, r3, r4, r5, r6, r7, r8, r9, r10, r11, r12⟩ | ⟨F, a2, c2, h5, g5, r1, r2, r3, r4, r5, r6, r7, r8, r8', r9, r10⟩
      · dsimp only at r5 r6
        obtain ⟨h6, e6, S6, o6, o6'⟩ := c_addg (X := X) (d := d) hR r7 (by omega) (v := T a')
        obtain ⟨g6, f6, U6, p6, p6', p6''⟩ := s_emit (X := X) (d := e + 1) r10 (by omega) (v1 := nI (opc t)) (v2 := 0)
        rw [r5, r6, av_cI_r, Option.bind_some, av_cV_r, Option.bind_some, em r10.1]
        dsimp only
        rw [is_Rg hR r7.1, e6, f6, av_cV_r, Option.bind_some, av_cV_r, Option.bind_some, fin]
        have fl : (fs ++ [t]).length = fs.length + 1 := by rw [List.length_append]; rfl
        refine Or.inl ⟨a2, es ++ (fs ++ [t]), h6, g6, by omega, r2, ?_, fun m hm => ?_, rfl, rfl, ?_, ?_, fun j hj => ?_, ?_, ?_, fun j hj => ?_⟩
        · rw [List.length_append, fl]
          omega
        · exact oSL_app (q4 m (by omega)) (oSL_app (r4 (m + 1) (by omega)) (isB_ok (tt ▸ jb) (tt ▸ j1) (tt ▸ j2) (by omega)))
        · rw [List.length_append, fl, show len + (es.length + (fs.length + 1)) = len + es.length + fs.length + 1 by omega]
          exact S6
        · exact AL_app (AL_cg (fun j h1 h2 => by rw [o6' j (by omega), r9 j (by omega), o3]) q8) (AL_app (AL_cg (fun j h1 h2 => o6' j (by omega)) r8) ⟨by rw [← tt]; exact o6, trivial⟩)
        · rw [o6' j (by omega), r9 j (by omega), o3, q9 j hj]
        · rw [List.length_append, fl, show c + (es.length + (fs.length + 1)) = c + es.length + fs.length + 1 by omega]
          exact U6
        · refine RL_app (RL_cg (fun j h1 h2 => ?_) q11) (RL_app (RL_cg (fun j h1 h2 => p6'' j (by omega)) (by rw [Nat.add_assoc]; exact r11)) ⟨⟨by rw [show 1100 + c + es.length + fs.length = 1100 + (c + es.length + fs.length) by omega]; exact p6, fun y => absurd y (fun y => y.elim (tt ▸ j1) (tt ▸ j2))⟩, trivial⟩)
          obtain ⟨x1, x2⟩ := p6'' j (by omega)
          obtain ⟨y1, y2⟩ := r12 j (by omega)
          exact ⟨x1.trans (y1.trans (congrFun m4.1 j)), x2.trans (y2.trans (congrFun m4.2 j))⟩
        · obtain ⟨x1, x2⟩ := p6'' j (by omega)
          obtain ⟨y1, y2⟩ := r12 j (by omega)
          obtain ⟨z1, z2⟩ := q12 j hj
          exact ⟨x1.trans (y1.trans ((congrFun m4.1 j).trans z1)), x2.trans (y2.trans ((congrFun m4.2 j).trans z2))⟩
      · dsimp only at r3 r4
        obtain ⟨h6, e6, S6⟩ := c_addb (X := X) (d := d) hR r5 (v := T a')
        obtain ⟨g6, f6, U6, p6, p6', p6''⟩ := s_emit (X := X) (d := e + 1) r9 (by omega) (v1 := nI (opc t)) (v2 := 0)
        rw [r3, r4, av_cI_r, Option.bind_some, av_cV_r, Option.bind_some, em r9.1]
        dsimp only
        rw [is_Rg hR r5.1, e6, f6, av_cV_r, Option.bind_some, av_cV_r, Option.bind_some, fin]
        refine Or.inr ⟨F, a2, c2 + 1, h6, g6, r1, r2, rfl, rfl, S6, by omega, r7, by omega, by omega, U6, fun j hj => ?_⟩
        obtain ⟨x1, x2⟩ := p6'' j (by omega)
        obtain ⟨y1, y2⟩ := r10 j (by omega)
        obtain ⟨z1, z2⟩ := q12 j hj
        exact ⟨x1.trans (y1.trans ((congrFun m4.1 j).trans z1)), x2.trans (y2.trans ((congrFun m4.2 j).trans z2))⟩
    by_cases y : T a' = 20060
    · rw [if_pos ⟨rfl, y⟩] at U3
      rw [if_neg (show ¬ bI (decide (0 = 0 ∧ T a' = 20000 + 60)) = nI 0 from do' ⟨rfl, y⟩), decide_eq_true (And.intro rfl y)]
      exact go true 20060 g3 y (Or.inl ⟨rfl, rfl⟩) U3 m3
    · rw [if_neg (fun q => y q.2)] at U3
      obtain ⟨g4, f4, U4, m4⟩ := s_hasS (X := X) (d := e) CR K U3 q2 (by omega) (g := 61) (by decide)
      rw [if_pos (show bI (decide (0 = 0 ∧ T a' = 20000 + 60)) = nI 0 from dz (fun q => y q.2)), is_137 U3.1, show (61 : Int32) = nI 61 from rfl, f4, av_cI_r, Option.bind_some]
      dsimp only
      by_cases y2 : T a' = 20061
      · rw [if_pos ⟨rfl, y2⟩] at U4
        rw [if_neg (show ¬ bI (decide (0 = 0 ∧ T a' = 20000 + 61)) = nI 0 from do' ⟨rfl, y2⟩), decide_eq_false (fun q => y q.2)]
        exact go false 20061 g4 y2 (Or.inr ⟨rfl, rfl⟩) U4 (m3.tr m4)
      · rw [if_neg (fun q => y2 q.2)] at U4
        have z : jtB 1 (T a') = false := by
          rw [jtB, if_neg (by decide), if_pos rfl, decide_eq_false y, decide_eq_false y2]
          rfl
        rw [if_pos (show bI (decide (0 = 0 ∧ T a' = 20000 + 61)) = nI 0 from dz (fun q => y2 q.2)), lv_stop K (by omega) q7 q2 z]
        refine Or.inl ⟨a', es, h2, g4, q1, q2, q3, fun m hm => q4 m (by omega), rfl, rfl, q7, q8, q9, U4, RL_cg (fun j h1 h2 => ⟨congrFun (m3.tr m4).1 j, congrFun (m3.tr m4).2 j⟩) q11, fun j hj => ?_⟩
        obtain ⟨z1, z2⟩ := q12 j hj
        exact ⟨(congrFun (m3.tr m4).1 j).trans z1, (congrFun (m3.tr m4).2 j).trans z2⟩
  · dsimp only at q3 q4
    obtain ⟨g3, f3, U3, m3⟩ := s_hasS (X := X) (d := e) CR K q9 q7 (by omega) (g := 60) (by decide)
    rw [if_neg (by omega)] at U3
    obtain ⟨g4, f4, U4, m4⟩ := s_hasS (X := X) (d := e) CR K U3 q7 (by omega) (g := 61) (by decide)
    rw [if_neg (by omega)] at U4
    rw [q3, q4, av_cI_r, Option.bind_some, av_cV_r, Option.bind_some, if_pos (show nI 1 = 1 from rfl), show (1 : Int32) = nI 1 from rfl, show (0 : Int32) = nI 0 from rfl, lv_bad, is_137 q9.1, show (60 : Int32) = nI 60 from rfl, s_isS CR K q9 q7 (by omega) (by decide), av_cI_r, Option.bind_some]
    dsimp only
    rw [is_137 q9.1, f3, av_cI_r, Option.bind_some]
    dsimp only
    rw [if_pos (show bI (decide (F = 0 ∧ T a' = 20000 + 60)) = nI 0 from dz (by omega)), is_137 U3.1, show (61 : Int32) = nI 61 from rfl, f4, av_cI_r, Option.bind_some]
    dsimp only
    rw [if_pos (show bI (decide (F = 0 ∧ T a' = 20000 + 61)) = nI 0 from dz (by omega))]
    refine Or.inr ⟨F, a', c', h2, g4, q1, q2, rfl, rfl, q5, q6, q7, q8, q8', U4, fun j hj => ?_⟩
    obtain ⟨z1, z2⟩ := q10 j hj
    exact ⟨(congrFun (m3.tr m4).1 j).trans z1, (congrFun (m3.tr m4).2 j).trans z2⟩
end
