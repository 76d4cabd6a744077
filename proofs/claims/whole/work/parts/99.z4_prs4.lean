/-! the reader: the levels of an E -/
section
variable {X : av_X} {d e : Nat} {hc0 hr0 : av_H} {T P : Nat → Nat} {n R : Nat}
/-- a level: its first part, and the loop -/
theorem lv_all (hR : R = 67 ∨ R = 72) (K : TK T P n) (C : TC T P n hc0) {l dep B : Nat} (hl : l ≤ 3) (l1 : l ≠ 1) (hB : B ≤ 29) {sub rl fr : av_H → Option (Option (Option av_V) × av_H)} (Hs : Sub T n R hc0 hr0 (fun es => ∀ m, m ≤ B + 1 → oSL es m (m + 1)) (fun h => ev X (d + 1) 91 [vr (some 37), vr (some R), vi (nI (l + 1)), vi (nI dep)] h) sub) (HL : RLoop X e T n hr0 l sub rl) (hf : ∀ hr, WF hr → fr hr = (av_cV (sub hr)).bind rl) : Sub T n R hc0 hr0 (fun es => ∀ m, m ≤ B → oSL es m (m + 1)) (fun h => ev X (d + 2) 91 [vr (some 37), vr (some R), vi (nI l), vi (nI dep)] h) fr := by
  intro hc hr a len c ha hlen hcc S U
  have kn := K.1
  dsimp only
  rw [e_91, b_91_0, if_neg (show ¬ (3 : Int32) < nI l from nI_nlt (a := 3) hl (by omega)), is_37 S.1, nI_1, hf hr U.1]
  rcases Hs hc hr a len c ha hlen hcc S U with ⟨a', es, h2, g2, q1, q2, q3, q4, q5, q6, q7, q8, q9, q10, q11, q12⟩ | ⟨F, a', c', h2, g2, q1, q2, q3, q4, q5, q6, q7, q8, q8', q9, q10⟩
  · dsimp only at q5
    rw [q5, q6, av_cI_r, Option.bind_some, av_cV_r, Option.bind_some, if_neg (show ¬ nI l = 1 from fun u => l1 ((nI_eq (b := 1) (by omega) (by omega)).mp u)), show (1000 : Int32) = nI 1000 from rfl, show (0 : Int32) = nI 0 from rfl]
    rcases lv_lp hR K C hl hB Hs HL (n - a') 0 h2 g2 a' (len + es.length) (c + es.length) (Nat.le_refl _) (Nat.zero_le _) q2 (by omega) (by omega) q7 q10 with ⟨a2, fs, h4, g4, r1, r2, r3, r4, r5, r6, r7, r8, r9, r10, r11, r12⟩ | ⟨F, a2, c2, h4, g4, r1, r2, r3, r4, r5, r6, r7, r8, r8', r9, r10⟩
    · refine Or.inl ⟨a2, es ++ fs, h4, g4, by omega, r2, ?_, fun m hm => oSL_app (q4 m (by omega)) (r4 m hm), r5, r6, ?_, ?_, fun j hj => ?_, ?_, ?_, fun j hj => ?_⟩
      · rw [List.length_append]
        omega
      · rw [List.length_append, ← Nat.add_assoc]
        exact r7
      · exact AL_app (AL_cg (fun j h1 h2 => r9 j h2) q8) r8
      · rw [r9 j (by omega), q9 j hj]
      · rw [List.length_append, ← Nat.add_assoc]
        exact r10
      · exact RL_app (RL_cg (fun j h1 h2 => r12 j (by omega)) q11) (by rw [Nat.add_assoc]; exact r11)
      · obtain ⟨x1, x2⟩ := r12 j (by omega)
        obtain ⟨z1, z2⟩ := q12 j hj
        exact ⟨x1.trans z1, x2.trans z2⟩
    · refine Or.inr ⟨F, a2, c2, h4, g4, r1, r2, r3, r4, r5, by omega, r7, by omega, by omega, r9, fun j hj => ?_⟩
      obtain ⟨x1, x2⟩ := r10 j (by omega)
      obtain ⟨z1, z2⟩ := q12 j hj
      exact ⟨x1.trans z1, x2.trans z2⟩
  · dsimp only at q3
    obtain ⟨g4, f4, U4, m4⟩ := HL.2.1 g2 a' c' F q7 q1 q2 q9
    rw [q3, q4, av_cI_r, Option.bind_some, av_cV_r, Option.bind_some, if_neg (show ¬ nI l = 1 from fun u => l1 ((nI_eq (b := 1) (by omega) (by omega)).mp u)), show (1000 : Int32) = nI 1000 from rfl, show (0 : Int32) = nI 0 from rfl, lv_bad, f4]
    refine Or.inr ⟨F, a', c', h2, g4, q1, q2, rfl, rfl, q5, q6, q7, q8, q8', U4, fun j hj => ?_⟩
    obtain ⟨z1, z2⟩ := q10 j hj
    exact ⟨(congrFun m4.1 j).trans z1, (congrFun m4.2 j).trans z2⟩
theorem dz {p : Prop} [Decidable p] (h : ¬ p) : bI (decide p) = 0 := by rw [decide_eq_false h]; rfl
theorem do' {p : Prop} [Decidable p] (h : p) : ¬ bI (decide p) = 0 := by rw [decide_eq_true h]; decide
/-- and, or -/
theorem rl_0 (K : TK T P n) (C : TR T P n hr0) {dep : Nat} : RLoop X e T n hr0 0 (fun h => ev X (e + 1) 280 [vr (some 137), vi (nI dep)] h) (fun h => bd X (e + 1) 279 3 [(0, vr (some 137)), (1, vi (nI dep))] [] h) := by
  have stop : ∀ hr a c F, a ≤ n → F < 100000 → RS hr0 hr a c F → ¬ (F = 0 ∧ T a = wcN 8) → ¬ (F = 0 ∧ T a = wcN 9) → bd X (e + 1) 279 3 [(0, vr (some 137)), (1, vi (nI dep))] [] hr = av_rV hr := fun hr a c F ha hF U z1 z2 => by
    rw [b_279_3, is_137 U.1, show (8 : Int32) = nI 8 from rfl, s_isW C K U ha (by omega) (by decide), av_cI_r, Option.bind_some, if_pos (dz z1), is_137 U.1, show (9 : Int32) = nI 9 from rfl, s_isW C K U ha (by omega) (by decide), av_cI_r, Option.bind_some, if_pos (dz z2)]
  refine ⟨fun hr a c ha U z => ⟨hr, stop hr a c 0 ha (by omega) U ?_ ?_, U, sm6.rfl⟩, fun hr a c F ha f0 f1 U => ⟨hr, stop hr a c F ha f1 U (by omega) (by omega), U, sm6.rfl⟩, fun hr a c ha U z => ?_⟩
  · intro q
    rw [show T a = 10009 from q.2] at z
    exact absurd z (by decide)
  · intro q
    rw [show T a = 10010 from q.2] at z
    exact absurd z (by decide)
  · obtain ⟨b1, b2⟩ := U.at (nI_1 a)
    have j2 : bd X (e + 1) 279 3 [(0, vr (some 137)), (1, vi (nI dep))] [] hr = bd X (e + 1) 279 11 [(0, vr (some 137)), (1, vi (nI dep))] [] hr := by
      rw [b_279_3, is_137 U.1, show (8 : Int32) = nI 8 from rfl, s_isW C K U (by omega) (by omega) (by decide), av_cI_r, Option.bind_some]
      dsimp only
      by_cases y : T a = 10009
      · rw [if_neg (do' ⟨rfl, y⟩)]
      · have y2 : T a = 10010 := by
          rw [jtB, if_pos rfl, decide_eq_false y, Bool.false_or, decide_eq_true_eq] at z
          exact z
        rw [if_pos (dz (fun q => y q.2)), is_137 U.1, show (9 : Int32) = nI 9 from rfl, s_isW C K U (by omega) (by omega) (by decide), av_cI_r, Option.bind_some]
        dsimp only
        rw [if_neg (do' ⟨rfl, y2⟩)]
    refine ⟨_, b1, b2, fun q e1 w1 => ?_⟩
    dsimp only at e1 ⊢
    rw [j2, b_279_11, is_137 U.1, show (8 : Int32) = nI 8 from rfl, s_isW C K U (by omega) (by omega) (by decide), av_cI_r, Option.bind_some]
    dsimp only
    rw [gI_137_7 U.1, U.2.2.1, pI_137 U.1, is_137 b1.1, e1, av_cV_r, Option.bind_some]
    by_cases y : T a = 10009
    · rw [if_neg (do' ⟨rfl, y⟩), y, is_137 w1]
      rfl
    · have y2 : T a = 10010 := by
        rw [jtB, if_pos rfl, decide_eq_false y, Bool.false_or, decide_eq_true_eq] at z
        exact z
      rw [if_pos (dz (fun q => y q.2)), y2, is_137 w1]
      rfl
/-- plus, minus -/
theorem rl_2 (K : TK T P n) (C : TR T P n hr0) {dep : Nat} : RLoop X e T n hr0 2 (fun h => ev X (e + 1) 282 [vr (some 137), vi (nI dep)] h) (fun h => bd X (e + 1) 281 3 [(0, vr (some 137)), (1, vi (nI dep))] [] h) := by
  have stop : ∀ hr a c F, a ≤ n → F < 100000 → RS hr0 hr a c F → ¬ (F = 0 ∧ T a = 20000 + 43) → ¬ (F = 0 ∧ T a = 20000 + 45) → bd X (e + 1) 281 3 [(0, vr (some 137)), (1, vi (nI dep))] [] hr = av_rV hr := fun hr a c F ha hF U z1 z2 => by
    rw [b_281_3, is_137 U.1, show (43 : Int32) = nI 43 from rfl, s_isS C K U ha (by omega) (by decide), av_cI_r, Option.bind_some, if_pos (dz z1), is_137 U.1, show (45 : Int32) = nI 45 from rfl, s_isS C K U ha (by omega) (by decide), av_cI_r, Option.bind_some, if_pos (dz z2)]
  refine ⟨fun hr a c ha U z => ⟨hr, stop hr a c 0 ha (by omega) U ?_ ?_, U, sm6.rfl⟩, fun hr a c F ha f0 f1 U => ⟨hr, stop hr a c F ha f1 U (by omega) (by omega), U, sm6.rfl⟩, fun hr a c ha U z => ?_⟩
  · intro q
    rw [show T a = 20043 from q.2] at z
    exact absurd z (by decide)
  · intro q
    rw [show T a = 20045 from q.2] at z
    exact absurd z (by decide)
  · obtain ⟨b1, b2⟩ := U.at (nI_1 a)
    have z2 : ¬ T a = 20000 + 43 → T a = 20000 + 45 := fun y => by
      rw [jtB, if_neg (by decide), if_neg (by decide), if_pos rfl, decide_eq_false y, Bool.false_or, decide_eq_true_eq] at z
      exact z
    have j2 : bd X (e + 1) 281 3 [(0, vr (some 137)), (1, vi (nI dep))] [] hr = bd X (e + 1) 281 11 [(0, vr (some 137)), (1, vi (nI dep))] [] hr := by
      rw [b_281_3, is_137 U.1, show (43 : Int32) = nI 43 from rfl, s_isS C K U (by omega) (by omega) (by decide), av_cI_r, Option.bind_some]
      dsimp only
      by_cases y : T a = 20000 + 43
      · rw [if_neg (do' ⟨rfl, y⟩)]
      · rw [if_pos (dz (fun q => y q.2)), is_137 U.1, show (45 : Int32) = nI 45 from rfl, s_isS C K U (by omega) (by omega) (by decide), av_cI_r, Option.bind_some]
        dsimp only
        rw [if_neg (do' ⟨rfl, z2 y⟩)]
    refine ⟨_, b1, b2, fun q e1 w1 => ?_⟩
    dsimp only at e1 ⊢
    rw [j2, b_281_11, is_137 U.1, show (43 : Int32) = nI 43 from rfl, s_isS C K U (by omega) (by omega) (by decide), av_cI_r, Option.bind_some]
    dsimp only
    rw [gI_137_7 U.1, U.2.2.1, pI_137 U.1, is_137 b1.1, e1, av_cV_r, Option.bind_some]
    by_cases y : T a = 20000 + 43
    · rw [if_neg (do' ⟨rfl, y⟩), y, is_137 w1]
      rfl
    · rw [if_pos (dz (fun q => y q.2)), z2 y, is_137 w1]
      rfl
/-- times -/
theorem rl_3 (K : TK T P n) (C : TR T P n hr0) {dep : Nat} : RLoop X (e + 1) T n hr0 3 (fun h => ev X (e + 2) 283 [vr (some 137), vi (nI dep)] h) (fun h => bd X (e + 2) 282 3 [(0, vr (some 137)), (1, vi (nI dep))] [] h) := by
  have stop : ∀ hr a c F, a ≤ n → F < 100000 → RS hr0 hr a c F → ¬ (F = 0 ∧ T a = 20000 + 42) → ∃ hr', bd X (e + 2) 282 3 [(0, vr (some 137)), (1, vi (nI dep))] [] hr = av_rV hr' ∧ RS hr0 hr' a c F ∧ sm6 hr hr' := fun hr a c F ha hF U z1 => by
    obtain ⟨h', e1, b1, b2⟩ := s_hasS (X := X) (d := e) C K U ha (by omega) (g := 42) (by decide)
    rw [if_neg z1] at b1
    refine ⟨h', ?_, b1, b2⟩
    rw [b_282_3, is_137 U.1, show (42 : Int32) = nI 42 from rfl, e1, av_cI_r, Option.bind_some, if_pos (dz z1)]
  refine ⟨fun hr a c ha U z => stop hr a c 0 ha (by omega) U (fun q => ?_), fun hr a c F ha f0 f1 U => stop hr a c F ha f1 U (by omega), fun hr a c ha U z => ?_⟩
  · rw [show T a = 20042 from q.2] at z
    exact absurd z (by decide)
  · have y : T a = 20042 := by
      rw [jtB, if_neg (by decide), if_neg (by decide), if_neg (by decide), decide_eq_true_eq] at z
      exact z
    obtain ⟨h', e1, b1, b2⟩ := s_hasS (X := X) (d := e) C K U (by omega) (by omega) (g := 42) (by decide)
    rw [if_pos ⟨rfl, y⟩] at b1
    refine ⟨h', b1, b2, fun q e2 w1 => ?_⟩
    dsimp only at e2 ⊢
    rw [b_282_3, is_137 U.1, show (42 : Int32) = nI 42 from rfl, e1, av_cI_r, Option.bind_some, if_neg (do' ⟨rfl, y⟩), is_137 b1.1, e2, av_cV_r, Option.bind_some, is_137 w1, y]
    rfl
end
