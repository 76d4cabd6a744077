/-! a drop asked over its hours; against -/
/-- the fields of a drop that the rule is asked over -/
def dpk (h : av_H) (i : Nat) (D : Nat → Nat) : Prop := ∀ j, (j = 0 ∨ j = 1 ∨ j = 4 ∨ j = 5 ∨ j = 6 ∨ j = 12 ∨ j = 13 ∨ j = 14) → h.2.1 (77 + i) j = nI (D j)
theorem dpc.k {h : av_H} {i M : Nat} {D : Nat → Nat} (P : dpc h i D M) : dpk h i D := fun j hj => P.1 j (by omega)
theorem dpk.t {h0 h : av_H} {i : Nat} {D : Nat → Nat} (hi : i < 60) (P : dpk h0 i D) (T : tC h0 h) : dpk h i D := fun j hj => by
  have A := T.2.fr (q := false) (cs := dCells) (fs := []) (by decide +kernel)
  have e : FP false dCells [] (77 + i) j = true := by simp only [FP, dCells_in i hi, Bool.false_and, Bool.false_or, Bool.true_or]
  exact (A.I e).trans (P j hj)
section
variable {X : av_X} {d : Nat} {h : av_H}
theorem dk_g {β : Type} {i j : Nat} {D : Nat → Nat} (w : WF h) (hi : i < 60) (P : dpk h i D) (hj : j = 0 ∨ j = 1 ∨ j = 4 ∨ j = 5 ∨ j = 6 ∨ j = 12 ∨ j = 13 ∨ j = 14) (K : Int32 → Option β) : (av_gI h (some (77 + i)) 0 j).bind K = K (nI (D j)) := by rw [bS (k_gI (dr_k w hi) j), P j hj]
theorem c_facts {h0 : av_H} (T : tC h0 h) {i a V : Nat} {D : Nat → Nat} (hi : i < 60) (P : dpk h0 i D) (W : tw0 h0 (D 0) a (D 3) V) : ∃ h', tC h0 h' ∧ fB h' (D 0) (D 1) (D 3) (D 4) (D 12) (D 6) (D 13) (D 14) ∧ ev X (d + 2) 217 [vr (some 0), vr (some (77 + i))] h = av_rV h' := by
  obtain ⟨h1, T1, ⟨p0, p1, p2, p3, p4⟩, ev1⟩ := c_place (X := X) (d := d) (s := D 1) (e := D 4) T W
  have w := T1.1
  have P0 := P.t hi T
  have P1 := P.t hi T1
  have n64 : 77 + i ≠ 64 := by omega
  have Pu : ∀ {g : av_H} {k : Nat} {v : Int32}, dpk g i D → dpk (av_uI g 64 k v) i D := fun p j hj => by rw [uI_ne n64]; exact p j hj
  refine ⟨av_uI (av_uI (av_uI (av_uI h1 64 7 (nI (D 12))) 64 8 (nI (D 6))) 64 9 (nI (D 13))) 64 10 (nI (D 14)), ⟨w, agr.uI rfl (agr.uI rfl (agr.uI rfl (agr.uI rfl T1.2)))⟩, ?_, ?_⟩
  · refine J11 ⟨fun _ _ => ?_, fun _ _ => ?_, fun _ _ => ?_, fun _ _ => ?_, fun _ _ => ?_, fun z => absurd rfl z, fun _ z => absurd rfl z, fun _ _ => ?_, fun _ _ => ?_, fun _ _ => ?_, fun _ _ => ?_⟩
    · rw [uI_nk (by decide), uI_nk (by decide), uI_nk (by decide), uI_nk (by decide)]; exact p0
    · rw [uI_nk (by decide), uI_nk (by decide), uI_nk (by decide), uI_nk (by decide)]; exact p1
    · rw [uI_nk (by decide), uI_nk (by decide), uI_nk (by decide), uI_nk (by decide)]; exact p2
    · rw [uI_nk (by decide), uI_nk (by decide), uI_nk (by decide), uI_nk (by decide)]; exact p3
    · rw [uI_nk (by decide), uI_nk (by decide), uI_nk (by decide), uI_nk (by decide)]; exact p4
    · rw [uI_nk (by decide), uI_nk (by decide), uI_nk (by decide), uI_eq]; rfl
    · rw [uI_nk (by decide), uI_nk (by decide), uI_eq]; rfl
    · rw [uI_nk (by decide), uI_eq]; rfl
    · rw [uI_eq]; rfl
  · rw [e_217, b_217_0, dk_g T.1 hi P0 (by decide), dk_g T.1 hi P0 (by decide), dk_g T.1 hi P0 (by decide), is_0 T.1, ev1, av_cV_r, Option.bind_some, gR_0_12 w, dk_g w hi P1 (by decide), show (7 : Int32) = nI 7 from rfl, st_64 w (show 7 < 11 by decide), gR_0_12 (WF_uI w), dk_g (WF_uI w) hi (Pu P1) (by decide), show (8 : Int32) = nI 8 from rfl, st_64 (WF_uI w) (show 8 < 11 by decide), gR_0_12 (WF_uI (WF_uI w)), dk_g (WF_uI (WF_uI w)) hi (Pu (Pu P1)) (by decide), show (9 : Int32) = nI 9 from rfl, st_64 (WF_uI (WF_uI w)) (show 9 < 11 by decide), gR_0_12 (WF_uI (WF_uI (WF_uI w))), dk_g (WF_uI (WF_uI (WF_uI w))) hi (Pu (Pu (Pu P1))) (by decide), show (10 : Int32) = nI 10 from rfl, st_64 (WF_uI (WF_uI (WF_uI w))) (show 10 < 11 by decide)]
/-- the facts of a drop at an hour -/
def fcD (h : av_H) (D : Nat → Nat) (k : Nat) : Nat → Int32 := fct (D 0) (D 1) (D 3) (D 4) k (wvN h (D 1) (D 4) k) (D 12) (D 6) (D 13) (D 14)
theorem isStopped_lp {h0 : av_H} {u : Ru} (o : u.ok) (C : u.C h0) (Jw : J_wi h0) {i : Nat} {D : Nat → Nat} (hi : i < 60) (Pk : dpk h0 i D) (b1 : D 1 < 4) (b4 : D 4 < 100) (b5 : D 5 + D 6 ≤ 24) : ∀ n j h, j + n = D 6 → tC h0 h → fB h (D 0) (D 1) (D 3) (D 4) (D 12) (D 6) (D 13) (D 14) → ∃ h', tC h0 h' ∧ bd X (d + 3) 212 5 [(0, vr (some 0)), (1, vr (some (77 + i))), (2, vi (nI j))] [] h = av_rI (bI (anyN n (D 5 + j) (fun k => u.st (fcD h0 D k)))) h'
  | 0, j, h, hj, T, _ => by
    refine ⟨h, T, ?_⟩
    rw [b_212_5, dk_g T.1 hi (Pk.t hi T) (by decide), if_neg (nI_nlt (by omega) (by omega))]
    rfl
  | n + 1, j, h, hj, T, fb => by
    have w := T.1
    have Pk' := Pk.t hi T
    obtain ⟨h1, T1, F1, e1⟩ := c_hour (X := X) (d := d) T Jw b1 b4 (show D 5 + j < 24 by omega) fb
    obtain ⟨h2, S2, e2⟩ := c_stopping (X := X) (d := d) T1.1 o (C.fr o (T1.2.fr (by decide)))
    have F2 : fB h2 (D 0) (D 1) (D 3) (D 4) (D 12) (D 6) (D 13) (D 14) := fB.fct (fun j hj => by rw [S2.ne (by rcases o.1 with z | z <;> rw [z] <;> decide)]; exact F1 j hj)
    rw [u.st_cg o F1] at e2
    rw [b_212_5, dk_g w hi Pk' (by decide), if_pos (nI_lt (by omega) (by omega)), dk_g w hi Pk' (by decide), dk_g w hi Pk' (by decide), dk_g w hi Pk' (by decide), is_0 w, nI_add, e1, av_cV_r, Option.bind_some, g015 T1.1 (C.fr o (T1.2.fr (by decide))), gR_0_12 T1.1, is_R o T1.1, e2, av_cI_r, Option.bind_some, nI_1, anyN, fcD]
    cases q2 : u.st (fct (D 0) (D 1) (D 3) (D 4) (D 5 + j) (wvN h0 (D 1) (D 4) (D 5 + j)) (D 12) (D 6) (D 13) (D 14)) with
    | false =>
      rw [if_pos (show bI false = 0 from rfl), Bool.false_or]
      exact isStopped_lp o C Jw hi Pk b1 b4 b5 n (j + 1) h2 (by omega) (T1.st o S2) F2
    | true =>
      rw [if_neg (show ¬ bI true = 0 by decide), Bool.true_or]
      exact ⟨h2, T1.st o S2, rfl⟩
theorem c_isStopped {h0 : av_H} (T : tC h0 h) {u : Ru} (o : u.ok) (C : u.C h0) (Jw : J_wi h0) {i a V : Nat} {D : Nat → Nat} (hi : i < 60) (Pk : dpk h0 i D) (W : tw0 h0 (D 0) a (D 3) V) (b1 : D 1 < 4) (b4 : D 4 < 100) (b5 : D 5 + D 6 ≤ 24) : ∃ h', tC h0 h' ∧ ev X (d + 4) 212 [vr (some 0), vr (some (77 + i))] h = av_rI (bI (anyN (D 6) (D 5) (fun k => u.st (fcD h0 D k)))) h' := by
  obtain ⟨h1, T1, F1, e1⟩ := c_facts (X := X) (d := d + 1) T hi Pk W
  obtain ⟨h2, T2, e2⟩ := isStopped_lp (X := X) (d := d) o C Jw hi Pk b1 b4 b5 (D 6) 0 h1 (by omega) T1 F1
  refine ⟨h2, T2, ?_⟩
  rw [e_212, b_212_0, is_0 T.1, e1, av_cV_r, Option.bind_some]
  exact e2
theorem isQuiet_lp {h0 : av_H} {u : Ru} (o : u.ok) (C : u.C h0) (Jw : J_wi h0) {i : Nat} {D : Nat → Nat} (hi : i < 60) (Pk : dpk h0 i D) (b1 : D 1 < 4) (b4 : D 4 < 100) (b5 : D 5 + D 6 ≤ 24) : ∀ n j h, j + n = D 6 → tC h0 h → fB h (D 0) (D 1) (D 3) (D 4) (D 12) (D 6) (D 13) (D 14) → ∃ h', tC h0 h' ∧ bd X (d + 3) 213 5 [(0, vr (some 0)), (1, vr (some (77 + i))), (2, vi (nI j))] [] h = av_rI (bI (anyN n (D 5 + j) (fun k => u.qu (fcD h0 D k)))) h'
  | 0, j, h, hj, T, _ => by
    refine ⟨h, T, ?_⟩
    rw [b_213_5, dk_g T.1 hi (Pk.t hi T) (by decide), if_neg (nI_nlt (by omega) (by omega))]
    rfl
  | n + 1, j, h, hj, T, fb => by
    have w := T.1
    have Pk' := Pk.t hi T
    obtain ⟨h1, T1, F1, e1⟩ := c_hour (X := X) (d := d) T Jw b1 b4 (show D 5 + j < 24 by omega) fb
    obtain ⟨h2, S2, e2⟩ := c_quieting (X := X) (d := d) T1.1 o (C.fr o (T1.2.fr (by decide)))
    have F2 : fB h2 (D 0) (D 1) (D 3) (D 4) (D 12) (D 6) (D 13) (D 14) := fB.fct (fun j hj => by rw [S2.ne (by rcases o.1 with z | z <;> rw [z] <;> decide)]; exact F1 j hj)
    rw [u.qu_cg o F1] at e2
    rw [b_213_5, dk_g w hi Pk' (by decide), if_pos (nI_lt (by omega) (by omega)), dk_g w hi Pk' (by decide), dk_g w hi Pk' (by decide), dk_g w hi Pk' (by decide), is_0 w, nI_add, e1, av_cV_r, Option.bind_some, g015 T1.1 (C.fr o (T1.2.fr (by decide))), gR_0_12 T1.1, is_R o T1.1, e2, av_cI_r, Option.bind_some, nI_1, anyN, fcD]
    cases q2 : u.qu (fct (D 0) (D 1) (D 3) (D 4) (D 5 + j) (wvN h0 (D 1) (D 4) (D 5 + j)) (D 12) (D 6) (D 13) (D 14)) with
    | false =>
      rw [if_pos (show bI false = 0 from rfl), Bool.false_or]
      exact isQuiet_lp o C Jw hi Pk b1 b4 b5 n (j + 1) h2 (by omega) (T1.st o S2) F2
    | true =>
      rw [if_neg (show ¬ bI true = 0 by decide), Bool.true_or]
      exact ⟨h2, T1.st o S2, rfl⟩
theorem c_isQuiet {h0 : av_H} (T : tC h0 h) {u : Ru} (o : u.ok) (C : u.C h0) (Jw : J_wi h0) {i a V : Nat} {D : Nat → Nat} (hi : i < 60) (Pk : dpk h0 i D) (W : tw0 h0 (D 0) a (D 3) V) (b1 : D 1 < 4) (b4 : D 4 < 100) (b5 : D 5 + D 6 ≤ 24) : ∃ h', tC h0 h' ∧ ev X (d + 4) 213 [vr (some 0), vr (some (77 + i))] h = av_rI (bI (anyN (D 6) (D 5) (fun k => u.qu (fcD h0 D k)))) h' := by
  obtain ⟨h1, T1, F1, e1⟩ := c_facts (X := X) (d := d + 1) T hi Pk W
  obtain ⟨h2, T2, e2⟩ := isQuiet_lp (X := X) (d := d) o C Jw hi Pk b1 b4 b5 (D 6) 0 h1 (by omega) T1 F1
  refine ⟨h2, T2, ?_⟩
  rw [e_213, b_213_0, is_0 T.1, e1, av_cV_r, Option.bind_some]
  exact e2
end
