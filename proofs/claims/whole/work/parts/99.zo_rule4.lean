/-! rule, on both sides -/
theorem agr.uR {F : Nat → Nat → Bool} {h h' : av_H} {a k : Nat} {v : Option Nat} (q : F a k = false) (A : agr F h h') : agr F h (av_uR h' a k v) := by
  refine ⟨A.1, fun x y e => ⟨(A.2 x y e).1, (A.2 x y e).2.1, ?_⟩⟩
  by_cases z : x = a
  · subst z
    by_cases z2 : y = k
    · subst z2
      rw [q] at e
      cases e
    · rw [uR_nk z2]
      exact (A.2 x y e).2.2
  · rw [uR_ne z]
    exact (A.2 x y e).2.2
theorem gP_15 : ∀ q, q ∈ gP → ¬ (q.1 = 0 ∧ (q.2.1 = 15 ∨ q.2.1 = 16)) := by decide +kernel
/-- the two rules change places -/
def swR (h : av_H) (R S : Nat) : av_H := av_uR (av_uR h 0 15 (some R)) 0 16 (some S)
theorem WF_sw {h : av_H} {R S : Nat} (w : WF h) (hR : (R = 67 ∧ S = 72) ∨ (R = 72 ∧ S = 67)) : WF (swR h R S) := by
  obtain ⟨w1, w2, w3, w4⟩ := w
  refine ⟨w1, fun q hq => ?_, fun k hk => ?_, ?_⟩
  · have g := gP_15 q hq
    by_cases z : q.1 = 0
    · rw [swR, z, uR_nk (fun y => g ⟨z, Or.inr y⟩), uR_nk (fun y => g ⟨z, Or.inl y⟩), ← z]
      exact w2 q hq
    · rw [swR, uR_ne z, uR_ne z]
      exact w2 q hq
  · rw [swR, uR_ne (by decide), uR_ne (by decide)]
    exact w3 k hk
  · have a : (swR h R S).2.2.2 0 15 = some R := by rw [swR, uR_nk (by decide), uR_eq]
    have b : (swR h R S).2.2.2 0 16 = some S := by rw [swR, uR_eq]
    rw [a, b]
    rcases hR with ⟨rfl, rfl⟩ | ⟨rfl, rfl⟩
    · exact Or.inl ⟨rfl, rfl⟩
    · exact Or.inr ⟨rfl, rfl⟩
theorem Ru.C.fr' {u : Ru} {h h' : av_H} (J : u.C h) (e15 : h'.2.2.2 0 15 = h.2.2.2 0 15) (e : ∀ x k, (x = u.R ∨ x = u.R + 1 ∨ x = u.R + 2 ∨ x = u.R + 3) → h'.2.1 x k = h.2.1 x k) : u.C h' := by
  obtain ⟨h0, h1, h2, h3, h4, h5, h6, h7⟩ := J
  have e0 : ∀ k, h'.2.1 u.R k = h.2.1 u.R k := fun k => e _ k (by omega)
  have e1 : ∀ k, h'.2.1 (u.R + 1) k = h.2.1 (u.R + 1) k := fun k => e _ k (by omega)
  have e2 : ∀ k, h'.2.1 (u.R + 2) k = h.2.1 (u.R + 2) k := fun k => e _ k (by omega)
  have e3 : ∀ k, h'.2.1 (u.R + 3) k = h.2.1 (u.R + 3) k := fun k => e _ k (by omega)
  refine ⟨e15.trans h0, (e0 _).trans h1, (e0 _).trans h2, (e0 _).trans h3, (e0 _).trans h4, (e0 _).trans h5, fun P hP => (h6 P hP).fr e0 e1 e2 e3, fun j hj q => ?_⟩
  obtain ⟨b, b1, b2, b3⟩ := h7 j hj q
  exact ⟨b, b1, (e2 _).trans b2, (e3 _).trans b3⟩
theorem Ru.Q.fr' {u : Ru} {h h' : av_H} (o : u.ok) (J : u.Q h) (k : kpR h h') (A : agr (FP false [] [(137, 37), (137, 38), (137, 41)]) h h') : u.Q h' := by
  obtain ⟨h1, h2, h3, h4, h5, h6, h7, h8, h9⟩ := J
  obtain ⟨k1, k2, k3, k4⟩ := k
  have n0 := o.2.1
  have n1 := o.2.2.1
  refine ⟨(k2 0 (by decide)).trans h1, (k2 1 (by decide)).trans h2, (A.I rfl).trans h3, (A.I rfl).trans h4, (A.I rfl).trans h5, fun P hP => ?_, fun k hk => (k3 k (by omega)).trans (h7 k hk), fun k hk => (k3 (6 + k) (by omega)).trans (h8 k hk), fun j hj => (k4 j hj).trans (h9 j hj)⟩
  obtain ⟨q1, q2, q3⟩ := h6 P hP
  exact ⟨q1, fun i hi => ⟨(k1 _ (by omega)).1.trans (q2 i hi).1, fun z => (k1 _ (by omega)).2.trans ((q2 i hi).2 z)⟩, (k1 _ (by omega)).1.trans q3⟩
/-- what the class wrote, as the rule in force -/
theorem Ru.C.of {T : Nat → Nat} {hc0 h : av_H} {u : Ru} {m : Int32} {a len : Nat} (hl : len ≤ 1000) (L : LC T hc0 u m h a len) (e15 : h.2.2.2 0 15 = some u.R) : u.C h := by
  obtain ⟨w, A, c6, c7, c8, c9, ⟨l1, l2, l3, l4, l5, l6⟩, ⟨k1, k2⟩⟩ := L
  refine ⟨e15, l2, l3, l4, l5, l6, fun Q hQ => ?_, fun j hj q => ⟨0, by omega, ?_⟩⟩
  · obtain ⟨b, b1, b2, b3, b4⟩ := k1 Q hQ
    exact ⟨b, len, b1, hl, c9, b2, b3, b4⟩
  · exact k2 j hj q
theorem cX_off {R a k : Nat} (hR : R = 67 ∨ R = 72) (h : (!FP false [39, 40, 67, 68, 69, 70, 72, 73, 74, 75, 139, 140, 141, 161, 162, 163, 164, 165] [(0, 15), (0, 16), (37, 0), (37, 4), (37, 5), (37, 6), (37, 7), (37, 8), (37, 9), (137, 0), (137, 2), (137, 3), (137, 7), (137, 8), (137, 30), (137, 31), (137, 37), (137, 38), (137, 39), (137, 40), (137, 41), (137, 42)] a k) = true) : cX R a k = true := by
  rw [Bool.not_eq_true', ← Bool.not_eq_true] at h
  have n : ∀ x y, FP false [39, 40, 67, 68, 69, 70, 72, 73, 74, 75, 139, 140, 141, 161, 162, 163, 164, 165] [(0, 15), (0, 16), (37, 0), (37, 4), (37, 5), (37, 6), (37, 7), (37, 8), (37, 9), (137, 0), (137, 2), (137, 3), (137, 7), (137, 8), (137, 30), (137, 31), (137, 37), (137, 38), (137, 39), (137, 40), (137, 41), (137, 42)] x y = true → ¬ (a = x ∧ k = y) := fun x y q z => h (by rw [z.1, z.2]; exact q)
  have c : ∀ x, (∀ y, FP false [39, 40, 67, 68, 69, 70, 72, 73, 74, 75, 139, 140, 141, 161, 162, 163, 164, 165] [(0, 15), (0, 16), (37, 0), (37, 4), (37, 5), (37, 6), (37, 7), (37, 8), (37, 9), (137, 0), (137, 2), (137, 3), (137, 7), (137, 8), (137, 30), (137, 31), (137, 37), (137, 38), (137, 39), (137, 40), (137, 41), (137, 42)] x y = true) → a ≠ x := fun x q z => h (by rw [z]; exact q k)
  have c39 := c 39 (fun _ => rfl)
  have c40 := c 40 (fun _ => rfl)
  have c67 := c 67 (fun _ => rfl)
  have c68 := c 68 (fun _ => rfl)
  have c69 := c 69 (fun _ => rfl)
  have c70 := c 70 (fun _ => rfl)
  have c72 := c 72 (fun _ => rfl)
  have c73 := c 73 (fun _ => rfl)
  have c74 := c 74 (fun _ => rfl)
  have c75 := c 75 (fun _ => rfl)
  have n4 := n 37 4 rfl
  have n5 := n 37 5 rfl
  have n6 := n 37 6 rfl
  have n7 := n 37 7 rfl
  have n8 := n 37 8 rfl
  have n9 := n 37 9 rfl
  unfold cX cL cT
  simp only [Bool.and_eq_true, Bool.not_eq_true', Bool.or_eq_false_iff, Bool.and_eq_false_iff, beq_eq_false_iff_ne]
  rcases hR with rfl | rfl <;> omega
theorem cX_hi {R a k : Nat} (hR : R = 67 ∨ R = 72) (ha : 77 ≤ a ∨ a = 0) : cX R a k = true := by
  unfold cX cL cT
  simp only [Bool.and_eq_true, Bool.not_eq_true', Bool.or_eq_false_iff, Bool.and_eq_false_iff, beq_eq_false_iff_ne]
  rcases hR with rfl | rfl <;> omega
section
variable {X : av_X} {d : Nat} {h : av_H}
theorem rule_ok (w : WF h) (J : J_tp h) (W : J_wd h) (Ju : J_ru h) : ∃ v h1 h2, ev X (d + 43) 137 [vr (some 0)] h = av_rI v h1 ∧ ev X (d + 43) 274 [vr (some 137)] h1 = av_rI v h2 ∧ WF h2 ∧ J_tp h2 ∧ J_ru h2 ∧ off false [39, 40, 67, 68, 69, 70, 72, 73, 74, 75, 139, 140, 141, 161, 162, 163, 164, 165] [(0, 15), (0, 16), (37, 0), (37, 4), (37, 5), (37, 6), (37, 7), (37, 8), (37, 9), (137, 0), (137, 2), (137, 3), (137, 7), (137, 8), (137, 30), (137, 31), (137, 37), (137, 38), (137, 39), (137, 40), (137, 41), (137, 42)] h h2 := by
  obtain ⟨N, hN, t0, t2, _, tp⟩ := J
  obtain ⟨u, uo, uC, uQ⟩ := Ju
  -- the signs
  have hb : ∃ b : Nat → Nat, ∀ i, i < N → b i < 127 ∧ h.2.1 38 i = nI (b i) ∧ h.2.1 138 i = nI (b i) := by
    refine ⟨fun i => (h.2.1 38 i).toInt.toNat, fun i hi => ?_⟩
    obtain ⟨a1, c, c1, c2, c3⟩ := tp i hi
    have c3 : h.2.1 38 i = nI c := c3
    have a1 : h.2.1 38 i = h.2.1 138 i := a1
    have cc : (h.2.1 38 i).toInt.toNat = c := by rw [c3, toI_nI (by omega)]; rfl
    dsimp only
    rw [cc]
    refine ⟨?_, c3, a1 ▸ c3⟩
    rw [gdS, Bool.or_eq_true, decide_eq_true_eq, decide_eq_true_eq] at c2
    omega
  obtain ⟨b, hb⟩ := hb
  have G : gdT b N := ⟨hN, fun i hi => (hb i hi).1⟩
  obtain ⟨K, TW⟩ := tk_ok G
  -- the draft
  have dr : ∃ R S, ((R = 67 ∧ S = 72) ∨ (R = 72 ∧ S = 67)) ∧ h.2.2.2 0 15 = some S ∧ h.2.2.2 0 16 = some R := by
    rcases w.2.2.2 with ⟨a, b⟩ | ⟨a, b⟩
    · exact ⟨72, 67, Or.inr ⟨rfl, rfl⟩, a, b⟩
    · exact ⟨67, 72, Or.inl ⟨rfl, rfl⟩, a, b⟩
  obtain ⟨R, S, hRS, e15, e16⟩ := dr
  have hR : R = 67 ∨ R = 72 := by omega
  have uS : u.R = S := by
    have := uC.1
    rw [e15] at this
    exact (Option.some.inj this).symm
  obtain ⟨hc, c1, TCc, LCc, Ac⟩ := c_begin (X := X) (d := d) hR G w ⟨t0, fun i hi => (hb i hi).2.1⟩
  -- the reference on any heap that is as this one
  have fR : ∀ g, WF g → J_wd g → g.2.1 137 2 = nI N → (∀ i, i < N → g.2.1 138 i = nI (b i)) → ∃ hr, ev X (d + 43) 274 [vr (some 137)] g = bd X (d + 42) 274 39 [(0, vr (some 137))] [] hr ∧ RdR X (d + 2) (tkF b N) (cuts b N N 0).length hc hr R (bd X (d + 41) 70 21 [(0, vr (some 37)), (1, vr (some R)), (2, vi (nI 0))] [] hc) (bd X (d + 42) 274 39 [(0, vr (some 137))] [] hr) ∧ off false [139, 140, 141, 163, 165] [(137, 0), (137, 2), (137, 3), (137, 7), (137, 8), (137, 31), (137, 39), (137, 40), (137, 42)] g hr ∧ hr.2.1 137 2 = nI 0 ∧ (∀ j, j < 2 → hr.2.1 163 j = g.2.1 163 j) ∧ ∀ j, j < 3 → hr.2.1 165 j = g.2.1 165 j := fun g wg Wg g2 gt => by
    obtain ⟨hr, s1, TRr, LRr, Ar, r2, r3, r5⟩ := s_begin (X := X) (e := d + 2) (R := R) G wg Wg g2 gt
    exact ⟨hr, s1, rd_lp (X := X) (d := d) (e := d + 2) K TW TCc TRr (cuts b N N 0).length 0 0 0 0 (u00 R) false false hc hr (by omega) (by omega) (by omega) (by omega) (by omega) hR u00_ok LCc LRr, Ar, r2, r3, r5⟩
  -- the class
  have cRule : ev X (d + 43) 137 [vr (some 0)] h = (av_cI (bd X (d + 41) 70 21 [(0, vr (some 37)), (1, vr (some R)), (2, vi (nI 0))] [] hc)).bind fun q3 => if q3.1 = 0 then ((av_gR q3.2 (some 0) 10 15).bind fun x4 => (av_gR q3.2 (some 0) 10 16).bind fun x5 => (av_pR q3.2 (some 0) 10 15 x5).bind fun g6 => (av_pR g6 (some 0) 10 16 x4).bind fun g7 => av_rI q3.1 g7) else av_rI q3.1 q3.2 := by
    rw [e_137, b_137_0, gR_0_7 w, bS (k_gR (w.k (a := 0) rfl) 16), e16, is_37 w, c1]
  obtain ⟨_, _, O0, _⟩ := fR h w W t2 (fun i hi => (hb i hi).2.2)
  -- what stays behind the class
  have cLX : ∀ g, agr (cL R) hc g → agr (cX R) h g := fun g A => agr.tr Ac (agr.mono A (fun _ _ z => cX_L z))
  have cOff : ∀ g, agr (cX R) h g → off false [39, 40, 67, 68, 69, 70, 72, 73, 74, 75, 139, 140, 141, 161, 162, 163, 164, 165] [(0, 15), (0, 16), (37, 0), (37, 4), (37, 5), (37, 6), (37, 7), (37, 8), (37, 9), (137, 0), (137, 2), (137, 3), (137, 7), (137, 8), (137, 30), (137, 31), (137, 37), (137, 38), (137, 39), (137, 40), (137, 41), (137, 42)] h g := fun g A => agr.mono A (fun _ _ z => cX_off hR z)
  rcases O0 with ⟨u0, _, _, len0, c0, hc0, _, q1, q2, q3, q4, q5, _, q7, _⟩ | ⟨F0, hc0, _, q1, q2, q3, _, q5, _⟩
  · -- no fault: they change places
    have A0 := cLX hc0 (q1 ▸ q7.2.1)
    have A1 : agr (fun a k => cX R a k && !(a == 37 && k == 0)) h (av_uI hc0 37 0 0) := agr.uI (by simp [cX]) (agr.mono A0 (fun a k z => by rw [Bool.and_eq_true] at z; exact z.1))
    have w0 := q7.1
    have w1 : WF (av_uI hc0 37 0 0) := WF_uI w0
    have g15 : (av_uI hc0 37 0 0).2.2.2 0 15 = some S := (A0.R (by rcases hR with e | e <;> rw [e] <;> rfl)).trans e15
    have g16 : (av_uI hc0 37 0 0).2.2.2 0 16 = some R := (A0.R (by rcases hR with e | e <;> rw [e] <;> rfl)).trans e16
    have ws : WF (swR (av_uI hc0 37 0 0) R S) := WF_sw w1 hRS
    have cl : ev X (d + 43) 137 [vr (some 0)] h = av_rI (nI 0) (swR (av_uI hc0 37 0 0) R S) := by
      rw [cRule, q5, av_cI_r, Option.bind_some, if_pos (show nI 0 = 0 from rfl)]
      dsimp only
      rw [bS (k_gR (w1.k (a := 0) rfl) 15), g15, bS (k_gR (w1.k (a := 0) rfl) 16), g16, bS (k_pR (w1.k (a := 0) rfl) 15 _), bS (k_pR (show (av_uR (av_uI hc0 37 0 0) 0 15 (some R)).1[0]? = some (10, 0) from w1.k (a := 0) rfl) 16 _)]
      rfl
    have Os : off false [39, 40, 67, 68, 69, 70, 72, 73, 74, 75, 139, 140, 141, 161, 162, 163, 164, 165] [(0, 15), (0, 16), (37, 0), (37, 4), (37, 5), (37, 6), (37, 7), (37, 8), (37, 9), (137, 0), (137, 2), (137, 3), (137, 7), (137, 8), (137, 30), (137, 31), (137, 37), (137, 38), (137, 39), (137, 40), (137, 41), (137, 42)] h (swR (av_uI hc0 37 0 0) R S) := agr.uR rfl (agr.uR rfl (agr.uI rfl (cOff _ A0)))
    have As : agr (FP false [138, 142] [(137, 2)]) h (swR (av_uI hc0 37 0 0) R S) := by
      have z : agr (FP false [138, 142] [(137, 2)]) h hc0 := agr.mono A0 (fun a k z => by
        simp [FP] at z
        exact cX_hi hR (by omega))
      exact agr.uR rfl (agr.uR rfl (agr.uI rfl z))
    obtain ⟨hr, s1, O1, Ar, r2, r3, r5⟩ := fR _ ws (W.fr (As.sub (by decide))) ((As.I rfl).trans t2) (fun i hi => (As.I rfl).trans (hb i hi).2.2)
    rcases O1 with ⟨u1, rt1, dt1, len1, c1', hc1, hr1, p1, p2, p3, p4, p5, p6, p7, p8⟩ | ⟨F1, hc1, hr1, p1, p2, p3, _⟩
    · have he : av_uI hc0 37 0 0 = av_uI hc1 37 0 0 := by
        have := q5.symm.trans p5
        exact (Prod.mk.inj (Option.some.inj this)).2
      obtain ⟨h2, f2, w2, A2, Q2⟩ := s_takes (X := X) (d := d + 41) p2 p4 p8
      have r8 := p8.2.2.2.1
      have e8 : h2.2.1 137 8 = nI 0 := by
        have z : agr (FP false [] [(137, 8)]) hr1 h2 := A2.fr (by decide)
        exact (z.I rfl).trans r8
      have Arr : off false [161, 162, 163, 164, 165, 139, 140, 141] [(137, 0), (137, 2), (137, 3), (137, 7), (137, 8), (137, 30), (137, 31), (137, 37), (137, 38), (137, 39), (137, 40), (137, 41), (137, 42)] (swR (av_uI hc0 37 0 0) R S) h2 := agr.tr (Ar.up (by decide)) (agr.tr (off.up p8.2.1 (by decide)) (A2.up (by decide)))
      refine ⟨nI 0, _, h2, cl, ?_, w2, ?_, ⟨u1, ?_, ?_, Q2⟩, agr.tr Os (Arr.up (by decide))⟩
      · rw [s1, p6, b_274_54, gI_137_8 p8.1, r8, if_pos (show nI 0 = 0 from rfl), is_137 p8.1, f2, av_cV_r, Option.bind_some, gI_137_8 w2, e8]
      · refine ⟨0, Nat.zero_le _, ?_, ?_, rfl, fun i hi => absurd hi (Nat.not_lt_zero i)⟩
        · have z : agr (FP false [] [(37, 0)]) (swR (av_uI hc0 37 0 0) R S) h2 := Arr.fr (by decide)
          rw [z.I rfl]
          show (av_uI hc0 37 0 0).2.1 37 0 = 0
          exact uI_eq
        · have z : agr (FP false [] [(137, 2)]) hr h2 := agr.tr (off.fr p8.2.1 (by decide)) (A2.fr (by decide))
          exact (z.I rfl).trans r2
      · exact ⟨by rw [p1]; exact hR, p2.1, p2.2.1, p2.2.2.1, p2.2.2.2.1, p2.2.2.2.2.1⟩
      · have C1 : u1.C (swR (av_uI hc1 37 0 0) R S) := by
          have L1 : LC (tkF b N) hc1 u1 (oMu u1 rt1 dt1) hc1 (cuts b N N 0).length len1 := ⟨p7.1, agr.rfl, p7.2.2⟩
          have L2 : LC (tkF b N) (swR (av_uI hc1 37 0 0) R S) u1 (oMu u1 rt1 dt1) (swR (av_uI hc1 37 0 0) R S) (cuts b N N 0).length len1 := by
            have hR1 : u1.R = 67 ∨ u1.R = 72 := by rw [p1]; exact hR
            have ei : (swR (av_uI hc1 37 0 0) R S).2.1 = (av_uI hc1 37 0 0).2.1 := rfl
            obtain ⟨l0, l1, l2, l3, l4, l5, ⟨m1, m2, m3, m4, m5, m6⟩, l7⟩ := L1
            refine ⟨he ▸ ws, agr.rfl, ?_, ?_, ?_, ?_, ⟨?_, ?_, ?_, ?_, ?_, ?_⟩, ?_⟩
            · rw [ei, uI_nk (by decide)]; exact l2
            · rw [ei, uI_nk (by decide)]; exact l3
            · rw [ei, uI_nk (by decide)]; exact l4
            · rw [ei, uI_ne (by omega)]; exact l5
            · rw [ei, uI_nk (by decide)]; exact m1
            · rw [ei, uI_ne (by omega)]; exact m2
            · rw [ei, uI_ne (by omega)]; exact m3
            · rw [ei, uI_ne (by omega)]; exact m4
            · rw [ei, uI_ne (by omega)]; exact m5
            · rw [ei, uI_ne (by omega)]; exact m6
            · exact l7.cg (by rw [ei]; exact uI_ne (by omega)) (by rw [ei]; exact uI_ne (by omega)) (by rw [ei]; exact uI_ne (by omega))
          exact Ru.C.of p3 L2 (by rw [swR, uR_nk (by decide), uR_eq, p1])
        rw [← he] at C1
        refine C1.fr' ?_ (fun x k hx => ?_)
        · have z : agr (FP false [] [(0, 15)]) (swR (av_uI hc0 37 0 0) R S) h2 := Arr.fr (by decide)
          exact z.R rfl
        · have z : agr (FP false [67, 68, 69, 70, 72, 73, 74, 75] []) (swR (av_uI hc0 37 0 0) R S) h2 := Arr.fr (by decide)
          refine z.I ?_
          rw [p1] at hx
          rcases hR with rfl | rfl <;> rcases hx with rfl | rfl | rfl | rfl <;> rfl
    · have := q5.symm.trans p3
      have z := (Prod.mk.inj (Option.some.inj this)).1
      have z2 : nI 0 = nI F1 := by
        have := Option.some.inj (Option.some.inj z)
        exact Sum.inl.inj this
      have := (nI_eq (by omega) (by omega)).mp z2
      omega
  · -- a fault
    have A0 := cLX hc0 q5.2.1
    have w0 := q5.1
    have w1 : WF (av_uI hc0 37 0 0) := WF_uI w0
    have nz : ¬ nI F0 = 0 := fun q => absurd ((nI_eq (b := 0) (by omega) (by omega)).mp q) (by omega)
    have cl : ev X (d + 43) 137 [vr (some 0)] h = av_rI (nI F0) (av_uI hc0 37 0 0) := by
      rw [cRule, q3, av_cI_r, Option.bind_some, if_neg nz]
    have Os : off false [39, 40, 67, 68, 69, 70, 72, 73, 74, 75, 139, 140, 141, 161, 162, 163, 164, 165] [(0, 15), (0, 16), (37, 0), (37, 4), (37, 5), (37, 6), (37, 7), (37, 8), (37, 9), (137, 0), (137, 2), (137, 3), (137, 7), (137, 8), (137, 30), (137, 31), (137, 37), (137, 38), (137, 39), (137, 40), (137, 41), (137, 42)] h (av_uI hc0 37 0 0) := agr.uI rfl (cOff _ A0)
    have As : agr (FP false [138, 142, 161, 162, 163, 164, 165] [(137, 2), (137, 37), (137, 38), (137, 41), (0, 15)]) h (av_uI hc0 37 0 0) := by
      have z : agr (FP false [138, 142, 161, 162, 163, 164, 165] [(137, 2), (137, 37), (137, 38), (137, 41), (0, 15)]) h hc0 := agr.mono A0 (fun a k z => by
        simp [FP] at z
        exact cX_hi hR (by omega))
      exact agr.uI rfl z
    obtain ⟨hr, s1, O1, Ar, r2, r3, r5⟩ := fR _ w1 (W.fr (As.sub (by decide))) ((As.I rfl).trans t2) (fun i hi => (As.I rfl).trans (hb i hi).2.2)
    rcases O1 with ⟨u1, rt1, dt1, len1, c1', hc1, hr1, p1, p2, p3, p4, p5, _⟩ | ⟨F1, hc1, hr1, p1, p2, p3, p4, p5, p6⟩
    · have := q3.symm.trans p5
      have z := (Prod.mk.inj (Option.some.inj this)).1
      have z2 : nI F0 = nI 0 := by
        have := Option.some.inj (Option.some.inj z)
        exact Sum.inl.inj this
      exact absurd z2 nz
    · have := q3.symm.trans p3
      have z := (Prod.mk.inj (Option.some.inj this)).1
      have z2 : nI F0 = nI F1 := by
        have := Option.some.inj (Option.some.inj z)
        exact Sum.inl.inj this
      have fe := (nI_eq (by omega) (by omega)).mp z2
      obtain ⟨y0, y1, y2, y3⟩ := p6
      refine ⟨nI F0, _, hr1, cl, ?_, y0, ?_, ⟨u, uo, ?_, ?_⟩, agr.tr Os (agr.tr (Ar.up (by decide)) (off.up y1 (by decide)))⟩
      · rw [s1, p4, b_274_54, gI_137_8 y0, y3, ← fe, if_neg nz, gI_137_8 y0, y3, ← fe]
      · refine ⟨0, Nat.zero_le _, ?_, ?_, rfl, fun i hi => absurd hi (Nat.not_lt_zero i)⟩
        · have z : agr (FP false [] [(37, 0)]) (av_uI hc0 37 0 0) hr1 := agr.tr (Ar.fr (by decide)) (off.fr y1 (by decide))
          rw [z.I rfl]
          exact uI_eq
        · have z : agr (FP false [] [(137, 2)]) hr hr1 := off.fr y1 (by decide)
          exact (z.I rfl).trans r2
      · have z : agr (FP false [67, 68, 69, 70, 72, 73, 74, 75] [(0, 15)]) (av_uI hc0 37 0 0) hr1 := agr.tr (Ar.fr (by decide)) (off.fr y1 (by decide))
        refine uC.fr' ((z.R rfl).trans (As.R rfl)) (fun x k hx => ?_)
        have e1 : hr1.2.1 x k = (av_uI hc0 37 0 0).2.1 x k := z.I (by
          rw [uS] at hx
          rcases hRS with ⟨rfl, rfl⟩ | ⟨rfl, rfl⟩ <;> rcases hx with rfl | rfl | rfl | rfl <;> rfl)
        rw [e1, uI_ne (by omega)]
        refine A0.I ?_
        rw [uS] at hx
        rcases hRS with ⟨rfl, rfl⟩ | ⟨rfl, rfl⟩ <;> rcases hx with rfl | rfl | rfl | rfl <;> rfl
      · refine Ru.Q.fr' uo uQ ?_ (agr.tr (As.sub (by decide)) (agr.tr (Ar.fr (by decide)) (off.fr y1 (by decide))))
        obtain ⟨k1, k2, k3, k4⟩ := y2
        have a1 : agr (FP false [161, 162, 164] []) (av_uI hc0 37 0 0) hr := Ar.fr (by decide)
        refine ⟨fun j hj => ?_, fun j hj => ?_, fun j hj => ?_, fun j hj => ?_⟩
        · rw [(k1 j hj).1, (k1 j hj).2, a1.I rfl, a1.I rfl, As.I rfl, As.I rfl]
          exact ⟨rfl, rfl⟩
        · rw [k2 j hj, r3 j hj, As.I rfl]
        · rw [k3 j hj, a1.I rfl, As.I rfl]
        · rw [k4 j hj, r5 j hj, As.I rfl]
end
