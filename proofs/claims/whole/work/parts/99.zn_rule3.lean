/-! rule -/
def u00 (R : Nat) : Ru := (R, 0, 0, (fun _ _ => 0), (fun _ => 0), (fun _ => 0), (fun _ => false), 4, 30, false)
theorem u00_has {R Q : Nat} : ¬ (u00 R).has Q := by
  intro h
  rcases h with h | h | h
  · exact absurd h (Nat.not_lt_zero _)
  · have : Q < 6 + 0 := h.2
    have := h.1
    omega
  · have q : false = true := h.2.2
    cases q
theorem u00_ok {R : Nat} : okU (u00 R) false false := ⟨Nat.zero_le _, Nat.zero_le _, by show 1 ≤ 4 ∧ 4 ≤ 12; decide, by show 1 ≤ 30 ∧ 30 ≤ 99; decide, fun Q hQ => absurd hQ u00_has, fun _ => rfl, fun _ => rfl⟩
/-- tokens, places -/
def tkF (b : Nat → Nat) (N : Nat) (i : Nat) : Nat := ((cuts b N N 0).getD i (30001, N)).1
def plF (b : Nat → Nat) (N : Nat) (i : Nat) : Nat := ((cuts b N N 0).getD i (30001, N)).2
theorem getD_mem {l : List (Nat × Nat)} {x : Nat × Nat} : ∀ {i : Nat}, i < l.length → l.getD i x ∈ l := fun {i} hi => by
  rw [List.getD_eq_getElem?_getD, List.getElem?_eq_getElem hi]
  exact List.getElem_mem hi
theorem getD_end {l : List (Nat × Nat)} {x : Nat × Nat} : l.getD l.length x = x := by
  rw [List.getD_eq_getElem?_getD, List.getElem?_eq_none (Nat.le_refl _)]
  rfl
theorem tk_ok {b : Nat → Nat} {N : Nat} (G : gdT b N) : TK (tkF b N) (plF b N) (cuts b N N 0).length ∧ ∀ i, i ≤ (cuts b N N 0).length → tkF b N i < 20000 → tkF b N i < 10023 := by
  have n1 := G.1
  have cl := cuts_len (b := b) (N := N) N 0 (Nat.zero_le _)
  refine ⟨⟨by omega, ?_, fun i hi => ?_, fun i hi => ?_⟩, fun i hi => ?_⟩
  · rw [tkF, getD_end]
  · exact (cuts_in G.2 N 0 _ (getD_mem hi)).1
  · by_cases z : i = (cuts b N N 0).length
    · rw [z, plF, getD_end]
      exact n1
    · have := (cuts_in G.2 N 0 _ (getD_mem (x := (30001, N)) (show i < (cuts b N N 0).length by omega))).2.2
      show ((cuts b N N 0).getD i (30001, N)).2 ≤ 1000
      omega
  · by_cases z : i = (cuts b N N 0).length
    · rw [z, tkF, getD_end]
      intro q
      have q : 30001 < 20000 := q
      omega
    · exact (cuts_in G.2 N 0 _ (getD_mem (x := (30001, N)) (show i < (cuts b N N 0).length by omega))).2.1
/-- what the class's reading leaves -/
def cX (R a k : Nat) : Bool := cL R a k && cT a k
theorem cX_L {R a k : Nat} (h : cX R a k = true) : cL R a k = true := by rw [cX, Bool.and_eq_true] at h; exact h.1
theorem cX_T {R a k : Nat} (h : cX R a k = true) : cT a k = true := by rw [cX, Bool.and_eq_true] at h; exact h.2
section
variable {X : av_X} {d e : Nat} {b : Nat → Nat} {N : Nat}
theorem c_emp {R : Nat} (hR : R = 67 ∨ R = 72) {h : av_H} (w : WF h) : ∃ h', ev X (d + 2) 95 [vr (some R)] h = av_rV h' ∧ WF h' ∧ agr (cL R) h h' ∧ h'.2.1 R 9 = nI 0 ∧ h'.2.1 R 0 = nI 0 ∧ h'.2.1 R 1 = nI 0 ∧ h'.2.1 R 2 = nI 4 ∧ h'.2.1 R 3 = nI 30 ∧ h'.2.1 R 4 = bI false ∧ ∀ j, j < 15 → h'.2.1 (R + 2) j = 0 ∧ h'.2.1 (R + 3) j = 0 := by
  rcases hR with rfl | rfl
  · exact emp_67 w
  · exact emp_72 w
theorem c_begin {R : Nat} (hR : R = 67 ∨ R = 72) (G : gdT b N) {h : av_H} (w : WF h) (C : tpC b N h) : ∃ hc, ev X (d + 42) 70 [vr (some 37), vr (some R)] h = bd X (d + 41) 70 21 [(0, vr (some 37)), (1, vr (some R)), (2, vi (nI 0))] [] hc ∧ TC (tkF b N) (plF b N) (cuts b N N 0).length hc ∧ LC (tkF b N) hc (u00 R) (oMu (u00 R) false false) hc 0 0 ∧ agr (cX R) h hc := by
  have n1 := G.1
  have cl := cuts_len (b := b) (N := N) N 0 (Nat.zero_le _)
  obtain ⟨h1, e1, w1, A1, i9, i0, i1, i2, i3, i4, iz⟩ := c_emp (X := X) (d := d + 39) hR w
  have C1 : tpC b N h1 := by
    rcases hR with rfl | rfl
    · exact ⟨(A1.I rfl).trans C.1, fun i hi => (A1.I rfl).trans (C.2 i hi)⟩
    · exact ⟨(A1.I rfl).trans C.1, fun i hi => (A1.I rfl).trans (C.2 i hi)⟩
  have w2 : WF (av_uI h1 37 5 0) := WF_uI w1
  have w3 : WF (av_uI (av_uI h1 37 5 0) 37 4 0) := WF_uI w2
  have A3 : agr cT h1 (av_uI (av_uI h1 37 5 0) 37 4 0) := agr.uI rfl (agr.uI rfl agr.rfl)
  obtain ⟨h4, e4, w4, A4, f5, _, ft⟩ := c_cuts (X := X) (d := d + 36) G N 0 0 0 (av_uI (av_uI h1 37 5 0) 37 4 0) (by omega) (by omega) (by omega) (by omega) w3 (C1.fr A3) uI_eq (by rw [uI_nk (by decide), uI_eq]; rfl)
  have A14 : agr cT h1 h4 := agr.tr A3 A4
  have cut : ev X (d + 41) 71 [vr (some 37)] h1 = av_rV h4 := by
    rw [e_71, b_71_0, pI_37 w1, pI_37 w2]
    exact e4
  have w5 : WF (av_uI h4 37 6 0) := WF_uI w4
  have w6 : WF (av_uI (av_uI h4 37 6 0) 37 7 (nI (tkF b N 0))) := WF_uI w5
  have w7 : WF (av_uI (av_uI (av_uI h4 37 6 0) 37 7 (nI (tkF b N 0))) 37 8 0) := WF_uI w6
  have t0 : h4.2.1 39 0 = nI (tkF b N 0) := by
    have := (ft 0 (Nat.zero_le _)).1
    rw [Nat.zero_add] at this
    exact this
  have ld0 : ∀ {β : Type} (K : Int32 → Option β), (av_lI X (av_uI h4 37 6 0) (some 39) 0).bind K = K (nI (tkF b N 0)) := fun K => (ld_39 (j := 0) w5 (by omega) K).trans (by rw [uI_ne (by decide), t0])
  have cR : ∀ x k, (x = R ∨ x = R + 1 ∨ x = R + 2 ∨ x = R + 3) → h4.2.1 x k = h1.2.1 x k := fun x k hx => by
    refine A14.I ?_
    rcases hR with rfl | rfl <;> rcases hx with rfl | rfl | rfl | rfl <;> rfl
  have eR : ∀ x k, (x = R ∨ x = R + 1 ∨ x = R + 2 ∨ x = R + 3) → (av_uI (av_uI (av_uI (av_uI h4 37 6 0) 37 7 (nI (tkF b N 0))) 37 8 0) 37 9 0).2.1 x k = h1.2.1 x k := fun x k hx => by
    rw [uI_ne (by omega), uI_ne (by omega), uI_ne (by omega), uI_ne (by omega)]
    exact cR x k hx
  refine ⟨av_uI (av_uI (av_uI (av_uI h4 37 6 0) 37 7 (nI (tkF b N 0))) 37 8 0) 37 9 0, ?_, ⟨?_, fun i hi => ⟨?_, ?_⟩⟩, ⟨WF_uI w7, agr.rfl, ?_, ?_, ?_, ?_, ⟨uI_eq.trans (show (0 : Int32) = oM false false false false false false by decide), ?_, ?_, ?_, ?_, ?_⟩, ⟨fun Q hQ => absurd hQ u00_has, fun j hj _ => ⟨?_, ?_⟩⟩⟩, ?_⟩
  · rw [e_70, b_70_0, is_Rg hR w, e1, av_cV_r, Option.bind_some, is_37 w1, cut, av_cV_r, Option.bind_some, pI_37 w4, gR_37_2 w5, ld0, pI_37 w5, pI_37 w6, pI_37 w7]
    rfl
  · rw [uI_nk (by decide), uI_nk (by decide), uI_nk (by decide), uI_nk (by decide), f5, Nat.zero_add]
  · have := (ft i hi).1
    rw [Nat.zero_add] at this
    rw [uI_ne (by decide), uI_ne (by decide), uI_ne (by decide), uI_ne (by decide)]
    exact this
  · have := (ft i hi).2
    rw [Nat.zero_add] at this
    rw [uI_ne (by decide), uI_ne (by decide), uI_ne (by decide), uI_ne (by decide)]
    exact this
  · rw [uI_nk (by decide), uI_nk (by decide), uI_nk (by decide), uI_eq]
    rfl
  · rw [uI_nk (by decide), uI_nk (by decide), uI_eq]
  · rw [uI_nk (by decide), uI_eq]
  · exact (eR R 9 (Or.inl rfl)).trans i9
  · exact (eR R 0 (Or.inl rfl)).trans i0
  · exact (eR R 1 (Or.inl rfl)).trans i1
  · exact (eR R 2 (Or.inl rfl)).trans i2
  · exact (eR R 3 (Or.inl rfl)).trans i3
  · exact (eR R 4 (Or.inl rfl)).trans i4
  · exact (eR (R + 2) (12 + j) (by omega)).trans (iz (12 + j) (by omega)).1
  · exact (eR (R + 3) (12 + j) (by omega)).trans (iz (12 + j) (by omega)).2
  · have q : ∀ k, (k = 6 ∨ k = 7 ∨ k = 8 ∨ k = 9) → cX R 37 k = false := fun k hk => by rw [cX, cL_37 hk, Bool.false_and]
    exact agr.uI (q 9 (by omega)) (agr.uI (q 8 (by omega)) (agr.uI (q 7 (by omega)) (agr.uI (q 6 (by omega)) (agr.tr (agr.mono A1 (fun _ _ z => cX_L z)) (agr.mono A14 (fun _ _ z => cX_T z))))))
/-- what the reference's beginning leaves -/
def offB (h h' : av_H) : Prop := off false [139, 140, 141] [(137, 0), (137, 2), (137, 3), (137, 7), (137, 8), (137, 31), (137, 39), (137, 40), (137, 42)] h h'
theorem s_l36 : ∀ q k (h : av_H), k + q = 6 → 3 ≤ k → WF h → ∃ h', bd X d 274 20 [(0, vr (some 137)), (1, vi (nI k))] [] h = bd X d 274 20 [(0, vr (some 137)), (1, vi (nI 6))] [] h' ∧ WF h' ∧ off false [165] [] h h' ∧ (∀ j, j < k → h'.2.1 165 j = h.2.1 165 j) ∧ ∀ j, k ≤ j → j < 6 → h'.2.1 165 j = -1
  | 0, k, h, hk, h3, w => ⟨h, by rw [show k = 6 by omega], w, agr.rfl, fun _ _ => rfl, fun j h1 h2 => by omega⟩
  | q + 1, k, h, hk, h3, w => by
    obtain ⟨h', e1, w', A', r1, r2⟩ := s_l36 q (k + 1) (av_uI h 165 k (-1)) (by omega) (by omega) (WF_uI w)
    refine ⟨h', ?_, w', agr.tr (agr.uI rfl agr.rfl) A', fun j hj => ?_, fun j h1 h2 => ?_⟩
    · conv => lhs; rw [b_274_20]
      rw [if_pos (show nI k < 6 from nI_lt (b := 6) (by omega) (by omega)), gR_137_36 w, st_165 w (by omega), nI_1]
      exact e1
    · rw [r1 j (by omega), uI_nk (by omega)]
    · by_cases z : j = k
      · subst z
        rw [r1 j (by omega), uI_eq]
      · exact r2 j (by omega) h2
theorem s_begin {R : Nat} (G : gdT b N) {h : av_H} (w : WF h) (W : J_wd h) (t2 : h.2.1 137 2 = nI N) (tp : ∀ i, i < N → h.2.1 138 i = nI (b i)) : ∃ hr, ev X (e + 41) 274 [vr (some 137)] h = bd X (e + 40) 274 39 [(0, vr (some 137))] [] hr ∧ TR (tkF b N) (plF b N) (cuts b N N 0).length hr ∧ LR hr (u00 R) false false hr 0 0 ∧ off false [139, 140, 141, 163, 165] [(137, 0), (137, 2), (137, 3), (137, 7), (137, 8), (137, 31), (137, 39), (137, 40), (137, 42)] h hr ∧ hr.2.1 137 2 = nI 0 ∧ (∀ j, j < 2 → hr.2.1 163 j = h.2.1 163 j) ∧ ∀ j, j < 3 → hr.2.1 165 j = h.2.1 165 j := by
  have n1 := G.1
  have w1 : WF (av_uI h 137 0 0) := WF_uI w
  have w2 : WF (av_uI (av_uI h 137 0 0) 137 3 (nI N)) := WF_uI w1
  have w3 : WF (av_uI (av_uI (av_uI h 137 0 0) 137 3 (nI N)) 137 2 0) := WF_uI w2
  have A3 : off false [] [(137, 0), (137, 2), (137, 3)] h (av_uI (av_uI (av_uI h 137 0 0) 137 3 (nI N)) 137 2 0) := agr.uI rfl (agr.uI rfl (agr.uI rfl agr.rfl))
  have C3 : tpR b N (av_uI (av_uI (av_uI h 137 0 0) 137 3 (nI N)) 137 2 0) := ⟨by rw [uI_nk (by decide), uI_eq], fun i hi => by rw [uI_ne (by decide), uI_ne (by decide), uI_ne (by decide)]; exact tp i hi⟩
  obtain ⟨h4, e4, w4, A4, f7, f8, _, ft⟩ := s_cuts (X := X) (d := e + 37) G N 0 0 _ (by omega) (by omega) (by omega) w3 C3 (W.fr (A3.fr (by decide)))
  have e142 : (av_uI (av_uI (av_uI h 137 0 0) 137 3 (nI N)) 137 2 0).2.2.1 142 = h4.2.2.1 142 := by
    have z : agr (FP false [142] []) (av_uI (av_uI (av_uI h 137 0 0) 137 3 (nI N)) 137 2 0) h4 := off.fr A4 (by decide)
    funext q
    exact (z.L rfl).symm
  rw [e142] at ft
  have T4 : TR (tkF b N) (plF b N) (cuts b N N 0).length h4 := fun i hi => by
    have := ft i hi
    rw [Nat.zero_add] at this
    exact this
  have w5 : WF (av_uI h4 137 31 0) := WF_uI w4
  have w6 : WF (av_uI (av_uI h4 137 31 0) 163 2 0) := WF_uI w5
  have w7 : WF (av_uI (av_uI (av_uI h4 137 31 0) 163 2 0) 163 3 0) := WF_uI w6
  obtain ⟨h8, e8, w8, A8, p8, p8'⟩ := s_l36 (X := X) (d := e + 40) 3 3 (av_uI (av_uI (av_uI h4 137 31 0) 163 2 0) 163 3 0) (by omega) (by omega) w7
  have w9 : WF (av_uI h8 137 39 (-1)) := WF_uI w8
  have w10 : WF (av_uI (av_uI h8 137 39 (-1)) 137 40 (-1)) := WF_uI w9
  have a8 : agr (FP false [137, 138, 139, 140, 141, 142, 163] []) (av_uI (av_uI (av_uI h4 137 31 0) 163 2 0) 163 3 0) h8 := off.fr A8 (by decide)
  have a4 : agr (FP false [163, 165] [(137, 2)]) (av_uI (av_uI (av_uI h 137 0 0) 137 3 (nI N)) 137 2 0) h4 := off.fr A4 (by decide)
  have e163 : ∀ j, j < 2 → h8.2.1 163 j = h.2.1 163 j := fun j hj => by rw [a8.I rfl, uI_nk (by omega), uI_nk (by omega), uI_ne (by decide), a4.I rfl, uI_ne (by decide), uI_ne (by decide), uI_ne (by decide)]
  have e165 : ∀ j, j < 3 → h8.2.1 165 j = h.2.1 165 j := fun j hj => by rw [p8 j hj, uI_ne (by decide), uI_ne (by decide), uI_ne (by decide), a4.I rfl, uI_ne (by decide), uI_ne (by decide), uI_ne (by decide)]
  have e137 : ∀ j, j ≠ 31 → h8.2.1 137 j = h4.2.1 137 j := fun j hj => by rw [a8.I rfl, uI_ne (by decide), uI_ne (by decide), uI_nk hj]
  have fz : ∀ x, x ≠ 137 → (av_uI (av_uI (av_uI h8 137 39 (-1)) 137 40 (-1)) 137 42 (bI false)).2.1 x = h8.2.1 x := fun x hx => by rw [uI_ne hx, uI_ne hx, uI_ne hx]
  have fy : ∀ j, j ≠ 39 → j ≠ 40 → j ≠ 42 → (av_uI (av_uI (av_uI h8 137 39 (-1)) 137 40 (-1)) 137 42 (bI false)).2.1 137 j = h8.2.1 137 j := fun j h1 h2 h3 => by rw [uI_nk h3, uI_nk h2, uI_nk h1]
  have A48 : off false [163, 165] [(137, 31), (137, 39), (137, 40), (137, 42)] h4 (av_uI (av_uI (av_uI h8 137 39 (-1)) 137 40 (-1)) 137 42 (bI false)) := agr.uI rfl (agr.uI rfl (agr.uI rfl (agr.tr (agr.uI rfl (agr.uI rfl (agr.uI rfl agr.rfl))) (A8.up (by decide)))))
  refine ⟨av_uI (av_uI (av_uI h8 137 39 (-1)) 137 40 (-1)) 137 42 (bI false), ?_, T4.fr (A48.fr (by decide)), ⟨WF_uI w10, agr.rfl, ?_, ?_, ?_, ⟨fun _ _ => ⟨rfl, rfl⟩, fun _ _ => rfl, fun _ _ => rfl, fun _ _ => rfl⟩, ⟨?_, ?_, ?_, ?_, uI_eq⟩, ⟨fun Q hQ => absurd hQ u00_has, fun k hk => absurd hk (Nat.not_lt_zero k), fun k hk => absurd hk (Nat.not_lt_zero k), fun j hj => ?_⟩⟩, ?_, ?_, fun j hj => ?_, fun j hj => ?_⟩
  · have cut : ev X (e + 40) 244 [vr (some 137)] (av_uI h 137 0 0) = av_rV h4 := by
      rw [e_244, b_244_0, gI_137_2 w1, uI_nk (by decide), t2, pI_137 w1, pI_137 w2]
      exact e4
    rw [e_274, b_274_0, pI_137 w, is_137 w1, cut, av_cV_r, Option.bind_some, pI_137 w4, gR_137_34 w5, show (2 : Int32) = nI 2 from rfl, st_163 w5 (by omega), gR_137_34 w6, show (3 : Int32) = nI 3 from rfl, st_163 w6 (by omega), e8, b_274_20, if_neg (show ¬ nI 6 < 6 by decide), pI_137 w8, pI_137 w9]
    exact pZ_137 w10 42 false _
  · rw [fy 7 (by decide) (by decide) (by decide), e137 7 (by decide), f7]
    rfl
  · rw [fy 8 (by decide) (by decide) (by decide), e137 8 (by decide), f8]
    rfl
  · rw [fy 31 (by decide) (by decide) (by decide), a8.I rfl, uI_ne (by decide), uI_ne (by decide), uI_eq]
    rfl
  · rw [fz 163 (by decide), a8.I rfl, uI_nk (by decide), uI_eq]
    rfl
  · rw [fz 163 (by decide), a8.I rfl, uI_eq]
    rfl
  · rw [uI_nk (by decide), uI_nk (by decide), uI_eq]
    rfl
  · rw [uI_nk (by decide), uI_eq]
    rfl
  · rw [fz 165 (by decide), p8' (3 + j) (by omega) (by omega)]
    rfl
  · exact agr.tr (A3.up (by decide)) (agr.tr (off.up A4 (by decide)) (A48.up (by decide)))
  · rw [fy 2 (by decide) (by decide) (by decide), e137 2 (by decide), a4.I rfl, uI_eq]
    rfl
  · rw [fz 163 (by decide)]
    exact e163 j hj
  · rw [fz 165 (by decide)]
    exact e165 j hj
end
