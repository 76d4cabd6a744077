/-! the reader: an empty draft, and what the reference takes over -/
section
variable {X : av_X} {d e : Nat}
theorem fil_69 {v : Int32} : ∀ q i (h : av_H), i + q = 15 → WF h → (∀ j, j < i → h.2.1 69 j = v) → ∃ h', bd X d 383 5 [(0, vr (some 69)), (1, vi v), (2, vi (nI i)), (3, vi (nI 15))] [] h = av_rV h' ∧ WF h' ∧ off false [69] [] h h' ∧ ∀ j, j < 15 → h'.2.1 69 j = v
  | 0, i, h, hi, w, hv => ⟨h, by rw [b_383_5, if_neg (nI_nlt (by omega) (by omega))], w, agr.rfl, fun j hj => hv j (by omega)⟩
  | q + 1, i, h, hi, w, hv => by
    obtain ⟨h', e1, w', A', r⟩ := fil_69 (v := v) q (i + 1) (av_uI h 69 i v) (by omega) (WF_uI w) (fun j hj => by
      by_cases z : j = i
      · rw [z, uI_eq]
      · rw [uI_nk z]; exact hv j (by omega))
    refine ⟨h', ?_, w', agr.tr (agr.uI rfl agr.rfl) A', r⟩
    rw [b_383_5, if_pos (nI_lt (by omega) (by omega)), st_69 w (by omega), nI_1]
    exact e1
theorem fil_70 {v : Int32} : ∀ q i (h : av_H), i + q = 15 → WF h → (∀ j, j < i → h.2.1 70 j = v) → ∃ h', bd X d 383 5 [(0, vr (some 70)), (1, vi v), (2, vi (nI i)), (3, vi (nI 15))] [] h = av_rV h' ∧ WF h' ∧ off false [70] [] h h' ∧ ∀ j, j < 15 → h'.2.1 70 j = v
  | 0, i, h, hi, w, hv => ⟨h, by rw [b_383_5, if_neg (nI_nlt (by omega) (by omega))], w, agr.rfl, fun j hj => hv j (by omega)⟩
  | q + 1, i, h, hi, w, hv => by
    obtain ⟨h', e1, w', A', r⟩ := fil_70 (v := v) q (i + 1) (av_uI h 70 i v) (by omega) (WF_uI w) (fun j hj => by
      by_cases z : j = i
      · rw [z, uI_eq]
      · rw [uI_nk z]; exact hv j (by omega))
    refine ⟨h', ?_, w', agr.tr (agr.uI rfl agr.rfl) A', r⟩
    rw [b_383_5, if_pos (nI_lt (by omega) (by omega)), st_70 w (by omega), nI_1]
    exact e1
theorem fil_74 {v : Int32} : ∀ q i (h : av_H), i + q = 15 → WF h → (∀ j, j < i → h.2.1 74 j = v) → ∃ h', bd X d 383 5 [(0, vr (some 74)), (1, vi v), (2, vi (nI i)), (3, vi (nI 15))] [] h = av_rV h' ∧ WF h' ∧ off false [74] [] h h' ∧ ∀ j, j < 15 → h'.2.1 74 j = v
  | 0, i, h, hi, w, hv => ⟨h, by rw [b_383_5, if_neg (nI_nlt (by omega) (by omega))], w, agr.rfl, fun j hj => hv j (by omega)⟩
  | q + 1, i, h, hi, w, hv => by
    obtain ⟨h', e1, w', A', r⟩ := fil_74 (v := v) q (i + 1) (av_uI h 74 i v) (by omega) (WF_uI w) (fun j hj => by
      by_cases z : j = i
      · rw [z, uI_eq]
      · rw [uI_nk z]; exact hv j (by omega))
    refine ⟨h', ?_, w', agr.tr (agr.uI rfl agr.rfl) A', r⟩
    rw [b_383_5, if_pos (nI_lt (by omega) (by omega)), st_74 w (by omega), nI_1]
    exact e1
theorem fil_75 {v : Int32} : ∀ q i (h : av_H), i + q = 15 → WF h → (∀ j, j < i → h.2.1 75 j = v) → ∃ h', bd X d 383 5 [(0, vr (some 75)), (1, vi v), (2, vi (nI i)), (3, vi (nI 15))] [] h = av_rV h' ∧ WF h' ∧ off false [75] [] h h' ∧ ∀ j, j < 15 → h'.2.1 75 j = v
  | 0, i, h, hi, w, hv => ⟨h, by rw [b_383_5, if_neg (nI_nlt (by omega) (by omega))], w, agr.rfl, fun j hj => hv j (by omega)⟩
  | q + 1, i, h, hi, w, hv => by
    obtain ⟨h', e1, w', A', r⟩ := fil_75 (v := v) q (i + 1) (av_uI h 75 i v) (by omega) (WF_uI w) (fun j hj => by
      by_cases z : j = i
      · rw [z, uI_eq]
      · rw [uI_nk z]; exact hv j (by omega))
    refine ⟨h', ?_, w', agr.tr (agr.uI rfl agr.rfl) A', r⟩
    rw [b_383_5, if_pos (nI_lt (by omega) (by omega)), st_75 w (by omega), nI_1]
    exact e1
theorem emp_67 {h : av_H} (w : WF h) : ∃ h', ev X (d + 2) 95 [vr (some 67)] h = av_rV h' ∧ WF h' ∧ agr (cL 67) h h' ∧ h'.2.1 67 9 = nI 0 ∧ h'.2.1 67 0 = nI 0 ∧ h'.2.1 67 1 = nI 0 ∧ h'.2.1 67 2 = nI 4 ∧ h'.2.1 67 3 = nI 30 ∧ h'.2.1 67 4 = bI false ∧ ∀ j, j < 15 → h'.2.1 69 j = 0 ∧ h'.2.1 70 j = 0 := by
  have w1 : WF (av_uI h 67 9 0) := WF_uI w
  obtain ⟨h2, e2, w2, A2, r2⟩ := fil_69 (X := X) (d := d) (v := 0) 15 0 (av_uI h 67 9 0) (by omega) w1 (fun j hj => absurd hj (Nat.not_lt_zero j))
  obtain ⟨h3, e3, w3, A3, r3⟩ := fil_70 (X := X) (d := d) (v := 0) 15 0 h2 (by omega) w2 (fun j hj => absurd hj (Nat.not_lt_zero j))
  have A2' : agr (FP false [67] []) (av_uI h 67 9 0) h2 := off.fr A2 (by decide)
  have A3' : agr (FP false [67, 69] []) h2 h3 := off.fr A3 (by decide)
  have B1 : agr (cL 67) h (av_uI h 67 9 0) := agr.uI rfl agr.rfl
  have B2 : agr (cL 67) (av_uI h 67 9 0) h2 := agr.mono A2 (fun a k z => by
    by_cases y : a = 69
    · rw [y] at z; exact absurd z (by simp [cL])
    · simp [FP, y])
  have B3 : agr (cL 67) h2 h3 := agr.mono A3 (fun a k z => by
    by_cases y : a = 70
    · rw [y] at z; exact absurd z (by simp [cL])
    · simp [FP, y])
  have v0 : WF (av_uI h3 67 0 0) := WF_uI w3
  have v1 : WF (av_uI (av_uI h3 67 0 0) 67 1 0) := WF_uI v0
  have v2 : WF (av_uI (av_uI (av_uI h3 67 0 0) 67 1 0) 67 2 4) := WF_uI v1
  have v3 : WF (av_uI (av_uI (av_uI (av_uI h3 67 0 0) 67 1 0) 67 2 4) 67 3 30) := WF_uI v2
  refine ⟨av_uI (av_uI (av_uI (av_uI (av_uI h3 67 0 0) 67 1 0) 67 2 4) 67 3 30) 67 4 (bI false), ?_, WF_uI v3, agr.uI rfl (agr.uI rfl (agr.uI rfl (agr.uI rfl (agr.uI rfl (agr.tr B1 (agr.tr B2 B3)))))), ?_, ?_, ?_, ?_, ?_, uI_eq, fun j hj => ⟨?_, ?_⟩⟩
  · rw [e_95, b_95_0, pI_67 w, gR_67_6 w1, e_383, b_383_0, bS (k_len (w1.k (a := 69) rfl) (by decide)), show bd X d 383 5 [(0, vr (some 69)), (1, vi 0), (2, vi 0), (3, vi _)] [] (av_uI h 67 9 0) = _ from e2, av_cV_r, Option.bind_some, gR_67_7 w2, e_383, b_383_0, bS (k_len (w2.k (a := 70) rfl) (by decide)), show bd X d 383 5 [(0, vr (some 70)), (1, vi 0), (2, vi 0), (3, vi _)] [] h2 = _ from e3, av_cV_r, Option.bind_some, pI_67 w3, pI_67 v0, pI_67 v1, pI_67 v2]
    exact pZ_67 v3 4 false _
  · rw [uI_nk (by decide), uI_nk (by decide), uI_nk (by decide), uI_nk (by decide), uI_nk (by decide), A3'.I rfl, A2'.I rfl, uI_eq]
    rfl
  · rw [uI_nk (by decide), uI_nk (by decide), uI_nk (by decide), uI_nk (by decide), uI_eq]
    rfl
  · rw [uI_nk (by decide), uI_nk (by decide), uI_nk (by decide), uI_eq]
    rfl
  · rw [uI_nk (by decide), uI_nk (by decide), uI_eq]
    rfl
  · rw [uI_nk (by decide), uI_eq]
    rfl
  · rw [uI_ne (by decide), uI_ne (by decide), uI_ne (by decide), uI_ne (by decide), uI_ne (by decide), A3'.I rfl]
    exact r2 j hj
  · rw [uI_ne (by decide), uI_ne (by decide), uI_ne (by decide), uI_ne (by decide), uI_ne (by decide)]
    exact r3 j hj
theorem emp_72 {h : av_H} (w : WF h) : ∃ h', ev X (d + 2) 95 [vr (some 72)] h = av_rV h' ∧ WF h' ∧ agr (cL 72) h h' ∧ h'.2.1 72 9 = nI 0 ∧ h'.2.1 72 0 = nI 0 ∧ h'.2.1 72 1 = nI 0 ∧ h'.2.1 72 2 = nI 4 ∧ h'.2.1 72 3 = nI 30 ∧ h'.2.1 72 4 = bI false ∧ ∀ j, j < 15 → h'.2.1 74 j = 0 ∧ h'.2.1 75 j = 0 := by
  have w1 : WF (av_uI h 72 9 0) := WF_uI w
  obtain ⟨h2, e2, w2, A2, r2⟩ := fil_74 (X := X) (d := d) (v := 0) 15 0 (av_uI h 72 9 0) (by omega) w1 (fun j hj => absurd hj (Nat.not_lt_zero j))
  obtain ⟨h3, e3, w3, A3, r3⟩ := fil_75 (X := X) (d := d) (v := 0) 15 0 h2 (by omega) w2 (fun j hj => absurd hj (Nat.not_lt_zero j))
  have A2' : agr (FP false [72] []) (av_uI h 72 9 0) h2 := off.fr A2 (by decide)
  have A3' : agr (FP false [72, 74] []) h2 h3 := off.fr A3 (by decide)
  have B1 : agr (cL 72) h (av_uI h 72 9 0) := agr.uI rfl agr.rfl
  have B2 : agr (cL 72) (av_uI h 72 9 0) h2 := agr.mono A2 (fun a k z => by
    by_cases y : a = 74
    · rw [y] at z; exact absurd z (by simp [cL])
    · simp [FP, y])
  have B3 : agr (cL 72) h2 h3 := agr.mono A3 (fun a k z => by
    by_cases y : a = 75
    · rw [y] at z; exact absurd z (by simp [cL])
    · simp [FP, y])
  have v0 : WF (av_uI h3 72 0 0) := WF_uI w3
  have v1 : WF (av_uI (av_uI h3 72 0 0) 72 1 0) := WF_uI v0
  have v2 : WF (av_uI (av_uI (av_uI h3 72 0 0) 72 1 0) 72 2 4) := WF_uI v1
  have v3 : WF (av_uI (av_uI (av_uI (av_uI h3 72 0 0) 72 1 0) 72 2 4) 72 3 30) := WF_uI v2
  refine ⟨av_uI (av_uI (av_uI (av_uI (av_uI h3 72 0 0) 72 1 0) 72 2 4) 72 3 30) 72 4 (bI false), ?_, WF_uI v3, agr.uI rfl (agr.uI rfl (agr.uI rfl (agr.uI rfl (agr.uI rfl (agr.tr B1 (agr.tr B2 B3)))))), ?_, ?_, ?_, ?_, ?_, uI_eq, fun j hj => ⟨?_, ?_⟩⟩
  · rw [e_95, b_95_0, pI_72 w, gR_72_6 w1, e_383, b_383_0, bS (k_len (w1.k (a := 74) rfl) (by decide)), show bd X d 383 5 [(0, vr (some 74)), (1, vi 0), (2, vi 0), (3, vi _)] [] (av_uI h 72 9 0) = _ from e2, av_cV_r, Option.bind_some, gR_72_7 w2, e_383, b_383_0, bS (k_len (w2.k (a := 75) rfl) (by decide)), show bd X d 383 5 [(0, vr (some 75)), (1, vi 0), (2, vi 0), (3, vi _)] [] h2 = _ from e3, av_cV_r, Option.bind_some, pI_72 w3, pI_72 v0, pI_72 v1, pI_72 v2]
    exact pZ_72 v3 4 false _
  · rw [uI_nk (by decide), uI_nk (by decide), uI_nk (by decide), uI_nk (by decide), uI_nk (by decide), A3'.I rfl, A2'.I rfl, uI_eq]
    rfl
  · rw [uI_nk (by decide), uI_nk (by decide), uI_nk (by decide), uI_nk (by decide), uI_eq]
    rfl
  · rw [uI_nk (by decide), uI_nk (by decide), uI_nk (by decide), uI_eq]
    rfl
  · rw [uI_nk (by decide), uI_nk (by decide), uI_eq]
    rfl
  · rw [uI_nk (by decide), uI_eq]
    rfl
  · rw [uI_ne (by decide), uI_ne (by decide), uI_ne (by decide), uI_ne (by decide), uI_ne (by decide), A3'.I rfl]
    exact r2 j hj
  · rw [uI_ne (by decide), uI_ne (by decide), uI_ne (by decide), uI_ne (by decide), uI_ne (by decide)]
    exact r3 j hj
/-- the codes, copied -/
theorem tk_cp {c : Nat} (hc : c ≤ 1000) : ∀ q k (h : av_H), k + q = c → WF h → h.2.1 137 30 = nI c → ∃ h', bd X d 275 6 [(0, vr (some 137)), (1, vi (nI k))] [] h = bd X d 275 34 [(0, vr (some 137)), (1, vi (nI 0))] [] h' ∧ WF h' ∧ off false [161, 162] [] h h' ∧ (∀ j, (j < k ∨ c ≤ j) → h'.2.1 161 j = h.2.1 161 j ∧ h'.2.1 162 j = h.2.1 162 j) ∧ ∀ j, k ≤ j → j < c → h'.2.1 161 j = h.2.1 161 (1100 + j) ∧ h'.2.1 162 j = h.2.1 162 (1100 + j)
  | 0, k, h, hk, w, e30 => ⟨h, by rw [b_275_6, gI_137_30 w, e30, if_neg (nI_nlt (by omega) (by omega))]; rfl, w, agr.rfl, fun _ _ => ⟨rfl, rfl⟩, fun j h1 h2 => by omega⟩
  | q + 1, k, h, hk, w, e30 => by
    have w1 : WF (av_uI h 161 k (h.2.1 161 (1100 + k))) := WF_uI w
    have w2 : WF (av_uI (av_uI h 161 k (h.2.1 161 (1100 + k))) 162 k (h.2.1 162 (1100 + k))) := WF_uI w1
    obtain ⟨h', e1, w', A', r1, r2⟩ := tk_cp hc q (k + 1) (av_uI (av_uI h 161 k (h.2.1 161 (1100 + k))) 162 k (h.2.1 162 (1100 + k))) (by omega) w2 (by rw [uI_ne (by decide), uI_ne (by decide)]; exact e30)
    refine ⟨h', ?_, w', agr.tr (agr.uI rfl (agr.uI rfl agr.rfl)) A', fun j hj => ?_, fun j h1 h2 => ?_⟩
    · rw [b_275_6, gI_137_30 w, e30, if_pos (nI_lt (by omega) (by omega)), gR_137_32 w, gR_137_32 w, show (1100 : Int32) = nI 1100 from rfl, nI_add, ld_161 w (by omega), st_161 w (by omega), gR_137_33 w1, gR_137_33 w1, ld_162 w1 (by omega), uI_ne (by decide), st_162 w1 (by omega), nI_1]
      exact e1
    · obtain ⟨a1, a2⟩ := r1 j (by omega)
      rw [uI_ne (by decide), uI_nk (by omega)] at a1
      rw [uI_nk (by omega), uI_ne (by decide)] at a2
      exact ⟨a1, a2⟩
    · by_cases z : j = k
      · subst z
        obtain ⟨a1, a2⟩ := r1 j (by omega)
        rw [uI_ne (by decide), uI_eq] at a1
        rw [uI_eq] at a2
        exact ⟨a1, a2⟩
      · obtain ⟨a1, a2⟩ := r2 j (by omega) h2
        rw [uI_ne (by decide), uI_nk (by omega)] at a1
        rw [uI_nk (by omega), uI_ne (by decide)] at a2
        exact ⟨a1, a2⟩
theorem tk_l2 : ∀ q k (h : av_H), k + q = 12 → WF h → ∃ h', bd X d 275 34 [(0, vr (some 137)), (1, vi (nI k))] [] h = bd X d 275 51 [(0, vr (some 137)), (1, vi (nI 0))] [] h' ∧ WF h' ∧ off false [164] [] h h' ∧ (∀ j, (j < k ∨ 12 ≤ j) → h'.2.1 164 j = h.2.1 164 j) ∧ ∀ j, k ≤ j → j < 12 → h'.2.1 164 j = h.2.1 164 (12 + j)
  | 0, k, h, hk, w => ⟨h, by rw [b_275_34, if_neg (show ¬ nI k < 12 from nI_nlt (b := 12) (by omega) (by omega))]; rfl, w, agr.rfl, fun _ _ => rfl, fun j h1 h2 => by omega⟩
  | q + 1, k, h, hk, w => by
    have w1 : WF (av_uI h 164 k (h.2.1 164 (12 + k))) := WF_uI w
    obtain ⟨h', e1, w', A', r1, r2⟩ := tk_l2 q (k + 1) (av_uI h 164 k (h.2.1 164 (12 + k))) (by omega) w1
    refine ⟨h', ?_, w', agr.tr (agr.uI rfl agr.rfl) A', fun j hj => ?_, fun j h1 h2 => ?_⟩
    · rw [b_275_34, if_pos (show nI k < 12 from nI_lt (b := 12) (by omega) (by omega)), gR_137_35 w, gR_137_35 w, show (12 : Int32) = nI 12 from rfl, nI_add, ld_164 w (by omega), st_164 w (by omega), nI_1]
      exact e1
    · rw [r1 j (by omega), uI_nk (by omega)]
    · by_cases z : j = k
      · subst z
        rw [r1 j (by omega), uI_eq]
      · rw [r2 j (by omega) h2, uI_nk (by omega)]
theorem tk_l3 : ∀ q k (h : av_H), k + q = 3 → WF h → ∃ h', bd X d 275 51 [(0, vr (some 137)), (1, vi (nI k))] [] h = bd X d 275 51 [(0, vr (some 137)), (1, vi (nI 3))] [] h' ∧ WF h' ∧ off false [165] [] h h' ∧ (∀ j, (j < k ∨ 3 ≤ j) → h'.2.1 165 j = h.2.1 165 j) ∧ ∀ j, k ≤ j → j < 3 → h'.2.1 165 j = h.2.1 165 (3 + j)
  | 0, k, h, hk, w => ⟨h, by rw [show k = 3 by omega], w, agr.rfl, fun _ _ => rfl, fun j h1 h2 => by omega⟩
  | q + 1, k, h, hk, w => by
    have w1 : WF (av_uI h 165 k (h.2.1 165 (3 + k))) := WF_uI w
    obtain ⟨h', e1, w', A', r1, r2⟩ := tk_l3 q (k + 1) (av_uI h 165 k (h.2.1 165 (3 + k))) (by omega) w1
    refine ⟨h', ?_, w', agr.tr (agr.uI rfl agr.rfl) A', fun j hj => ?_, fun j h1 h2 => ?_⟩
    · conv => lhs; rw [b_275_51]
      rw [if_pos (show nI k < 3 from nI_lt (b := 3) (by omega) (by omega)), gR_137_36 w, gR_137_36 w, show (3 : Int32) = nI 3 from rfl, nI_add, ld_165 w (by omega), st_165 w (by omega), nI_1]
      exact e1
    · rw [r1 j (by omega), uI_nk (by omega)]
    · by_cases z : j = k
      · subst z
        rw [r1 j (by omega), uI_eq]
      · rw [r2 j (by omega) h2, uI_nk (by omega)]
/-- the draft becomes the reference's rule -/
theorem s_takes {hr0 : av_H} {u : Ru} {rt dt : Bool} {h : av_H} {a c : Nat} (o : okU u rt dt) (hc : c ≤ 1000) (M : LR hr0 u rt dt h a c) : ∃ h', ev X (d + 1) 275 [vr (some 137)] h = av_rV h' ∧ WF h' ∧ off false [161, 162, 163, 164, 165] [(137, 30), (137, 37), (137, 38), (137, 41)] h h' ∧ u.Q h' := by
  obtain ⟨w, A, r7, r8, r31, kp, ⟨f1, f2, f3, f4, f5⟩, ⟨k1, k2, k3, k4⟩⟩ := M
  have w0 : WF (av_uI h 137 30 (nI c)) := WF_uI w
  obtain ⟨h1, e1, w1, A1, p1, p1'⟩ := tk_cp (X := X) (d := d) hc c 0 (av_uI h 137 30 (nI c)) (by omega) w0 uI_eq
  obtain ⟨h2, e2, w2, A2, p2, p2'⟩ := tk_l2 (X := X) (d := d) 12 0 h1 (by omega) w1
  obtain ⟨h3, e3, w3, A3, p3, p3'⟩ := tk_l3 (X := X) (d := d) 3 0 h2 (by omega) w2
  have a1 : agr (FP false [163, 164, 165] [(137, 39), (137, 40), (137, 42)]) (av_uI h 137 30 (nI c)) h1 := off.fr A1 (by decide)
  have a2 : agr (FP false [161, 162, 163, 165] [(137, 39), (137, 40), (137, 42)]) h1 h2 := off.fr A2 (by decide)
  have a3 : agr (FP false [161, 162, 163, 164] [(137, 39), (137, 40), (137, 42)]) h2 h3 := off.fr A3 (by decide)
  have v63 : ∀ j, h3.2.1 163 j = h.2.1 163 j := fun j => by rw [a3.I rfl, a2.I rfl, a1.I rfl, uI_ne (by decide)]
  have v39 : h3.2.1 137 39 = h.2.1 137 39 := by rw [a3.I rfl, a2.I rfl, a1.I rfl, uI_nk (by decide)]
  have v40 : h3.2.1 137 40 = h.2.1 137 40 := by rw [a3.I rfl, a2.I rfl, a1.I rfl, uI_nk (by decide)]
  have v42 : h3.2.1 137 42 = h.2.1 137 42 := by rw [a3.I rfl, a2.I rfl, a1.I rfl, uI_nk (by decide)]
  have w4 : WF (av_uI h3 163 0 (nI u.n0)) := WF_uI w3
  have w5 : WF (av_uI (av_uI h3 163 0 (nI u.n0)) 163 1 (nI u.n1)) := WF_uI w4
  have w6 : WF (av_uI (av_uI (av_uI h3 163 0 (nI u.n0)) 163 1 (nI u.n1)) 137 37 (nI u.r)) := WF_uI w5
  have w7 : WF (av_uI (av_uI (av_uI (av_uI h3 163 0 (nI u.n0)) 163 1 (nI u.n1)) 137 37 (nI u.r)) 137 38 (nI u.dd)) := WF_uI w6
  have ob := o.2.2.1
  have od := o.2.2.2.1
  refine ⟨av_uI (av_uI (av_uI (av_uI (av_uI h3 163 0 (nI u.n0)) 163 1 (nI u.n1)) 137 37 (nI u.r)) 137 38 (nI u.dd)) 137 41 (bI u.ky), ?_, WF_uI w7, ?_, ?_⟩
  · have r90 : ∀ g, g = av_uI (av_uI h3 163 0 (nI u.n0)) 163 1 (nI u.n1) → bd X d 275 90 [(0, vr (some 137))] [vi (nI u.r), vr (some 137)] g = av_rV (av_uI (av_uI (av_uI (av_uI (av_uI h3 163 0 (nI u.n0)) 163 1 (nI u.n1)) 137 37 (nI u.r)) 137 38 (nI u.dd)) 137 41 (bI u.ky)) := fun g hg => by
      subst hg
      rw [b_275_90, pI_137 w5, gI_137_40 w6, uI_nk (by decide), uI_ne (by decide), uI_ne (by decide), v40, f4]
      cases hd : dt with
      | false =>
        have := o.2.2.2.2.2.2 hd
        rw [if_neg (show ¬ false = true by decide), if_pos (show (-1 : Int32) < 0 by decide), show (30 : Int32) = nI u.dd by rw [this]; rfl, pI_137 w6, gI_137_42 w7, uI_nk (by decide), uI_nk (by decide), uI_ne (by decide), uI_ne (by decide), v42, f5, pZ_137 w7]
      | true =>
        rw [if_pos rfl, if_neg (nI_pos (by omega)), gI_137_40 w6, uI_nk (by decide), uI_ne (by decide), uI_ne (by decide), v40, f4, hd, if_pos rfl, pI_137 w6, gI_137_42 w7, uI_nk (by decide), uI_nk (by decide), uI_ne (by decide), uI_ne (by decide), v42, f5, pZ_137 w7]
    have e3' : bd X d 275 51 [(0, vr (some 137)), (1, vi (nI 3))] [] h3 = av_rV (av_uI (av_uI (av_uI (av_uI (av_uI h3 163 0 (nI u.n0)) 163 1 (nI u.n1)) 137 37 (nI u.r)) 137 38 (nI u.dd)) 137 41 (bI u.ky)) := by
      rw [b_275_51, if_neg (show ¬ nI 3 < 3 by decide), gR_137_34 w3, gR_137_34 w3, show (2 : Int32) = nI 2 from rfl, ld_163 w3 (by omega), v63, f1, show (0 : Int32) = nI 0 from rfl, st_163 w3 (by omega), gR_137_34 w4, gR_137_34 w4, show (3 : Int32) = nI 3 from rfl, ld_163 w4 (by omega), uI_nk (by decide), v63, f2, show (1 : Int32) = nI 1 from rfl, st_163 w4 (by omega), gI_137_39 w5, uI_ne (by decide), uI_ne (by decide), v39, f3]
      cases hd : rt with
      | false =>
        have := o.2.2.2.2.2.1 hd
        rw [if_neg (show ¬ false = true by decide), if_pos (show (-1 : Int32) < nI 0 by decide), show (4 : Int32) = nI u.r by rw [this]; rfl]
        exact r90 _ rfl
      | true =>
        rw [if_pos rfl, if_neg (show ¬ nI u.r < nI 0 from nI_pos (by omega)), gI_137_39 w5, uI_ne (by decide), uI_ne (by decide), v39, f3, hd, if_pos rfl]
        exact r90 _ rfl
    rw [e_275, b_275_0, gI_137_31 w, r31, pI_137 w, show (0 : Int32) = nI 0 from rfl, e1, e2, e3, e3']
  · have b1 : off false [161, 162, 163, 164, 165] [(137, 30), (137, 37), (137, 38), (137, 41)] h h1 := agr.tr (agr.uI rfl agr.rfl) (A1.up (by decide))
    have b2 : off false [161, 162, 163, 164, 165] [(137, 30), (137, 37), (137, 38), (137, 41)] h1 h2 := A2.up (by decide)
    have b3 : off false [161, 162, 163, 164, 165] [(137, 30), (137, 37), (137, 38), (137, 41)] h2 h3 := A3.up (by decide)
    exact agr.uI rfl (agr.uI rfl (agr.uI rfl (agr.uI rfl (agr.uI rfl (agr.tr b1 (agr.tr b2 b3))))))
  · have n0 := o.1
    have n1 := o.2.1
    have v64 : ∀ j, j < 12 → h3.2.1 164 j = h.2.1 164 (12 + j) := fun j hj => by rw [a3.I rfl, p2' j (by omega) hj, a1.I rfl, uI_ne (by decide)]
    have v65 : ∀ j, j < 3 → h3.2.1 165 j = h.2.1 165 (3 + j) := fun j hj => by rw [p3' j (by omega) hj, a2.I rfl, a1.I rfl, uI_ne (by decide)]
    have v61 : ∀ j, j < c → h3.2.1 161 j = h.2.1 161 (1100 + j) ∧ h3.2.1 162 j = h.2.1 162 (1100 + j) := fun j hj => by
      rw [a3.I rfl, a3.I rfl, a2.I rfl, a2.I rfl, (p1' j (by omega) hj).1, (p1' j (by omega) hj).2, uI_ne (by decide), uI_ne (by decide)]
      exact ⟨rfl, rfl⟩
    refine ⟨?_, ?_, ?_, ?_, uI_eq, fun Q hQ => ?_, fun k hk => ?_, fun k hk => ?_, fun j hj => ?_⟩
    · rw [uI_ne (by decide), uI_ne (by decide), uI_ne (by decide), uI_nk (by decide), uI_eq]
    · rw [uI_ne (by decide), uI_ne (by decide), uI_ne (by decide), uI_eq]
    · rw [uI_nk (by decide), uI_nk (by decide), uI_eq]
    · rw [uI_nk (by decide), uI_eq]
    · obtain ⟨q1, q2, q3⟩ := k1 Q hQ
      have ee : ∀ x, x = 161 ∨ x = 162 → (av_uI (av_uI (av_uI (av_uI (av_uI h3 163 0 (nI u.n0)) 163 1 (nI u.n1)) 137 37 (nI u.r)) 137 38 (nI u.dd)) 137 41 (bI u.ky)).2.1 x = h3.2.1 x := fun x hx => by rw [uI_ne (by omega), uI_ne (by omega), uI_ne (by omega), uI_ne (by omega), uI_ne (by omega)]
      refine ⟨by omega, fun i hi => ?_, ?_⟩
      · rw [ee 161 (by omega), ee 162 (by omega), (v61 _ (show u.L Q + i < c by omega)).1, (v61 _ (show u.L Q + i < c by omega)).2]
        exact q2 i hi
      · rw [ee 161 (by omega), (v61 _ q1).1]
        exact q3
    · rw [uI_ne (by decide), uI_ne (by decide), uI_ne (by decide), uI_ne (by decide), uI_ne (by decide), v64 k (by omega)]
      exact k2 k hk
    · rw [uI_ne (by decide), uI_ne (by decide), uI_ne (by decide), uI_ne (by decide), uI_ne (by decide), v64 (6 + k) (by omega), show 12 + (6 + k) = 18 + k by omega]
      exact k3 k hk
    · rw [uI_ne (by decide), uI_ne (by decide), uI_ne (by decide), uI_ne (by decide), uI_ne (by decide), v65 j hj]
      exact k4 j hj
end
