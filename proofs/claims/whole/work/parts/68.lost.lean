/-! facts laid out; lost -/
theorem uI_set {h : av_H} {a k : Nat} {v : Int32} : av_uI h a k v = setC h a (upd (h.2.1 a) k v) := by
  have e := setC_u (h := h) (a := a) (k := k) (f := h.2.1 a) (v := v)
  rw [setC_id] at e
  exact e
theorem J11 {P : Nat → Prop} (h : P 0 ∧ P 1 ∧ P 2 ∧ P 3 ∧ P 4 ∧ P 5 ∧ P 6 ∧ P 7 ∧ P 8 ∧ P 9 ∧ P 10) : ∀ j, j < 11 → P j := fun j hj => by
  obtain ⟨h0, h1, h2, h3, h4, h5, h6, h7, h8, h9, h10⟩ := h
  match j, hj with
  | 0, _ => exact h0
  | 1, _ => exact h1
  | 2, _ => exact h2
  | 3, _ => exact h3
  | 4, _ => exact h4
  | 5, _ => exact h5
  | 6, _ => exact h6
  | 7, _ => exact h7
  | 8, _ => exact h8
  | 9, _ => exact h9
  | 10, _ => exact h10
/-- the class's facts of a place and a drop are laid -/
def fB (h : av_H) (t s fl e pn hs wo ag : Nat) : Prop := ∀ j, j < 11 → j ≠ 5 → j ≠ 6 → h.2.1 64 j = fct t s fl e 0 0 pn hs wo ag j
/-- the reference's -/
def fQ (h : av_H) (t fl pn hs wo ag : Nat) : Prop := h.2.1 166 0 = nI t ∧ h.2.1 166 2 = nI fl ∧ h.2.1 166 7 = nI pn ∧ h.2.1 166 8 = nI hs ∧ h.2.1 166 9 = nI wo ∧ h.2.1 166 10 = nI ag
theorem fB.fct {h : av_H} {t s fl e k wv pn hs wo ag : Nat} (F : ∀ j, j < 11 → h.2.1 64 j = fct t s fl e k wv pn hs wo ag j) : fB h t s fl e pn hs wo ag := fun j hj h5 h6 => by
  rw [F j hj]
  match j, h5, h6 with
  | 0, _, _ => rfl
  | 1, _, _ => rfl
  | 2, _, _ => rfl
  | 3, _, _ => rfl
  | 4, _, _ => rfl
  | 7, _, _ => rfl
  | 8, _, _ => rfl
  | 9, _, _ => rfl
  | _ + 10, _, _ => rfl
theorem fQ.pl {h h' : av_H} {t fl pn hs wo ag : Nat} (F : fQ h t fl pn hs wo ag) (S : pilE h h') : fQ h' t fl pn hs wo ag := by
  unfold fQ
  rw [S.ne (by decide)]
  exact F
theorem wv_fr {h h' : av_H} {s e k : Nat} (A : agr (FP false [154] []) h h') : wvN h' s e k = wvN h s e k := by
  simp only [wvN, A.I (show FP false [154] [] 154 _ = true from rfl)]
section
variable {X : av_X} {d : Nat} {h : av_H}
theorem c_hour {h0 : av_H} (T : tC h0 h) (Jw : J_wi h0) {t s fl e k pn hs wo ag : Nat} (hs4 : s < 4) (he : e < 100) (hk : k < 24) (F : fB h t s fl e pn hs wo ag) : ∃ h', tC h0 h' ∧ (∀ j, j < 11 → h'.2.1 64 j = fct t s fl e k (wvN h0 s e k) pn hs wo ag j) ∧ ev X (d + 3) 220 [vr (some 0), vi (nI s), vi (nI e), vi (nI k)] h = av_rV h' := by
  have w := T.1
  have J1 : J_wi (av_uI h 64 5 (nI k)) := (Jw.fr (T.2.fr (by decide))).fr (agr.uI rfl agr.rfl)
  have ew : wvN (av_uI h 64 5 (nI k)) s e k = wvN h0 s e k := (wv_fr (agr.uI rfl agr.rfl)).trans (wv_fr (T.2.fr (by decide)))
  refine ⟨av_uI (av_uI h 64 5 (nI k)) 64 6 (nI (wvN h0 s e k)), ⟨w, agr.uI rfl (agr.uI rfl T.2)⟩, J11 ?_, ?_⟩
  · refine ⟨?_, ?_, ?_, ?_, ?_, ?_, uI_eq, ?_, ?_, ?_, ?_⟩
    · rw [uI_nk (by decide), uI_nk (by decide)]; exact F 0 (by decide) (by decide) (by decide)
    · rw [uI_nk (by decide), uI_nk (by decide)]; exact F 1 (by decide) (by decide) (by decide)
    · rw [uI_nk (by decide), uI_nk (by decide)]; exact F 2 (by decide) (by decide) (by decide)
    · rw [uI_nk (by decide), uI_nk (by decide)]; exact F 3 (by decide) (by decide) (by decide)
    · rw [uI_nk (by decide), uI_nk (by decide)]; exact F 4 (by decide) (by decide) (by decide)
    · rw [uI_nk (by decide), uI_eq]; rfl
    · rw [uI_nk (by decide), uI_nk (by decide)]; exact F 7 (by decide) (by decide) (by decide)
    · rw [uI_nk (by decide), uI_nk (by decide)]; exact F 8 (by decide) (by decide) (by decide)
    · rw [uI_nk (by decide), uI_nk (by decide)]; exact F 9 (by decide) (by decide) (by decide)
    · rw [uI_nk (by decide), uI_nk (by decide)]; exact F 10 (by decide) (by decide) (by decide)
  · rw [e_220, b_220_0, gR_0_12 w, show (5 : Int32) = nI 5 from rfl, st_64 w (show 5 < 11 by decide), gR_0_12 (WF_uI w), is_0 (WF_uI w), c_windIn' (WF_uI w) J1 hs4 he hk, ew, show (6 : Int32) = nI 6 from rfl, st_64 (WF_uI w) (show 6 < 11 by decide)]
/-- a tower's object, its floors and its wear -/
def tw0 (h : av_H) (t a F V : Nat) : Prop := t < 6 ∧ 226 ≤ a ∧ h.2.2.2 1 t = some a ∧ h.1[a]? = some (9, 0) ∧ h.2.1 a 0 = nI F ∧ h.2.1 a 4 = nI V
theorem tw0.fr {h h' : av_H} {t a F V : Nat} (W : tw0 h t a F V) (A : agr (FP true [1] []) h h') : tw0 h' t a F V := by
  obtain ⟨h1, h2, h3, h4, h5, h6⟩ := W
  have e : ∀ k, FP true [1] [] a k = true := fun k => by simp only [FP, Bool.true_and, decide_eq_true h2, Bool.true_or]
  exact ⟨h1, h2, (A.R rfl).trans h3, A.k h4, (A.I (e _)).trans h5, (A.I (e _)).trans h6⟩
theorem c_place {h0 : av_H} (T : tC h0 h) {t s e a F V : Nat} (W : tw0 h0 t a F V) : ∃ h', tC h0 h' ∧ (h'.2.1 64 0 = nI t ∧ h'.2.1 64 1 = nI s ∧ h'.2.1 64 2 = nI F ∧ h'.2.1 64 3 = nI e ∧ h'.2.1 64 4 = nI e - nI e / 7 * 7) ∧ ev X (d + 1) 219 [vr (some 0), vi (nI t), vi (nI s), vi (nI e)] h = av_rV h' := by
  have w := T.1
  obtain ⟨h6, h2, e1, e2, e3, e4⟩ := W.fr (T.2.fr (q := true) (cs := [1]) (fs := []) (by decide))
  refine ⟨av_uI (av_uI (av_uI (av_uI (av_uI h 64 0 (nI t)) 64 1 (nI s)) 64 2 (nI F)) 64 3 (nI e)) 64 4 (nI e - nI e / 7 * 7), ⟨w, agr.uI rfl (agr.uI rfl (agr.uI rfl (agr.uI rfl (agr.uI rfl T.2))))⟩, ⟨?_, ?_, ?_, ?_, uI_eq⟩, ?_⟩
  · rw [uI_nk (by decide), uI_nk (by decide), uI_nk (by decide), uI_nk (by decide), uI_eq]
  · rw [uI_nk (by decide), uI_nk (by decide), uI_nk (by decide), uI_eq]
  · rw [uI_nk (by decide), uI_nk (by decide), uI_eq]
  · rw [uI_nk (by decide), uI_eq]
  · rw [e_219, b_219_0, gR_0_12 w, show (0 : Int32) = nI 0 from rfl, st_64 w (show 0 < 11 by decide), gR_0_12 (WF_uI w), show (1 : Int32) = nI 1 from rfl, st_64 (WF_uI w) (show 1 < 11 by decide), gR_0_12 (WF_uI (WF_uI w)), gR_0_0 (WF_uI (WF_uI w)), ld1v (WF_uI (WF_uI w)) h6 e1, tw_gIv (g := av_uI (av_uI h 64 0 (nI t)) 64 1 (nI s)) (k := 0) (v := nI F) e2 (by rw [uI_ne (by omega), uI_ne (by omega)]; exact e3), show (2 : Int32) = nI 2 from rfl, st_64 (WF_uI (WF_uI w)) (show 2 < 11 by decide), gR_0_12 (WF_uI (WF_uI (WF_uI w))), show (3 : Int32) = nI 3 from rfl, st_64 (WF_uI (WF_uI (WF_uI w))) (show 3 < 11 by decide), gR_0_12 (WF_uI (WF_uI (WF_uI (WF_uI w)))), if_neg (by decide), show (4 : Int32) = nI 4 from rfl, st_64 (WF_uI (WF_uI (WF_uI (WF_uI w)))) (show 4 < 11 by decide)]
theorem c_empty {h0 : av_H} (T : tC h0 h) {t s e a F V : Nat} (W : tw0 h0 t a F V) : ∃ h', tC h0 h' ∧ fB h' t s F e 0 1 V 0 ∧ ev X (d + 2) 218 [vr (some 0), vi (nI t), vi (nI s), vi (nI e)] h = av_rV h' := by
  obtain ⟨h1, T1, ⟨p0, p1, p2, p3, p4⟩, ev1⟩ := c_place (X := X) (d := d) (s := s) (e := e) T W
  have w := T1.1
  obtain ⟨h6, h2, e1, e2, e3, e4⟩ := W.fr (T1.2.fr (q := true) (cs := [1]) (fs := []) (by decide))
  refine ⟨av_uI (av_uI (av_uI (av_uI h1 64 7 0) 64 8 1) 64 9 (nI V)) 64 10 0, ⟨w, agr.uI rfl (agr.uI rfl (agr.uI rfl (agr.uI rfl T1.2)))⟩, ?_, ?_⟩
  · refine J11 ⟨fun _ _ => ?_, fun _ _ => ?_, fun _ _ => ?_, fun _ _ => ?_, fun _ _ => ?_, fun z => absurd rfl z, fun _ z => absurd rfl z, fun _ _ => ?_, fun _ _ => ?_, fun _ _ => ?_, fun _ _ => ?_⟩
    · rw [uI_nk (by decide), uI_nk (by decide), uI_nk (by decide), uI_nk (by decide)]; exact p0
    · rw [uI_nk (by decide), uI_nk (by decide), uI_nk (by decide), uI_nk (by decide)]; exact p1
    · rw [uI_nk (by decide), uI_nk (by decide), uI_nk (by decide), uI_nk (by decide)]; exact p2
    · rw [uI_nk (by decide), uI_nk (by decide), uI_nk (by decide), uI_nk (by decide)]; exact p3
    · rw [uI_nk (by decide), uI_nk (by decide), uI_nk (by decide), uI_nk (by decide)]; exact p4
    · rw [uI_nk (by decide), uI_nk (by decide), uI_nk (by decide), uI_eq]; rfl
    · rw [uI_nk (by decide), uI_nk (by decide), uI_eq]; rfl
    · rw [uI_nk (by decide), uI_eq]; rfl
    · rw [uI_eq]; rfl
  · rw [e_218, b_218_0, is_0 T.1, ev1, av_cV_r, Option.bind_some, gR_0_12 w, show (7 : Int32) = nI 7 from rfl, st_64 w (show 7 < 11 by decide), gR_0_12 (WF_uI w), show (8 : Int32) = nI 8 from rfl, st_64 (WF_uI w) (show 8 < 11 by decide), gR_0_12 (WF_uI (WF_uI w)), gR_0_0 (WF_uI (WF_uI w)), ld1v (WF_uI (WF_uI w)) h6 e1, tw_gIv (g := av_uI (av_uI h1 64 7 0) 64 8 1) (k := 4) (v := nI V) e2 (by rw [uI_ne (by omega), uI_ne (by omega)]; exact e4), show (9 : Int32) = nI 9 from rfl, st_64 (WF_uI (WF_uI w)) (show 9 < 11 by decide), gR_0_12 (WF_uI (WF_uI (WF_uI w))), show (10 : Int32) = nI 10 from rfl, st_64 (WF_uI (WF_uI (WF_uI w))) (show 10 < 11 by decide)]
theorem s_lays {h0 : av_H} (T : tQ h0 h) {t F pn hs wo ag : Nat} (h6 : t < 6) (hF : h0.2.1 143 t = nI F) : ∃ h', tQ h0 h' ∧ fQ h' t F pn hs wo ag ∧ ev X (d + 1) 292 [vr (some 137), vi (nI t), vi (nI pn), vi (nI hs), vi (nI wo), vi (nI ag)] h = av_rV h' := by
  have w := T.1
  have hF' : h.2.1 143 t = nI F := ((T.2.fr (q := false) (cs := [143]) (fs := []) (by decide)).I rfl).trans hF
  refine ⟨av_uI (av_uI (av_uI (av_uI (av_uI (av_uI h 166 0 (nI t)) 166 2 (nI F)) 166 7 (nI pn)) 166 8 (nI hs)) 166 9 (nI wo)) 166 10 (nI ag), ⟨w, agr.uI rfl (agr.uI rfl (agr.uI rfl (agr.uI rfl (agr.uI rfl (agr.uI rfl T.2)))))⟩, ⟨?_, ?_, ?_, ?_, ?_, uI_eq⟩, ?_⟩
  · rw [uI_nk (by decide), uI_nk (by decide), uI_nk (by decide), uI_nk (by decide), uI_nk (by decide), uI_eq]
  · rw [uI_nk (by decide), uI_nk (by decide), uI_nk (by decide), uI_nk (by decide), uI_eq]
  · rw [uI_nk (by decide), uI_nk (by decide), uI_nk (by decide), uI_eq]
  · rw [uI_nk (by decide), uI_nk (by decide), uI_eq]
  · rw [uI_nk (by decide), uI_eq]
  · rw [e_292, b_292_0, gR_137_43 w, show (0 : Int32) = nI 0 from rfl, st_166 w (show 0 < 11 by decide), gR_137_43 (WF_uI w), gR_137_10 (WF_uI w), ld_143 (WF_uI w) h6, uI_ne (by decide), hF', show (2 : Int32) = nI 2 from rfl, st_166 (WF_uI w) (show 2 < 11 by decide), gR_137_43 (WF_uI (WF_uI w)), show (7 : Int32) = nI 7 from rfl, st_166 (WF_uI (WF_uI w)) (show 7 < 11 by decide), gR_137_43 (WF_uI (WF_uI (WF_uI w))), show (8 : Int32) = nI 8 from rfl, st_166 (WF_uI (WF_uI (WF_uI w))) (show 8 < 11 by decide), gR_137_43 (WF_uI (WF_uI (WF_uI (WF_uI w)))), show (9 : Int32) = nI 9 from rfl, st_166 (WF_uI (WF_uI (WF_uI (WF_uI w)))) (show 9 < 11 by decide), gR_137_43 (WF_uI (WF_uI (WF_uI (WF_uI (WF_uI w))))), show (10 : Int32) = nI 10 from rfl, st_166 (WF_uI (WF_uI (WF_uI (WF_uI (WF_uI w))))) (show 10 < 11 by decide)]
/-- the heap when the reference has laid the hour -/
def soH (h : av_H) (s e k wv : Nat) : av_H := av_uI (av_uI (av_uI (av_uI (av_uI h 166 1 (nI s)) 166 3 (nI e)) 166 4 (nI e - nI e / 7 * 7)) 166 5 (nI k)) 166 6 (nI wv)
theorem soH_t {h0 : av_H} (T : tQ h0 h) (s e k wv : Nat) : tQ h0 (soH h s e k wv) := ⟨T.1, agr.uI rfl (agr.uI rfl (agr.uI rfl (agr.uI rfl (agr.uI rfl T.2))))⟩
theorem soH_n {s e k wv j : Nat} (j1 : j ≠ 1) (j3 : j ≠ 3) (j4 : j ≠ 4) (j5 : j ≠ 5) (j6 : j ≠ 6) : (soH h s e k wv).2.1 166 j = h.2.1 166 j := by
  rw [soH, uI_nk j6, uI_nk j5, uI_nk j4, uI_nk j3, uI_nk j1]
theorem soH_q {t s fl e k wv pn hs wo ag : Nat} (F : fQ h t fl pn hs wo ag) : fQ (soH h s e k wv) t fl pn hs wo ag := by
  obtain ⟨f0, f2, f7, f8, f9, f10⟩ := F
  refine ⟨?_, ?_, ?_, ?_, ?_, ?_⟩
  · rw [soH_n (by decide) (by decide) (by decide) (by decide) (by decide)]; exact f0
  · rw [soH_n (by decide) (by decide) (by decide) (by decide) (by decide)]; exact f2
  · rw [soH_n (by decide) (by decide) (by decide) (by decide) (by decide)]; exact f7
  · rw [soH_n (by decide) (by decide) (by decide) (by decide) (by decide)]; exact f8
  · rw [soH_n (by decide) (by decide) (by decide) (by decide) (by decide)]; exact f9
  · rw [soH_n (by decide) (by decide) (by decide) (by decide) (by decide)]; exact f10
theorem soH_f {t s fl e k wv pn hs wo ag : Nat} (F : fQ h t fl pn hs wo ag) : ∀ j, j < 11 → (soH h s e k wv).2.1 166 j = fct t s fl e k wv pn hs wo ag j := by
  obtain ⟨f0, f2, f7, f8, f9, f10⟩ := soH_q (s := s) (e := e) (k := k) (wv := wv) F
  refine J11 ⟨f0, ?_, f2, ?_, ?_, ?_, uI_eq, f7, f8, f9, f10⟩
  · rw [soH, uI_nk (by decide), uI_nk (by decide), uI_nk (by decide), uI_nk (by decide), uI_eq]; rfl
  · rw [soH, uI_nk (by decide), uI_nk (by decide), uI_nk (by decide), uI_eq]; rfl
  · rw [soH, uI_nk (by decide), uI_nk (by decide), uI_eq]; rfl
  · rw [soH, uI_nk (by decide), uI_eq]; rfl
end
