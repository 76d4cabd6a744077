/-! spans: what is told of places and days -/
theorem bdi (b : Bool) : b = false ∨ b = true := by cases b <;> simp
theorem i10 : ((1 : Int32) = 0) = False := by decide
theorem lit_0 : (0 : Int32) = nI 0 := rfl
theorem lit_1 : (1 : Int32) = nI 1 := rfl
theorem lit_2 : (2 : Int32) = nI 2 := rfl
theorem lit_3 : (3 : Int32) = nI 3 := rfl
theorem lit_4 : (4 : Int32) = nI 4 := rfl
theorem lit_5 : (5 : Int32) = nI 5 := rfl
theorem lit_6 : (6 : Int32) = nI 6 := rfl
theorem lit_7 : (7 : Int32) = nI 7 := rfl
theorem lit_8 : (8 : Int32) = nI 8 := rfl
theorem lit_10 : (10 : Int32) = nI 10 := rfl
theorem lit_12 : (12 : Int32) = nI 12 := rfl
theorem lit_20 : (20 : Int32) = nI 20 := rfl
theorem lit_24 : (24 : Int32) = nI 24 := rfl
theorem lit_40 : (40 : Int32) = nI 40 := rfl
theorem lit_60 : (60 : Int32) = nI 60 := rfl
theorem lit_100 : (100 : Int32) = nI 100 := rfl
theorem lit_120 : (120 : Int32) = nI 120 := rfl
theorem lit_127 : (127 : Int32) = nI 127 := rfl
theorem lit_256 : (256 : Int32) = nI 256 := rfl
theorem lit_625 : (625 : Int32) = nI 625 := rfl
theorem lit_1024 : (1024 : Int32) = nI 1024 := rfl
/-- some of n from i on -/
def anyN : Nat → Nat → (Nat → Bool) → Bool
  | 0, _, _ => false
  | n + 1, i, P => P i || anyN n (i + 1) P
theorem anyN_congr {P Q : Nat → Bool} : ∀ n i, (∀ k, i ≤ k → k < i + n → P k = Q k) → anyN n i P = anyN n i Q
  | 0, _, _ => rfl
  | n + 1, i, e => by
    rw [anyN, anyN, e i (Nat.le_refl i) (by omega), anyN_congr n (i + 1) (fun k a b => e k (by omega) (by omega))]
theorem anyN_iff {P : Nat → Bool} : ∀ n i, anyN n i P = true ↔ ∃ k, i ≤ k ∧ k < i + n ∧ P k = true
  | 0, i => by simp only [anyN, Bool.false_eq_true, false_iff]; rintro ⟨k, a, b, -⟩; omega
  | n + 1, i => by
    rw [anyN, Bool.or_eq_true, anyN_iff n (i + 1)]
    constructor
    · rintro (q | ⟨k, a, b, q⟩)
      · exact ⟨i, Nat.le_refl i, by omega, q⟩
      · exact ⟨k, by omega, by omega, q⟩
    · rintro ⟨k, a, b, q⟩
      by_cases e : k = i
      · subst e
        exact Or.inl q
      · exact Or.inr ⟨k, by omega, by omega, q⟩
section
variable {X : av_X} {d : Nat} {h : av_H}
def spW_3 (h : av_H) (m : Nat) (p e f g k : Int32) : av_H := av_uI (av_uI (av_uI (av_uI (av_uI (av_uI h 4 m p) 5 m e) 6 m f) 7 m g) 8 m k) 3 5 (nI (m + 1))
theorem gIv_3_5 {β : Type} {g : av_H} (w : WF g) {v : Int32} (e : g.2.1 3 5 = v) (K : Int32 → Option β) : (av_gI g (some 3) 8 5).bind K = K v := by rw [gI_3_5 w, e]
theorem add_3 (w : WF h) {m : Nat} (hm : h.2.1 3 5 = nI m) (hN : m ≤ 20) (p e f g k : Int32) : ev X (d + 1) 112 [vr (some 3), vi p, vi e, vi f, vi g, vi k] h = av_rI (bI (decide (m < 20))) (if m < 20 then spW_3 h m p e f g k else h) := by
  by_cases q : m < 20
  · simp (disch := first | ((repeat (first | with_reducible apply WF_uI | with_reducible apply WF_uL | with_reducible apply WF_th)); with_reducible assumption) | omega | (simp (disch := omega) only [uI_ne, uI_nk, uI_eq, nI_1, th_I, th_k, hm]; done) | (simp only [uI_1, uL_1, th_1, uI_R, uL_R]; with_reducible assumption)) only [e_112, b_112_0, ↓gIv_3_5 (v := nI m), ↓gR_3_0, ↓ld_4, ↓st_4, ↓ln_4, ↓gR_3_1, ↓ld_5, ↓st_5, ↓ln_5, ↓gR_3_3, ↓ld_6, ↓st_6, ↓ln_6, ↓gR_3_2, ↓ld_7, ↓st_7, ↓ln_7, ↓gR_3_4, ↓ld_8, ↓st_8, ↓ln_8, ↓pI_3, ↓reduceIte, i10, av_cI_r, av_cL_r, av_cV_r, Option.bind_some, ↓zb_0, ↓zb_1, ↓zb_b, nI_ltI, q, if_true, nI_1, spW_3, decide_true, bI_t]
  · simp (disch := first | ((repeat (first | with_reducible apply WF_uI | with_reducible apply WF_uL | with_reducible apply WF_th)); with_reducible assumption) | omega | (simp (disch := omega) only [uI_ne, uI_nk, uI_eq, nI_1, th_I, th_k, hm]; done) | (simp only [uI_1, uL_1, th_1, uI_R, uL_R]; with_reducible assumption)) only [e_112, b_112_0, ↓gIv_3_5 (v := nI m), ↓gR_3_0, ↓ld_4, ↓st_4, ↓ln_4, ↓gR_3_1, ↓ld_5, ↓st_5, ↓ln_5, ↓gR_3_3, ↓ld_6, ↓st_6, ↓ln_6, ↓gR_3_2, ↓ld_7, ↓st_7, ↓ln_7, ↓gR_3_4, ↓ld_8, ↓st_8, ↓ln_8, ↓pI_3, ↓reduceIte, i10, av_cI_r, av_cL_r, av_cV_r, Option.bind_some, ↓zb_0, ↓zb_1, ↓zb_b, nI_ltI, q, if_false, decide_false, bI_f]
theorem add_3' (w : WF h) {m : Nat} (hm : h.2.1 3 5 = nI m) (hN : m ≤ 20) (p e f g k : Int32) {β : Type} (Kc : Int32 × av_H → Option β) : (av_cI (ev X (d + 1) 112 [vr (some 3), vi p, vi e, vi f, vi g, vi k] h)).bind Kc = Kc (bI (decide (m < 20)), (if m < 20 then spW_3 h m p e f g k else h)) := by rw [add_3 w hm hN p e f g k]; rfl
def spW_9 (h : av_H) (m : Nat) (p e f g k : Int32) : av_H := av_uI (av_uI (av_uI (av_uI (av_uI (av_uI h 10 m p) 11 m e) 12 m f) 13 m g) 14 m k) 9 5 (nI (m + 1))
theorem gIv_9_5 {β : Type} {g : av_H} (w : WF g) {v : Int32} (e : g.2.1 9 5 = v) (K : Int32 → Option β) : (av_gI g (some 9) 8 5).bind K = K v := by rw [gI_9_5 w, e]
theorem add_9 (w : WF h) {m : Nat} (hm : h.2.1 9 5 = nI m) (hN : m ≤ 60) (p e f g k : Int32) : ev X (d + 1) 112 [vr (some 9), vi p, vi e, vi f, vi g, vi k] h = av_rI (bI (decide (m < 60))) (if m < 60 then spW_9 h m p e f g k else h) := by
  by_cases q : m < 60
  · simp (disch := first | ((repeat (first | with_reducible apply WF_uI | with_reducible apply WF_uL | with_reducible apply WF_th)); with_reducible assumption) | omega | (simp (disch := omega) only [uI_ne, uI_nk, uI_eq, nI_1, th_I, th_k, hm]; done) | (simp only [uI_1, uL_1, th_1, uI_R, uL_R]; with_reducible assumption)) only [e_112, b_112_0, ↓gIv_9_5 (v := nI m), ↓gR_9_0, ↓ld_10, ↓st_10, ↓ln_10, ↓gR_9_1, ↓ld_11, ↓st_11, ↓ln_11, ↓gR_9_3, ↓ld_12, ↓st_12, ↓ln_12, ↓gR_9_2, ↓ld_13, ↓st_13, ↓ln_13, ↓gR_9_4, ↓ld_14, ↓st_14, ↓ln_14, ↓pI_9, ↓reduceIte, i10, av_cI_r, av_cL_r, av_cV_r, Option.bind_some, ↓zb_0, ↓zb_1, ↓zb_b, nI_ltI, q, if_true, nI_1, spW_9, decide_true, bI_t]
  · simp (disch := first | ((repeat (first | with_reducible apply WF_uI | with_reducible apply WF_uL | with_reducible apply WF_th)); with_reducible assumption) | omega | (simp (disch := omega) only [uI_ne, uI_nk, uI_eq, nI_1, th_I, th_k, hm]; done) | (simp only [uI_1, uL_1, th_1, uI_R, uL_R]; with_reducible assumption)) only [e_112, b_112_0, ↓gIv_9_5 (v := nI m), ↓gR_9_0, ↓ld_10, ↓st_10, ↓ln_10, ↓gR_9_1, ↓ld_11, ↓st_11, ↓ln_11, ↓gR_9_3, ↓ld_12, ↓st_12, ↓ln_12, ↓gR_9_2, ↓ld_13, ↓st_13, ↓ln_13, ↓gR_9_4, ↓ld_14, ↓st_14, ↓ln_14, ↓pI_9, ↓reduceIte, i10, av_cI_r, av_cL_r, av_cV_r, Option.bind_some, ↓zb_0, ↓zb_1, ↓zb_b, nI_ltI, q, if_false, decide_false, bI_f]
theorem add_9' (w : WF h) {m : Nat} (hm : h.2.1 9 5 = nI m) (hN : m ≤ 60) (p e f g k : Int32) {β : Type} (Kc : Int32 × av_H → Option β) : (av_cI (ev X (d + 1) 112 [vr (some 9), vi p, vi e, vi f, vi g, vi k] h)).bind Kc = Kc (bI (decide (m < 60)), (if m < 60 then spW_9 h m p e f g k else h)) := by rw [add_9 w hm hN p e f g k]; rfl
def spW_15 (h : av_H) (m : Nat) (p e f g k : Int32) : av_H := av_uI (av_uI (av_uI (av_uI (av_uI (av_uI h 16 m p) 17 m e) 18 m f) 19 m g) 20 m k) 15 5 (nI (m + 1))
theorem gIv_15_5 {β : Type} {g : av_H} (w : WF g) {v : Int32} (e : g.2.1 15 5 = v) (K : Int32 → Option β) : (av_gI g (some 15) 8 5).bind K = K v := by rw [gI_15_5 w, e]
theorem add_15 (w : WF h) {m : Nat} (hm : h.2.1 15 5 = nI m) (hN : m ≤ 12) (p e f g k : Int32) : ev X (d + 1) 112 [vr (some 15), vi p, vi e, vi f, vi g, vi k] h = av_rI (bI (decide (m < 12))) (if m < 12 then spW_15 h m p e f g k else h) := by
  by_cases q : m < 12
  · simp (disch := first | ((repeat (first | with_reducible apply WF_uI | with_reducible apply WF_uL | with_reducible apply WF_th)); with_reducible assumption) | omega | (simp (disch := omega) only [uI_ne, uI_nk, uI_eq, nI_1, th_I, th_k, hm]; done) | (simp only [uI_1, uL_1, th_1, uI_R, uL_R]; with_reducible assumption)) only [e_112, b_112_0, ↓gIv_15_5 (v := nI m), ↓gR_15_0, ↓ld_16, ↓st_16, ↓ln_16, ↓gR_15_1, ↓ld_17, ↓st_17, ↓ln_17, ↓gR_15_3, ↓ld_18, ↓st_18, ↓ln_18, ↓gR_15_2, ↓ld_19, ↓st_19, ↓ln_19, ↓gR_15_4, ↓ld_20, ↓st_20, ↓ln_20, ↓pI_15, ↓reduceIte, i10, av_cI_r, av_cL_r, av_cV_r, Option.bind_some, ↓zb_0, ↓zb_1, ↓zb_b, nI_ltI, q, if_true, nI_1, spW_15, decide_true, bI_t]
  · simp (disch := first | ((repeat (first | with_reducible apply WF_uI | with_reducible apply WF_uL | with_reducible apply WF_th)); with_reducible assumption) | omega | (simp (disch := omega) only [uI_ne, uI_nk, uI_eq, nI_1, th_I, th_k, hm]; done) | (simp only [uI_1, uL_1, th_1, uI_R, uL_R]; with_reducible assumption)) only [e_112, b_112_0, ↓gIv_15_5 (v := nI m), ↓gR_15_0, ↓ld_16, ↓st_16, ↓ln_16, ↓gR_15_1, ↓ld_17, ↓st_17, ↓ln_17, ↓gR_15_3, ↓ld_18, ↓st_18, ↓ln_18, ↓gR_15_2, ↓ld_19, ↓st_19, ↓ln_19, ↓gR_15_4, ↓ld_20, ↓st_20, ↓ln_20, ↓pI_15, ↓reduceIte, i10, av_cI_r, av_cL_r, av_cV_r, Option.bind_some, ↓zb_0, ↓zb_1, ↓zb_b, nI_ltI, q, if_false, decide_false, bI_f]
theorem add_15' (w : WF h) {m : Nat} (hm : h.2.1 15 5 = nI m) (hN : m ≤ 12) (p e f g k : Int32) {β : Type} (Kc : Int32 × av_H → Option β) : (av_cI (ev X (d + 1) 112 [vr (some 15), vi p, vi e, vi f, vi g, vi k] h)).bind Kc = Kc (bI (decide (m < 12)), (if m < 12 then spW_15 h m p e f g k else h)) := by rw [add_15 w hm hN p e f g k]; rfl
def spW_21 (h : av_H) (m : Nat) (p e f g k : Int32) : av_H := av_uI (av_uI (av_uI (av_uI (av_uI (av_uI h 22 m p) 23 m e) 24 m f) 25 m g) 26 m k) 21 5 (nI (m + 1))
theorem gIv_21_5 {β : Type} {g : av_H} (w : WF g) {v : Int32} (e : g.2.1 21 5 = v) (K : Int32 → Option β) : (av_gI g (some 21) 8 5).bind K = K v := by rw [gI_21_5 w, e]
theorem add_21 (w : WF h) {m : Nat} (hm : h.2.1 21 5 = nI m) (hN : m ≤ 40) (p e f g k : Int32) : ev X (d + 1) 112 [vr (some 21), vi p, vi e, vi f, vi g, vi k] h = av_rI (bI (decide (m < 40))) (if m < 40 then spW_21 h m p e f g k else h) := by
  by_cases q : m < 40
  · simp (disch := first | ((repeat (first | with_reducible apply WF_uI | with_reducible apply WF_uL | with_reducible apply WF_th)); with_reducible assumption) | omega | (simp (disch := omega) only [uI_ne, uI_nk, uI_eq, nI_1, th_I, th_k, hm]; done) | (simp only [uI_1, uL_1, th_1, uI_R, uL_R]; with_reducible assumption)) only [e_112, b_112_0, ↓gIv_21_5 (v := nI m), ↓gR_21_0, ↓ld_22, ↓st_22, ↓ln_22, ↓gR_21_1, ↓ld_23, ↓st_23, ↓ln_23, ↓gR_21_3, ↓ld_24, ↓st_24, ↓ln_24, ↓gR_21_2, ↓ld_25, ↓st_25, ↓ln_25, ↓gR_21_4, ↓ld_26, ↓st_26, ↓ln_26, ↓pI_21, ↓reduceIte, i10, av_cI_r, av_cL_r, av_cV_r, Option.bind_some, ↓zb_0, ↓zb_1, ↓zb_b, nI_ltI, q, if_true, nI_1, spW_21, decide_true, bI_t]
  · simp (disch := first | ((repeat (first | with_reducible apply WF_uI | with_reducible apply WF_uL | with_reducible apply WF_th)); with_reducible assumption) | omega | (simp (disch := omega) only [uI_ne, uI_nk, uI_eq, nI_1, th_I, th_k, hm]; done) | (simp only [uI_1, uL_1, th_1, uI_R, uL_R]; with_reducible assumption)) only [e_112, b_112_0, ↓gIv_21_5 (v := nI m), ↓gR_21_0, ↓ld_22, ↓st_22, ↓ln_22, ↓gR_21_1, ↓ld_23, ↓st_23, ↓ln_23, ↓gR_21_3, ↓ld_24, ↓st_24, ↓ln_24, ↓gR_21_2, ↓ld_25, ↓st_25, ↓ln_25, ↓gR_21_4, ↓ld_26, ↓st_26, ↓ln_26, ↓pI_21, ↓reduceIte, i10, av_cI_r, av_cL_r, av_cV_r, Option.bind_some, ↓zb_0, ↓zb_1, ↓zb_b, nI_ltI, q, if_false, decide_false, bI_f]
theorem add_21' (w : WF h) {m : Nat} (hm : h.2.1 21 5 = nI m) (hN : m ≤ 40) (p e f g k : Int32) {β : Type} (Kc : Int32 × av_H → Option β) : (av_cI (ev X (d + 1) 112 [vr (some 21), vi p, vi e, vi f, vi g, vi k] h)).bind Kc = Kc (bI (decide (m < 40)), (if m < 40 then spW_21 h m p e f g k else h)) := by rw [add_21 w hm hN p e f g k]; rfl
theorem isOn_3 (w : WF h) {i : Nat} (hi : i < 20) (e : Int32) : ev X (d + 2) 115 [vr (some 3), vi (nI i), vi e] h = av_rI (bI (rg e (h.2.1 5 i).toInt (h.2.1 6 i).toInt)) h := by
  simp (disch := first | ((repeat (first | with_reducible apply WF_uI | with_reducible apply WF_uL | with_reducible apply WF_th)); with_reducible assumption) | omega | (simp only [uI_1, uL_1, th_1, uI_R, uL_R]; with_reducible assumption)) only [e_115, b_115_0, ↓gR_3_1, ↓ld_5, ↓st_5, ↓ln_5, ↓gR_3_3, ↓ld_6, ↓st_6, ↓ln_6, ↓c_within', ↓reduceIte, i10, av_cI_r, av_cL_r, av_cV_r, Option.bind_some, ↓zb_0, ↓zb_1, ↓zb_b]
theorem isOn_3' (w : WF h) {i : Nat} (hi : i < 20) (e : Int32) {β : Type} (Kc : Int32 × av_H → Option β) : (av_cI (ev X (d + 2) 115 [vr (some 3), vi (nI i), vi e] h)).bind Kc = Kc (bI (rg e (h.2.1 5 i).toInt (h.2.1 6 i).toInt), h) := by rw [isOn_3 w hi e]; rfl
/-- row i covers place p on day e at hour k -/
def spP_3 (h : av_H) (p e k : Int32) (i : Nat) : Bool := decide (h.2.1 4 i = p) && rg e (h.2.1 5 i).toInt (h.2.1 6 i).toInt && rg k (h.2.1 7 i).toInt (h.2.1 8 i).toInt
theorem cov_lp_3 (w : WF h) {m : Nat} (hm : h.2.1 3 5 = nI m) (hN : m ≤ 20) (p e k : Int32) : ∀ n i, i + n = m → bd X (d + 2) 113 2 [(0, vr (some 3)), (1, vi p), (2, vi e), (3, vi k), (4, vi (nI i))] [] h = av_rI (bI (anyN n i (spP_3 h p e k))) h
  | 0, i, hi => by
    rw [b_113_2]
    simp (disch := first | ((repeat (first | with_reducible apply WF_uI | with_reducible apply WF_uL | with_reducible apply WF_th)); with_reducible assumption) | omega | (simp only [uI_1, uL_1, th_1, uI_R, uL_R]; with_reducible assumption)) only [↓gI_3_5, hm, nI_ltI, show ¬ i < m by omega, if_false, ↓reduceIte, i10, av_cI_r, av_cL_r, av_cV_r, Option.bind_some, ↓zb_0, ↓zb_1, ↓zb_b, anyN, bI_f]
  | n + 1, i, hi => by
    have hlt : i < m := by omega
    have hl2 : i < 20 := by omega
    have ih := cov_lp_3 w hm hN p e k n (i + 1) (by omega)
    rw [b_113_2]
    simp (disch := first | ((repeat (first | with_reducible apply WF_uI | with_reducible apply WF_uL | with_reducible apply WF_th)); with_reducible assumption) | omega | (simp only [uI_1, uL_1, th_1, uI_R, uL_R]; with_reducible assumption)) only [↓gI_3_5, ↓gR_3_0, ↓ld_4, ↓st_4, ↓ln_4, ↓is_3, ↓gR_3_2, ↓ld_7, ↓st_7, ↓ln_7, ↓gR_3_4, ↓ld_8, ↓st_8, ↓ln_8, hm, nI_ltI, hlt, if_true, ↓isOn_3', ↓c_within', ↓reduceIte, i10, av_cI_r, av_cL_r, av_cV_r, Option.bind_some, ↓zb_0, ↓zb_1, ↓zb_b, bI_0, nI_1, ih, anyN, spP_3]
    by_cases q1 : h.2.1 4 i = p <;> cases q2 : rg e (h.2.1 5 i).toInt (h.2.1 6 i).toInt <;> cases q3 : rg k (h.2.1 7 i).toInt (h.2.1 8 i).toInt <;> simp [q1, bI]
theorem cov_3 (w : WF h) {m : Nat} (hm : h.2.1 3 5 = nI m) (hN : m ≤ 20) (p e k : Int32) : ev X (d + 3) 113 [vr (some 3), vi p, vi e, vi k] h = av_rI (bI (anyN m 0 (spP_3 h p e k))) h := by
  rw [e_113, b_113_0]
  exact cov_lp_3 w hm hN p e k m 0 (by omega)
theorem cov_3' (w : WF h) {m : Nat} (hm : h.2.1 3 5 = nI m) (hN : m ≤ 20) (p e k : Int32) {β : Type} (Kc : Int32 × av_H → Option β) : (av_cI (ev X (d + 3) 113 [vr (some 3), vi p, vi e, vi k] h)).bind Kc = Kc (bI (anyN m 0 (spP_3 h p e k)), h) := by rw [cov_3 w hm hN p e k]; rfl
theorem isOn_9 (w : WF h) {i : Nat} (hi : i < 60) (e : Int32) : ev X (d + 2) 115 [vr (some 9), vi (nI i), vi e] h = av_rI (bI (rg e (h.2.1 11 i).toInt (h.2.1 12 i).toInt)) h := by
  simp (disch := first | ((repeat (first | with_reducible apply WF_uI | with_reducible apply WF_uL | with_reducible apply WF_th)); with_reducible assumption) | omega | (simp only [uI_1, uL_1, th_1, uI_R, uL_R]; with_reducible assumption)) only [e_115, b_115_0, ↓gR_9_1, ↓ld_11, ↓st_11, ↓ln_11, ↓gR_9_3, ↓ld_12, ↓st_12, ↓ln_12, ↓c_within', ↓reduceIte, i10, av_cI_r, av_cL_r, av_cV_r, Option.bind_some, ↓zb_0, ↓zb_1, ↓zb_b]
theorem isOn_9' (w : WF h) {i : Nat} (hi : i < 60) (e : Int32) {β : Type} (Kc : Int32 × av_H → Option β) : (av_cI (ev X (d + 2) 115 [vr (some 9), vi (nI i), vi e] h)).bind Kc = Kc (bI (rg e (h.2.1 11 i).toInt (h.2.1 12 i).toInt), h) := by rw [isOn_9 w hi e]; rfl
/-- row i covers place p on day e at hour k -/
def spP_9 (h : av_H) (p e k : Int32) (i : Nat) : Bool := decide (h.2.1 10 i = p) && rg e (h.2.1 11 i).toInt (h.2.1 12 i).toInt && rg k (h.2.1 13 i).toInt (h.2.1 14 i).toInt
theorem cov_lp_9 (w : WF h) {m : Nat} (hm : h.2.1 9 5 = nI m) (hN : m ≤ 60) (p e k : Int32) : ∀ n i, i + n = m → bd X (d + 2) 113 2 [(0, vr (some 9)), (1, vi p), (2, vi e), (3, vi k), (4, vi (nI i))] [] h = av_rI (bI (anyN n i (spP_9 h p e k))) h
  | 0, i, hi => by
    rw [b_113_2]
    simp (disch := first | ((repeat (first | with_reducible apply WF_uI | with_reducible apply WF_uL | with_reducible apply WF_th)); with_reducible assumption) | omega | (simp only [uI_1, uL_1, th_1, uI_R, uL_R]; with_reducible assumption)) only [↓gI_9_5, hm, nI_ltI, show ¬ i < m by omega, if_false, ↓reduceIte, i10, av_cI_r, av_cL_r, av_cV_r, Option.bind_some, ↓zb_0, ↓zb_1, ↓zb_b, anyN, bI_f]
  | n + 1, i, hi => by
    have hlt : i < m := by omega
    have hl2 : i < 60 := by omega
    have ih := cov_lp_9 w hm hN p e k n (i + 1) (by omega)
    rw [b_113_2]
    simp (disch := first | ((repeat (first | with_reducible apply WF_uI | with_reducible apply WF_uL | with_reducible apply WF_th)); with_reducible assumption) | omega | (simp only [uI_1, uL_1, th_1, uI_R, uL_R]; with_reducible assumption)) only [↓gI_9_5, ↓gR_9_0, ↓ld_10, ↓st_10, ↓ln_10, ↓is_9, ↓gR_9_2, ↓ld_13, ↓st_13, ↓ln_13, ↓gR_9_4, ↓ld_14, ↓st_14, ↓ln_14, hm, nI_ltI, hlt, if_true, ↓isOn_9', ↓c_within', ↓reduceIte, i10, av_cI_r, av_cL_r, av_cV_r, Option.bind_some, ↓zb_0, ↓zb_1, ↓zb_b, bI_0, nI_1, ih, anyN, spP_9]
    by_cases q1 : h.2.1 10 i = p <;> cases q2 : rg e (h.2.1 11 i).toInt (h.2.1 12 i).toInt <;> cases q3 : rg k (h.2.1 13 i).toInt (h.2.1 14 i).toInt <;> simp [q1, bI]
theorem cov_9 (w : WF h) {m : Nat} (hm : h.2.1 9 5 = nI m) (hN : m ≤ 60) (p e k : Int32) : ev X (d + 3) 113 [vr (some 9), vi p, vi e, vi k] h = av_rI (bI (anyN m 0 (spP_9 h p e k))) h := by
  rw [e_113, b_113_0]
  exact cov_lp_9 w hm hN p e k m 0 (by omega)
theorem cov_9' (w : WF h) {m : Nat} (hm : h.2.1 9 5 = nI m) (hN : m ≤ 60) (p e k : Int32) {β : Type} (Kc : Int32 × av_H → Option β) : (av_cI (ev X (d + 3) 113 [vr (some 9), vi p, vi e, vi k] h)).bind Kc = Kc (bI (anyN m 0 (spP_9 h p e k)), h) := by rw [cov_9 w hm hN p e k]; rfl
theorem isOn_15 (w : WF h) {i : Nat} (hi : i < 12) (e : Int32) : ev X (d + 2) 115 [vr (some 15), vi (nI i), vi e] h = av_rI (bI (rg e (h.2.1 17 i).toInt (h.2.1 18 i).toInt)) h := by
  simp (disch := first | ((repeat (first | with_reducible apply WF_uI | with_reducible apply WF_uL | with_reducible apply WF_th)); with_reducible assumption) | omega | (simp only [uI_1, uL_1, th_1, uI_R, uL_R]; with_reducible assumption)) only [e_115, b_115_0, ↓gR_15_1, ↓ld_17, ↓st_17, ↓ln_17, ↓gR_15_3, ↓ld_18, ↓st_18, ↓ln_18, ↓c_within', ↓reduceIte, i10, av_cI_r, av_cL_r, av_cV_r, Option.bind_some, ↓zb_0, ↓zb_1, ↓zb_b]
theorem isOn_15' (w : WF h) {i : Nat} (hi : i < 12) (e : Int32) {β : Type} (Kc : Int32 × av_H → Option β) : (av_cI (ev X (d + 2) 115 [vr (some 15), vi (nI i), vi e] h)).bind Kc = Kc (bI (rg e (h.2.1 17 i).toInt (h.2.1 18 i).toInt), h) := by rw [isOn_15 w hi e]; rfl
/-- row i covers place p on day e at hour k -/
def spP_15 (h : av_H) (p e k : Int32) (i : Nat) : Bool := decide (h.2.1 16 i = p) && rg e (h.2.1 17 i).toInt (h.2.1 18 i).toInt && rg k (h.2.1 19 i).toInt (h.2.1 20 i).toInt
theorem cov_lp_15 (w : WF h) {m : Nat} (hm : h.2.1 15 5 = nI m) (hN : m ≤ 12) (p e k : Int32) : ∀ n i, i + n = m → bd X (d + 2) 113 2 [(0, vr (some 15)), (1, vi p), (2, vi e), (3, vi k), (4, vi (nI i))] [] h = av_rI (bI (anyN n i (spP_15 h p e k))) h
  | 0, i, hi => by
    rw [b_113_2]
    simp (disch := first | ((repeat (first | with_reducible apply WF_uI | with_reducible apply WF_uL | with_reducible apply WF_th)); with_reducible assumption) | omega | (simp only [uI_1, uL_1, th_1, uI_R, uL_R]; with_reducible assumption)) only [↓gI_15_5, hm, nI_ltI, show ¬ i < m by omega, if_false, ↓reduceIte, i10, av_cI_r, av_cL_r, av_cV_r, Option.bind_some, ↓zb_0, ↓zb_1, ↓zb_b, anyN, bI_f]
  | n + 1, i, hi => by
    have hlt : i < m := by omega
    have hl2 : i < 12 := by omega
    have ih := cov_lp_15 w hm hN p e k n (i + 1) (by omega)
    rw [b_113_2]
    simp (disch := first | ((repeat (first | with_reducible apply WF_uI | with_reducible apply WF_uL | with_reducible apply WF_th)); with_reducible assumption) | omega | (simp only [uI_1, uL_1, th_1, uI_R, uL_R]; with_reducible assumption)) only [↓gI_15_5, ↓gR_15_0, ↓ld_16, ↓st_16, ↓ln_16, ↓is_15, ↓gR_15_2, ↓ld_19, ↓st_19, ↓ln_19, ↓gR_15_4, ↓ld_20, ↓st_20, ↓ln_20, hm, nI_ltI, hlt, if_true, ↓isOn_15', ↓c_within', ↓reduceIte, i10, av_cI_r, av_cL_r, av_cV_r, Option.bind_some, ↓zb_0, ↓zb_1, ↓zb_b, bI_0, nI_1, ih, anyN, spP_15]
    by_cases q1 : h.2.1 16 i = p <;> cases q2 : rg e (h.2.1 17 i).toInt (h.2.1 18 i).toInt <;> cases q3 : rg k (h.2.1 19 i).toInt (h.2.1 20 i).toInt <;> simp [q1, bI]
theorem cov_15 (w : WF h) {m : Nat} (hm : h.2.1 15 5 = nI m) (hN : m ≤ 12) (p e k : Int32) : ev X (d + 3) 113 [vr (some 15), vi p, vi e, vi k] h = av_rI (bI (anyN m 0 (spP_15 h p e k))) h := by
  rw [e_113, b_113_0]
  exact cov_lp_15 w hm hN p e k m 0 (by omega)
theorem cov_15' (w : WF h) {m : Nat} (hm : h.2.1 15 5 = nI m) (hN : m ≤ 12) (p e k : Int32) {β : Type} (Kc : Int32 × av_H → Option β) : (av_cI (ev X (d + 3) 113 [vr (some 15), vi p, vi e, vi k] h)).bind Kc = Kc (bI (anyN m 0 (spP_15 h p e k)), h) := by rw [cov_15 w hm hN p e k]; rfl
theorem gIv_137_23 {β : Type} {g : av_H} (w : WF g) {v : Int32} (e : g.2.1 137 23 = v) (K : Int32 → Option β) : (av_gI g (some 137) 11 23).bind K = K v := by rw [gI_137_23 w, e]
/-- the leaves on both sides -/
def J_lv (h : av_H) : Prop := ∃ m, m ≤ 60 ∧ h.2.1 9 5 = nI m ∧ h.2.1 137 23 = nI m ∧ ∀ i, i < m →
  h.2.1 155 i = h.2.1 10 i ∧ h.2.1 156 i = h.2.1 11 i ∧ h.2.1 12 i = h.2.1 11 i ∧ h.2.1 157 i = h.2.1 13 i ∧ h.2.1 158 i = h.2.1 14 i
def lvP (h : av_H) (t e k : Int32) (i : Nat) : Bool := decide (h.2.1 155 i = t) && decide (h.2.1 156 i = e) && rg k (h.2.1 157 i).toInt (h.2.1 158 i).toInt
theorem hasLeave_lp (w : WF h) {m : Nat} (hm : h.2.1 137 23 = nI m) (hN : m ≤ 60) (t e k : Int32) : ∀ n i b, i + n = m → bd X (d + 1) 269 4 [(0, vr (some 137)), (1, vi t), (2, vi e), (3, vi k), (4, vi (bI b)), (5, vi (nI i))] [] h = av_rI (bI (b || anyN n i (lvP h t e k))) h
  | 0, i, b, hi => by
    rw [b_269_4]
    simp (disch := first | ((repeat (first | with_reducible apply WF_uI | with_reducible apply WF_uL | with_reducible apply WF_th)); with_reducible assumption) | omega | (simp only [uI_1, uL_1, th_1, uI_R, uL_R]; with_reducible assumption)) only [↓gI_137_23, hm, nI_ltI, show ¬ i < m by omega, if_false, ↓reduceIte, i10, av_cI_r, av_cL_r, av_cV_r, Option.bind_some, ↓zb_0, ↓zb_1, ↓zb_b, anyN, Bool.or_false]
  | n + 1, i, b, hi => by
    have hlt : i < m := by omega
    have hl2 : i < 60 := by omega
    have i0 := hasLeave_lp w hm hN t e k n (i + 1) false (by omega)
    have i1 := hasLeave_lp w hm hN t e k n (i + 1) true (by omega)
    rw [bI_f] at i0
    rw [bI_t] at i1
    rw [b_269_4]
    simp (disch := first | ((repeat (first | with_reducible apply WF_uI | with_reducible apply WF_uL | with_reducible apply WF_th)); with_reducible assumption) | omega | (simp only [uI_1, uL_1, th_1, uI_R, uL_R]; with_reducible assumption)) only [↓gI_137_23, ↓gR_137_24, ↓ld_155, ↓st_155, ↓ln_155, ↓gR_137_25, ↓ld_156, ↓st_156, ↓ln_156, ↓gR_137_26, ↓ld_157, ↓st_157, ↓ln_157, ↓gR_137_27, ↓ld_158, ↓st_158, ↓ln_158, hm, nI_ltI, hlt, if_true, ↓s_within', ↓reduceIte, i10, av_cI_r, av_cL_r, av_cV_r, Option.bind_some, ↓zb_0, ↓zb_1, ↓zb_b, bI_0, nI_1, i0, i1, anyN, lvP]
    cases b <;> by_cases q1 : h.2.1 155 i = t <;> by_cases q2 : h.2.1 156 i = e <;> cases q3 : rg k (h.2.1 157 i).toInt (h.2.1 158 i).toInt <;> simp [q1, q2, bI]
theorem s_hasLeave (w : WF h) {m : Nat} (hm : h.2.1 137 23 = nI m) (hN : m ≤ 60) (t e k : Int32) : ev X (d + 2) 269 [vr (some 137), vi t, vi e, vi k] h = av_rI (bI (anyN m 0 (lvP h t e k))) h := by
  rw [e_269, b_269_0]
  exact hasLeave_lp w hm hN t e k m 0 false (by omega)
theorem s_hasLeave' (w : WF h) {m : Nat} (hm : h.2.1 137 23 = nI m) (hN : m ≤ 60) (t e k : Int32) {β : Type} (Kc : Int32 × av_H → Option β) : (av_cI (ev X (d + 2) 269 [vr (some 137), vi t, vi e, vi k] h)).bind Kc = Kc (bI (anyN m 0 (lvP h t e k)), h) := by rw [s_hasLeave w hm hN t e k]; rfl
/-- told and in bounds -/
def okL (h : av_H) (t e f g : Int32) : Bool := told h t && rg e 0 99 && (rg f 0 23 && rg g 0 23 && decide (f ≤ g))
theorem C_leave (w : WF h) (J : J_tow h) {m : Nat} (hm : h.2.1 9 5 = nI m) (hN : m ≤ 60) (t e f g : Int32) : ev X (d + 4) 133 [vr (some 0), vi t, vi e, vi f, vi g] h = av_rI (bI (okL h t e f g && decide (m < 60))) (if (okL h t e f g && decide (m < 60)) = true then spW_9 h m t e e f g else h) := by
  simp (disch := first | ((repeat (first | with_reducible apply WF_uI | with_reducible apply WF_uL | with_reducible apply WF_th)); with_reducible assumption) | omega | (simp only [uI_1, uL_1, th_1, uI_R, uL_R]; with_reducible assumption)) only [e_133, b_133_0, ↓is_0, ↓gR_0_3, ↓is_9, ↓c_isTold', ↓c_isDay', ↓c_areHours', ↓reduceIte, i10, av_cI_r, av_cL_r, av_cV_r, Option.bind_some, ↓zb_0, ↓zb_1, ↓zb_b, bI_0]
  cases q1 : told h t <;> cases q2 : rg e 0 99 <;> cases q3 : (rg f 0 23 && rg g 0 23 && decide (f ≤ g)) <;> simp (disch := first | ((repeat (first | with_reducible apply WF_uI | with_reducible apply WF_uL | with_reducible apply WF_th)); with_reducible assumption) | omega | (simp only [uI_1, uL_1, th_1, uI_R, uL_R]; with_reducible assumption)) only [okL, q1, q2, q3, if_true, if_false, Bool.true_and, Bool.false_and, Bool.and_false, Bool.true_eq_false, Bool.false_eq_true, bI_f, ↓add_9', ↓reduceIte, i10, av_cI_r, av_cL_r, av_cV_r, Option.bind_some, ↓zb_0, ↓zb_1, ↓zb_b, decide_eq_true_eq]
theorem C_leave' (w : WF h) (J : J_tow h) {m : Nat} (hm : h.2.1 9 5 = nI m) (hN : m ≤ 60) (t e f g : Int32) {β : Type} (Kc : Int32 × av_H → Option β) : (av_cI (ev X (d + 4) 133 [vr (some 0), vi t, vi e, vi f, vi g] h)).bind Kc = Kc (bI (okL h t e f g && decide (m < 60)), (if (okL h t e f g && decide (m < 60)) = true then spW_9 h m t e e f g else h)) := by rw [C_leave w J hm hN t e f g]; rfl
/-- a row of the reference's leaves is laid -/
def lvR (h : av_H) (m : Nat) (t e f g : Int32) : av_H := av_uI (av_uI (av_uI (av_uI (av_uI (th h) 155 m t) 156 m e) 157 m f) 158 m g) 137 23 (nI (m + 1))
theorem told_th {t : Int32} : told (th h) t = told h t := told_uI (by decide)
theorem R_leave0 (w : WF h) {m : Nat} (hm : h.2.1 137 23 = nI m) (hN : m ≤ 60) (t e f g : Int32) (ok : (okL h t e f g && decide (m < 60)) = false) : ev X (d + 3) 268 [vr (some 137), vi t, vi e, vi f, vi g] h = av_rI 0 (th h) := by
  have hg : (f ≤ g) = ¬ g < f := by simp only [eq_iff_iff]; exact Int32.not_lt.symm
  simp (disch := first | ((repeat (first | with_reducible apply WF_uI | with_reducible apply WF_uL | with_reducible apply WF_th)); with_reducible assumption) | omega | (simp (disch := omega) only [uI_ne, uI_nk, uI_eq, nI_1, th_I, th_k, hm]; done) | (simp only [uI_1, uL_1, th_1, uI_R, uL_R]; with_reducible assumption)) only [e_268, b_268_0, ↓gIv_137_23 (v := nI m), ↓pI_137, ↓is_137, th_e, ↓s_isTower', ↓s_isDay', ↓s_isHour', ↓reduceIte, i10, av_cI_r, av_cL_r, av_cV_r, Option.bind_some, ↓zb_0, ↓zb_1, ↓zb_b, bI_0, told_th]
  cases q1 : told h t <;> cases q2 : rg e 0 99 <;> cases q3 : rg f 0 23 <;> cases q4 : rg g 0 23 <;> simp only [↓reduceIte, Bool.true_eq_false]
  by_cases q5 : g < f
  · simp only [q5, ↓reduceIte]
  have q6 : m = 60 := by
    have : ¬ m < 60 := by simpa [okL, q1, q2, q3, q4, hg, q5] using ok
    omega
  simp only [q5, q6, ↓reduceIte, nI_lit]
theorem R_leave1 (w : WF h) {m : Nat} (hm : h.2.1 137 23 = nI m) (hN : m ≤ 60) (t e f g : Int32) (ok : (okL h t e f g && decide (m < 60)) = true) : ev X (d + 3) 268 [vr (some 137), vi t, vi e, vi f, vi g] h = av_rI 1 (lvR h m t e f g) := by
  have hg : (f ≤ g) = ¬ g < f := by simp only [eq_iff_iff]; exact Int32.not_lt.symm
  simp only [okL, hg, Bool.and_eq_true, decide_eq_true_eq] at ok
  obtain ⟨⟨⟨q1, q2⟩, ⟨q3, q4⟩, q5⟩, q⟩ := ok
  have q6 : ¬ m = 60 := by omega
  simp (disch := first | ((repeat (first | with_reducible apply WF_uI | with_reducible apply WF_uL | with_reducible apply WF_th)); with_reducible assumption) | omega | (simp (disch := omega) only [uI_ne, uI_nk, uI_eq, nI_1, th_I, th_k, hm]; done) | (simp only [uI_1, uL_1, th_1, uI_R, uL_R]; with_reducible assumption)) only [e_268, b_268_0, ↓gIv_137_23 (v := nI m), ↓pI_137, ↓is_137, ↓gR_137_24, ↓ld_155, ↓st_155, ↓ln_155, ↓gR_137_25, ↓ld_156, ↓st_156, ↓ln_156, ↓gR_137_26, ↓ld_157, ↓st_157, ↓ln_157, ↓gR_137_27, ↓ld_158, ↓st_158, ↓ln_158, th_e, ↓s_isTower', ↓s_isDay', ↓s_isHour', ↓reduceIte, i10, av_cI_r, av_cL_r, av_cV_r, Option.bind_some, ↓zb_0, ↓zb_1, ↓zb_b, bI_0, told_th, q1, q2, q3, q4, q5, q6, lit_60, nI_1, nI_eq, Bool.true_eq_false, lvR]
theorem J_lv.fr {h h' : av_H} (J : J_lv h) (A : agr (FP false [10, 11, 12, 13, 14, 155, 156, 157, 158] [(9, 5), (137, 23)]) h h') : J_lv h' := by
  obtain ⟨m, h1, h2, h3, h4⟩ := J
  refine ⟨m, h1, (A.I rfl).trans h2, (A.I rfl).trans h3, fun i hi => ?_⟩
  rw [A.I rfl, A.I rfl, A.I rfl, A.I rfl, A.I rfl, A.I rfl, A.I rfl, A.I rfl, A.I rfl]
  exact h4 i hi
theorem okL_eq {h h' : av_H} (e : ∀ k, h'.2.1 143 k = h.2.1 143 k) (t a b c : Int32) : okL h' t a b c = okL h t a b c := by simp only [okL, told, e]
theorem leave_ok (w : WF h) (J : J_tow h) (L : J_lv h) (t e f g : Int32) : ∃ v h1 h2, ev X (d + 4) 133 [vr (some 0), vi t, vi e, vi f, vi g] h = av_rI v h1 ∧ ev X (d + 4) 268 [vr (some 137), vi t, vi e, vi f, vi g] h1 = av_rI v h2 ∧ WF h2 ∧ J_lv h2 ∧
    off false [10, 11, 12, 13, 14, 155, 156, 157, 158] [(9, 5), (137, 23), (137, 0)] h h2 := by
  obtain ⟨m, hN, hm, hr, hi⟩ := L
  by_cases ok : (okL h t e f g && decide (m < 60)) = true
  · refine ⟨1, spW_9 h m t e e f g, lvR (spW_9 h m t e e f g) m t e f g, ?_, ?_, w, ?_, ?_⟩
    · rw [C_leave w J hm hN, ok, if_pos rfl, bI_t]
    · exact R_leave1 (d := d + 1) (h := spW_9 h m t e e f g) w (m := m) (by simp (disch := omega) only [spW_9, uI_ne, hr]) hN t e f g (by rw [okL_eq (h := h) (fun k => by simp (disch := omega) only [spW_9, uI_ne])]; exact ok)
    · have h60 : m < 60 := by simp only [Bool.and_eq_true, decide_eq_true_eq] at ok; exact ok.2
      refine ⟨m + 1, by omega, ?_, ?_, fun i hi' => ?_⟩
      · simp (disch := omega) only [lvR, spW_9, th, uI_ne, uI_nk, uI_eq]
      · simp (disch := omega) only [lvR, uI_eq]
      · by_cases q : i = m
        · subst q
          simp (disch := omega) only [lvR, spW_9, th, uI_ne, uI_nk, uI_eq, and_self]
        · simp (disch := omega) only [lvR, spW_9, th, uI_ne, uI_nk, uI_eq]
          exact hi i (by omega)
    · unfold lvR spW_9 th off
      repeat (first | refine agr.uI rfl ?_ | exact agr.rfl)
  · refine ⟨0, h, th h, ?_, ?_, w, ?_, ?_⟩
    · rw [C_leave w J hm hN, if_neg ok, Bool.eq_false_iff.mpr ok, bI_f]
    · exact R_leave0 (d := d + 1) w hr hN t e f g (Bool.eq_false_iff.mpr ok)
    · exact J_lv.fr ⟨m, hN, hm, hr, hi⟩ (agr.uI rfl agr.rfl)
    · exact agr.uI rfl agr.rfl
end
