/-! marks -/
/-- n places copied -/
def cpF (f : Nat → Int32) (o : Nat) (g : Nat → Int32) (n : Nat) : Nat → Int32 := fun j => if o ≤ j ∧ j < o + n then g (j - o) else f j
theorem cpF_0 {f g : Nat → Int32} {o : Nat} : cpF f o g 0 = f := by
  funext j
  rw [cpF, if_neg (by omega)]
theorem cpF_s {f g : Nat → Int32} {o n : Nat} : upd (cpF f o g n) (o + n) (g n) = cpF f o g (n + 1) := by
  funext j
  by_cases z : j = o + n
  · rw [z, pk_us, cpF, if_pos (by omega), show o + n - o = n by omega]
  · rw [pk_un z, cpF, cpF]
    by_cases y : o ≤ j ∧ j < o + n
    · rw [if_pos y, if_pos (by omega)]
    · rw [if_neg y, if_neg (by omega)]
theorem cpF_in {f g : Nat → Int32} {o n i : Nat} (hi : i < n) : cpF f o g n (o + i) = g i := by rw [cpF, if_pos (by omega), show o + i - o = i by omega]
theorem cpF_out {f g : Nat → Int32} {o n j : Nat} (hj : j < o ∨ o + n ≤ j) : cpF f o g n j = f j := by rw [cpF, if_neg (by omega)]
/-- what was laid later than k is taken away -/
def erF (f : Nat → Int32) (k n : Nat) : Nat → Int32 := fun j => if j < n ∧ f k < f j then 0 else f j
theorem erF_0 {f : Nat → Int32} {k : Nat} : erF f k 0 = f := by
  funext j
  rw [erF, if_neg (fun z => by omega)]
theorem erF_y {f : Nat → Int32} {k n : Nat} (q : f k < f n) : upd (erF f k n) n 0 = erF f k (n + 1) := by
  funext j
  by_cases z : j = n
  · rw [z, pk_us, erF, if_pos ⟨by omega, q⟩]
  · rw [pk_un z, erF, erF]
    by_cases y : j < n ∧ f k < f j
    · rw [if_pos y, if_pos ⟨by omega, y.2⟩]
    · rw [if_neg y, if_neg (fun x => y ⟨by omega, x.2⟩)]
theorem erF_n {f : Nat → Int32} {k n : Nat} (q : ¬ f k < f n) : erF f k n = erF f k (n + 1) := by
  funext j
  rw [erF, erF]
  by_cases y : j < n ∧ f k < f j
  · rw [if_pos y, if_pos ⟨by omega, y.2⟩]
  · rw [if_neg y, if_neg (fun x => by
      by_cases z : j = n
      · rw [z] at x; exact q x.2
      · exact y ⟨by omega, x.2⟩)]
theorem erF_w {f : Nat → Int32} {k n : Nat} (q : ¬ f k < f n) : upd (erF f k n) n (f n) = erF f k (n + 1) := by
  rw [← erF_n q]
  funext j
  by_cases z : j = n
  · rw [z, pk_us, erF, if_neg (fun y => by omega)]
  · rw [pk_un z]
theorem i_irr (x : Int32) : ¬ x < x := fun z => by rw [i_lt] at z; omega
theorem erF_k {f : Nat → Int32} {k n : Nat} : erF f k n k = f k := by rw [erF, if_neg (fun z => i_irr _ z.2)]
theorem erF_a {f : Nat → Int32} {k n : Nat} : erF f k n n = f n := by rw [erF, if_neg (fun z => by omega)]
/-- the worn rope of the class's tower t -/
def wnI (h : av_H) (t : Nat) : Int32 := match h.2.2.2 1 t with
  | none => 0
  | some a => h.2.1 a 4
/-- the ropes as they were held at place p -/
def rcH (h : av_H) (p : Nat) : Nat → av_H
  | 0 => h
  | n + 1 => match h.2.2.2 1 n with
    | none => rcH h p n
    | some a => av_uI (rcH h p n) a 4 (h.2.1 62 (p * 6 + n))
theorem rcH_R {h : av_H} {p : Nat} : ∀ n, (rcH h p n).2.2.2 = h.2.2.2 ∧ (rcH h p n).1 = h.1 ∧ (rcH h p n).2.2.1 = h.2.2.1
  | 0 => ⟨rfl, rfl, rfl⟩
  | n + 1 => by
    rw [rcH]
    cases h.2.2.2 1 n with
    | none => exact rcH_R n
    | some a => exact rcH_R (p := p) n
theorem rcH_w {h : av_H} {p : Nat} (w : WF h) : ∀ n, WF (rcH h p n)
  | 0 => w
  | n + 1 => by
    rw [rcH]
    cases h.2.2.2 1 n with
    | none => exact rcH_w w n
    | some a => exact rcH_w w n
theorem rcH_ne {h : av_H} {p b : Nat} (T : ∀ t a, t < 6 → h.2.2.2 1 t = some a → a ≠ b) : ∀ n, n ≤ 6 → (rcH h p n).2.1 b = h.2.1 b
  | 0, _ => rfl
  | n + 1, hn => by
    rw [rcH]
    cases e : h.2.2.2 1 n with
    | none => exact rcH_ne T n (by omega)
    | some a =>
      show (av_uI (rcH h p n) a 4 _).2.1 b = _
      rw [uI_ne (fun z => T n a (by omega) e z.symm)]
      exact rcH_ne T n (by omega)
theorem rcH_t {h : av_H} {p : Nat} (J : ∀ t u a b, t < 6 → u < 6 → t ≠ u → h.2.2.2 1 t = some a → h.2.2.2 1 u = some b → a ≠ b) {t a : Nat} (e : h.2.2.2 1 t = some a) : ∀ n, n ≤ 6 → t < n → (rcH h p n).2.1 a 4 = h.2.1 62 (p * 6 + t)
  | 0, _, ht => absurd ht (by omega)
  | n + 1, hn, ht => by
    rw [rcH]
    by_cases z : t = n
    · rw [← z, e]
      exact uI_eq
    · cases y : h.2.2.2 1 n with
      | none => exact rcH_t J e n (by omega) (by omega)
      | some b =>
        show (av_uI (rcH h p n) b 4 _).2.1 a 4 = _
        rw [uI_ne (J t n a b (by omega) (by omega) z e y)]
        exact rcH_t J e n (by omega) (by omega)
theorem rcH_a {h : av_H} {p : Nat} {F : Nat → Nat → Bool} (q : ∀ t a, t < 6 → h.2.2.2 1 t = some a → F a 4 = false) : ∀ n, n ≤ 6 → agr F h (rcH h p n)
  | 0, _ => agr.rfl
  | n + 1, hn => by
    rw [rcH]
    cases e : h.2.2.2 1 n with
    | none => exact rcH_a q n (by omega)
    | some a => exact agr.uI (q n a (by omega) e) (rcH_a q n (by omega))
section
variable {X : av_X} {d : Nat} {h : av_H}
theorem hd_lp (w : WF h) {p m : Nat} (p5 : p < 5) (TK : ∀ t a, t < 6 → h.2.2.2 1 t = some a → 226 ≤ a ∧ h.1[a]? = some (9, 0)) : ∀ n i, i + n = 6 → bd X (d + 1) 21 13 [(0, vr (some 60)), (1, vi (nI p)), (3, vr (some 1)), (4, vi (nI i))] [] (setC (av_uI h 61 p (nI m)) 62 (cpF (h.2.1 62) (p * 6) (wnI h) i)) = av_rV (setC (av_uI h 61 p (nI m)) 62 (cpF (h.2.1 62) (p * 6) (wnI h) 6))
  | 0, i, hi => by
    obtain rfl : i = 6 := by omega
    rw [b_21_13, if_neg (show ¬ nI 6 < 6 by decide)]
  | n + 1, i, hi => by
    have ih := hd_lp w (m := m) p5 TK n (i + 1) (by omega)
    have w' : WF (setC (av_uI h 61 p (nI m)) 62 (cpF (h.2.1 62) (p * 6) (wnI h) i)) := w
    have eR : (setC (av_uI h 61 p (nI m)) 62 (cpF (h.2.1 62) (p * 6) (wnI h) i)).2.2.2 1 i = h.2.2.2 1 i := rfl
    rw [← cpF_s] at ih
    rw [b_21_13, if_pos (show nI i < 6 from nI_lt (b := 6) (by omega) (by omega)), ln_1 w', if_pos (nI_lt (by omega) (by omega)), gR_60_1 w', ld_1 w' (by omega), eR, show (6 : Int32) = nI 6 from rfl, pk_mul, nI_add, nI_1]
    cases e : h.2.2.2 1 i with
    | none =>
      rw [show wnI h i = 0 by unfold wnI; rw [e]] at ih
      rw [if_pos (show (none : Option Nat).isNone = true from rfl), st_62 w' (by omega), setC_u]
      exact ih
    | some a =>
      rw [show wnI h i = h.2.1 a 4 by unfold wnI; rw [e]] at ih
      obtain ⟨a1, a2⟩ := TK i a (by omega) e
      have v4 : (setC (av_uI h 61 p (nI m)) 62 (cpF (h.2.1 62) (p * 6) (wnI h) i)).2.1 a 4 = h.2.1 a 4 := by rw [setC_ne (by omega), uI_ne (by omega)]
      rw [if_neg (show ¬ (some a : Option Nat).isNone = true from Bool.false_ne_true), ld_1 w' (by omega), eR, e, tw_gIv (g := setC (av_uI h 61 p (nI m)) 62 (cpF (h.2.1 62) (p * 6) (wnI h) i)) a2 v4, st_62 w' (by omega), setC_u]
      exact ih
theorem c_hold (w : WF h) {p m : Nat} (p5 : p < 5) (TK : ∀ t a, t < 6 → h.2.2.2 1 t = some a → 226 ≤ a ∧ h.1[a]? = some (9, 0)) : ev X (d + 2) 21 [vr (some 60), vi (nI p), vi (nI m), vr (some 1)] h = av_rV (setC (av_uI h 61 p (nI m)) 62 (cpF (h.2.1 62) (p * 6) (wnI h) 6)) := by
  have lp := hd_lp (X := X) (d := d) w (m := m) p5 TK 6 0 (by omega)
  have e0 : setC (av_uI h 61 p (nI m)) 62 (cpF (h.2.1 62) (p * 6) (wnI h) 0) = av_uI h 61 p (nI m) := by
    rw [cpF_0, show h.2.1 62 = (av_uI h 61 p (nI m)).2.1 62 from (uI_ne (by decide)).symm, setC_id]
  rw [e0] at lp
  rw [e_21, b_21_0, c_within', tI_0, tI_4, show rg (nI p) 0 4 = true from rg_lt2 (n := 4) (by omega) (by omega), if_neg (show ¬ bI true = 0 by decide), gR_60_0 w, st_61 w p5]
  exact lp
theorem rl_lp (w : WF h) {p : Nat} (p5 : p < 5) (TK : ∀ t a, t < 6 → h.2.2.2 1 t = some a → 226 ≤ a ∧ h.1[a]? = some (9, 0)) : ∀ n i, i + n = 6 → bd X (d + 1) 22 9 [(0, vr (some 60)), (1, vi (nI p)), (2, vr (some 1)), (3, vi (nI i))] [] (rcH h p i) = av_rI (h.2.1 61 p) (rcH h p 6)
  | 0, i, hi => by
    obtain rfl : i = 6 := by omega
    have w' := rcH_w (p := p) w 6
    rw [b_22_9, if_neg (show ¬ nI 6 < 6 by decide), gR_60_0 w', ld_61 w' p5, rcH_ne (fun t a ht e z => by have := (TK t a ht e).1; omega) 6 (by omega)]
  | n + 1, i, hi => by
    have ih := rl_lp w p5 TK n (i + 1) (by omega)
    have w' := rcH_w (p := p) w i
    have eR : (rcH h p i).2.2.2 1 i = h.2.2.2 1 i := by rw [(rcH_R i).1]
    rw [b_22_9, if_pos (show nI i < 6 from nI_lt (b := 6) (by omega) (by omega)), ln_1 w', if_pos (nI_lt (by omega) (by omega)), ld_1 w' (by omega), eR, nI_1]
    rw [rcH] at ih
    cases e : h.2.2.2 1 i with
    | none =>
      rw [e] at ih
      rw [if_pos (show (none : Option Nat).isNone = true from rfl)]
      exact ih
    | some a =>
      rw [e] at ih
      obtain ⟨a1, a2⟩ := TK i a (by omega) e
      rw [if_neg (show ¬ (some a : Option Nat).isNone = true from Bool.false_ne_true), ld_1 w' (by omega), eR, e, gR_60_1 w', show (6 : Int32) = nI 6 from rfl, pk_mul, nI_add, ld_62 w' (by omega), rcH_ne (fun t a ht e z => by have := (TK t a ht e).1; omega) i (by omega), tw_pI (by rw [(rcH_R i).2.1]; exact a2)]
      exact ih
theorem c_recall (w : WF h) {p : Nat} (p5 : p < 5) (TK : ∀ t a, t < 6 → h.2.2.2 1 t = some a → 226 ≤ a ∧ h.1[a]? = some (9, 0)) : ev X (d + 2) 22 [vr (some 60), vi (nI p), vr (some 1)] h = av_rI (h.2.1 61 p) (rcH h p 6) := by
  rw [e_22, b_22_0, c_within', tI_0, tI_4, show rg (nI p) 0 4 = true from rg_lt2 (n := 4) (by omega) (by omega), if_neg (show ¬ bI true = 0 by decide)]
  exact rl_lp w p5 TK 6 0 (by omega)
theorem gb_lp (w : WF h) {k : Nat} (k4 : k < 4) (TK : ∀ t a, t < 6 → h.2.2.2 1 t = some a → 226 ≤ a ∧ h.1[a]? = some (9, 0)) : ∀ n i, i + n = 4 → bd X (d + 2) 20 2 [(0, vr (some 60)), (1, vi (nI k)), (2, vr (some 1)), (3, vi (nI i))] [] (setC h 63 (erF (h.2.1 63) k i)) = av_rI (h.2.1 61 k) (rcH (setC h 63 (erF (h.2.1 63) k 4)) k 6)
  | 0, i, hi => by
    obtain rfl : i = 4 := by omega
    have w' : WF (setC h 63 (erF (h.2.1 63) k 4)) := w
    rw [b_20_2, if_neg (show ¬ nI 4 < 4 by decide), is_60 w', c_recall w' (by omega) TK, av_cI_r, Option.bind_some, setC_ne (by decide)]
  | n + 1, i, hi => by
    have ih := gb_lp w k4 TK n (i + 1) (by omega)
    have w' : WF (setC h 63 (erF (h.2.1 63) k i)) := w
    rw [b_20_2, if_pos (show nI i < 4 from nI_lt (b := 4) (by omega) (by omega)), c_below', tI_4, show rg (nI k) 0 ((4 : Int) - 1) = true from rg_lt2 (n := 3) (by omega) (by omega), if_neg (show ¬ bI true = 0 by decide), gR_60_2 w', ld_63 w' (by omega), gR_60_2 w', ld_63 w' k4, setC_eq, erF_k, erF_a, nI_1]
    by_cases q : h.2.1 63 k < h.2.1 63 i
    · rw [← erF_y q] at ih
      rw [if_pos q, gR_60_2 w', st_63 w' (by omega), setC_u]
      exact ih
    · rw [← erF_n q] at ih
      rw [if_neg q]
      exact ih
theorem c_goBack (w : WF h) {k : Nat} (k4 : k < 4) (TK : ∀ t a, t < 6 → h.2.2.2 1 t = some a → 226 ≤ a ∧ h.1[a]? = some (9, 0)) : ev X (d + 3) 20 [vr (some 60), vi (nI k), vr (some 1)] h = av_rI (h.2.1 61 k) (rcH (setC h 63 (erF (h.2.1 63) k 4)) k 6) := by
  have lp := gb_lp (X := X) (d := d) w k4 TK 4 0 (by omega)
  rw [erF_0, setC_id] at lp
  rw [e_20, b_20_0]
  exact lp
/-! the reference -/
theorem sm_er (w : WF h) {k : Nat} {v2 : Int32} (k4 : k < 4) : ∀ n i, i + n = 4 → bd X (d + 1) 375 27 [(0, vr (some 137)), (1, vi (nI k)), (2, vi v2), (3, vi (nI i))] [] (setC h 221 (erF (h.2.1 221) k i)) = bd X (d + 1) 375 72 [(0, vr (some 137)), (1, vi (nI k)), (2, vi v2), (3, vi 0)] [] (setC h 221 (erF (h.2.1 221) k 4))
  | 0, i, hi => by
    obtain rfl : i = 4 := by omega
    rw [b_375_27, if_neg (show ¬ nI 4 < 4 by decide)]
  | n + 1, i, hi => by
    have ih := sm_er w (v2 := v2) k4 n (i + 1) (by omega)
    have w' : WF (setC h 221 (erF (h.2.1 221) k i)) := w
    rw [b_375_27, if_pos (show nI i < 4 from nI_lt (b := 4) (by omega) (by omega)), gR_137_106 w', gR_137_106 w', ld_221 w' (by omega), gR_137_106 w', ld_221 w' k4, setC_eq, erF_k, erF_a, nI_1]
    by_cases q : h.2.1 221 k < h.2.1 221 i
    · rw [← erF_y q] at ih
      rw [if_pos q, st_221 w' (by omega), setC_u]
      exact ih
    · rw [← erF_w q] at ih
      rw [if_neg q, gR_137_106 w', ld_221 w' (by omega), setC_eq, erF_a, st_221 w' (by omega), setC_u]
      exact ih
theorem sm_wl (w : WF h) {k : Nat} (k4 : k < 4) : ∀ n i, i + n = 6 → bd X (d + 1) 375 72 [(0, vr (some 137)), (1, vi (nI k)), (2, vi 0), (3, vi (nI i))] [] (setC h 223 (cpF (h.2.1 223) (6 * k) (h.2.1 150) i)) = bd X (d + 1) 375 106 [(0, vr (some 137)), (1, vi (nI k)), (2, vi 0), (3, vi 0)] [] (setC h 223 (cpF (h.2.1 223) (6 * k) (h.2.1 150) 6))
  | 0, i, hi => by
    obtain rfl : i = 6 := by omega
    rw [b_375_72, if_neg (show ¬ nI 6 < 6 by decide)]
  | n + 1, i, hi => by
    have ih := sm_wl w k4 n (i + 1) (by omega)
    have w' : WF (setC h 223 (cpF (h.2.1 223) (6 * k) (h.2.1 150) i)) := w
    rw [← cpF_s] at ih
    rw [b_375_72, if_pos (show nI i < 6 from nI_lt (b := 6) (by omega) (by omega)), if_pos rfl, gR_137_108 w', gR_137_17 w', ld_150 w' (by omega), setC_ne (by decide), show (6 : Int32) = nI 6 from rfl, pk_mul, nI_add, st_223 w' (by omega), setC_u, nI_1]
    exact ih
theorem sm_wb (w : WF h) {k : Nat} {v2 : Int32} (z : ¬ v2 = 0) (k4 : k < 4) : ∀ n i, i + n = 6 → bd X (d + 1) 375 72 [(0, vr (some 137)), (1, vi (nI k)), (2, vi v2), (3, vi (nI i))] [] (setC h 150 (cpF (h.2.1 150) 0 (fun i => h.2.1 223 (6 * k + i)) i)) = bd X (d + 1) 375 106 [(0, vr (some 137)), (1, vi (nI k)), (2, vi v2), (3, vi 0)] [] (setC h 150 (cpF (h.2.1 150) 0 (fun i => h.2.1 223 (6 * k + i)) 6))
  | 0, i, hi => by
    obtain rfl : i = 6 := by omega
    rw [b_375_72, if_neg (show ¬ nI 6 < 6 by decide)]
  | n + 1, i, hi => by
    have ih := sm_wb w z k4 n (i + 1) (by omega)
    have w' : WF (setC h 150 (cpF (h.2.1 150) 0 (fun i => h.2.1 223 (6 * k + i)) i)) := w
    rw [← cpF_s, Nat.zero_add] at ih
    rw [b_375_72, if_pos (show nI i < 6 from nI_lt (b := 6) (by omega) (by omega)), if_neg z, gR_137_17 w', gR_137_108 w', show (6 : Int32) = nI 6 from rfl, pk_mul, nI_add, ld_223 w' (by omega), setC_ne (by decide), st_150 w' (by omega), setC_u, nI_1]
    exact ih
theorem sm_pl (w : WF h) {k : Nat} (k4 : k < 4) : ∀ n i, i + n = 2880 → bd X (d + 1) 375 106 [(0, vr (some 137)), (1, vi (nI k)), (2, vi 0), (3, vi (nI i))] [] (setC h 224 (cpF (h.2.1 224) (2880 * k) (h.2.1 146) i)) = av_rI 1 (setC h 224 (cpF (h.2.1 224) (2880 * k) (h.2.1 146) 2880))
  | 0, i, hi => by
    obtain rfl : i = 2880 := by omega
    rw [b_375_106, if_neg (show ¬ nI 2880 < 2880 by decide)]
    rfl
  | n + 1, i, hi => by
    have ih := sm_pl w k4 n (i + 1) (by omega)
    have w' : WF (setC h 224 (cpF (h.2.1 224) (2880 * k) (h.2.1 146) i)) := w
    rw [← cpF_s] at ih
    rw [b_375_106, if_pos (show nI i < 2880 from nI_lt (b := 2880) (by omega) (by omega)), if_pos rfl, gR_137_109 w', gR_137_13 w', ld_146 w' (by omega), setC_ne (by decide), show (2880 : Int32) = nI 2880 from rfl, pk_mul, nI_add, st_224 w' (by omega), setC_u, nI_1]
    exact ih
theorem sm_pb (w : WF h) {k : Nat} {v2 : Int32} (z : ¬ v2 = 0) (k4 : k < 4) : ∀ n i, i + n = 2880 → bd X (d + 1) 375 106 [(0, vr (some 137)), (1, vi (nI k)), (2, vi v2), (3, vi (nI i))] [] (setC h 146 (cpF (h.2.1 146) 0 (fun i => h.2.1 224 (2880 * k + i)) i)) = av_rI 1 (setC h 146 (cpF (h.2.1 146) 0 (fun i => h.2.1 224 (2880 * k + i)) 2880))
  | 0, i, hi => by
    obtain rfl : i = 2880 := by omega
    rw [b_375_106, if_neg (show ¬ nI 2880 < 2880 by decide)]
    rfl
  | n + 1, i, hi => by
    have ih := sm_pb w z k4 n (i + 1) (by omega)
    have w' : WF (setC h 146 (cpF (h.2.1 146) 0 (fun i => h.2.1 224 (2880 * k + i)) i)) := w
    rw [← cpF_s, Nat.zero_add] at ih
    rw [b_375_106, if_pos (show nI i < 2880 from nI_lt (b := 2880) (by omega) (by omega)), if_neg z, gR_137_13 w', gR_137_109 w', show (2880 : Int32) = nI 2880 from rfl, pk_mul, nI_add, ld_224 w' (by omega), setC_ne (by decide), st_146 w' (by omega), setC_u, nI_1]
    exact ih
end
