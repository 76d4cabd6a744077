/-! buy -/
def csN (c : Nat → Nat) (S : Nat) : Nat := sN (fun o => if S.testBit o = true then c o else 0) 8
def OfC (h : av_H) (m c f : Nat → Nat) : Prop := ∀ o, o < 8 → m o ≤ 6 ∧ h.2.1 59 o = nI (m o) ∧ (0 < m o → c o ≤ 9999 ∧ f o < 64 ∧ h.2.1 57 o = nI (c o) ∧ h.2.1 58 o = nI (f o))
def OfR (h : av_H) (m c f : Nat → Nat) : Prop := ∀ o, o < 8 → m o ≤ 6 ∧ h.2.1 195 o = nI (m o) ∧ (0 < m o → c o ≤ 9999 ∧ f o < 64 ∧ h.2.1 193 o = nI (c o) ∧ h.2.1 194 o = nI (f o))
/-- nothing is given away between calls -/
def J_sv (h : av_H) : Prop := ∀ o, o < 8 → h.2.1 196 o = 0
theorem J_sv.fr {h h' : av_H} (J : J_sv h) (A : agr (FP false [196] []) h h') : J_sv h' := fun o ho => (A.I rfl).trans (J o ho)
theorem J_of.E {h : av_H} (J : J_of h) : ∃ m c f, OfC h m c f ∧ OfR h m c f := by
  have K : ∀ o, ∃ z : Nat × Nat × Nat, o < 8 → z.1 ≤ 6 ∧ h.2.1 59 o = nI z.1 ∧ h.2.1 195 o = nI z.1 ∧ (0 < z.1 → z.2.1 ≤ 9999 ∧ z.2.2 < 64 ∧ h.2.1 57 o = nI z.2.1 ∧ h.2.1 193 o = nI z.2.1 ∧ h.2.1 58 o = nI z.2.2 ∧ h.2.1 194 o = nI z.2.2) := fun o => by
    by_cases ho : o < 8
    · obtain ⟨c, t, m, h1, h2, h3, h4, h5, h6⟩ := J o ho
      exact ⟨(m, c, t), fun _ => ⟨h3, h4, h5, fun y => ⟨h1, h2, (h6 y).1, (h6 y).2.1, (h6 y).2.2.1, (h6 y).2.2.2⟩⟩⟩
    · exact ⟨(0, 0, 0), fun y => absurd y ho⟩
  refine ⟨fun o => (Classical.choose (K o)).1, fun o => (Classical.choose (K o)).2.1, fun o => (Classical.choose (K o)).2.2, fun o ho => ?_, fun o ho => ?_⟩
  · obtain ⟨z1, z2, z3, z4⟩ := Classical.choose_spec (K o) ho
    exact ⟨z1, z2, fun y => ⟨(z4 y).1, (z4 y).2.1, (z4 y).2.2.1, (z4 y).2.2.2.2.1⟩⟩
  · obtain ⟨z1, z2, z3, z4⟩ := Classical.choose_spec (K o) ho
    exact ⟨z1, z3, fun y => ⟨(z4 y).1, (z4 y).2.1, (z4 y).2.2.2.1, (z4 y).2.2.2.2.2⟩⟩
theorem upd_id {f : Nat → Int32} {k : Nat} : upd f k (f k) = f := by
  funext j
  by_cases z : j = k
  · rw [z, pk_us]
  · rw [pk_un z]
theorem uI_back {h : av_H} {a k : Nat} {x : Int32} : av_uI (av_uI h a k x) a k (h.2.1 a k) = h := by
  rw [uI_set, uI_set, setC_2, setC_eq]
  have e : upd (upd (h.2.1 a) k x) k (h.2.1 a k) = h.2.1 a := by
    funext j
    by_cases z : j = k
    · rw [z, pk_us]
    · rw [pk_un z, pk_un z]
  rw [e, setC_id]
theorem sN_b {g : Nat → Nat} {B : Nat} : ∀ n, (∀ i, i < n → g i ≤ B) → sN g n ≤ n * B
  | 0, _ => by rw [sN]; omega
  | n + 1, q => by
    have := sN_b n (fun i hi => q i (by omega))
    have := q n (by omega)
    rw [sN, Nat.succ_mul]
    omega
theorem add0I (x : Nat) : nI x + (0 : Int32) = nI x := by
  show nI x + nI 0 = _
  rw [nI_add, Nat.add_zero]
section
variable {X : av_X} {d : Nat} {h : av_H}
theorem cc_lp (w : WF h) {m c f : Nat → Nat} (O : OfC h m c f) {S : Nat} (S8 : S < 256) (sub : ∀ o, o < 8 → S.testBit o = true → 0 < m o) : ∀ n o, o + n = 8 → bd X (d + 1) 106 4 [(0, vr (some 56)), (1, vi (nI S)), (2, vi (nI (sN (fun o => if S.testBit o = true then c o else 0) o))), (3, vi (nI o))] [] h = av_rI (nI (csN c S)) h
  | 0, o, ho => by
    obtain rfl : o = 8 := by omega
    rw [b_106_4, if_neg (show ¬ nI 8 < 8 by decide)]
    rfl
  | n + 1, o, ho => by
    have ih := cc_lp w O S8 sub n (o + 1) (by omega)
    rw [sN] at ih
    rw [b_106_4, if_pos (show nI o < 8 from nI_lt (b := 8) (by omega) (by omega)), c_hasBit' (by omega) (by omega), nI_1]
    cases z : S.testBit o with
    | false =>
      rw [z, if_neg (by decide), Nat.add_zero] at ih
      rw [if_pos (show bI false = 0 from rfl), add0I]
      exact ih
    | true =>
      obtain ⟨-, -, o3⟩ := O o (by omega)
      rw [z, if_pos rfl] at ih
      rw [if_neg (show ¬ bI true = 0 by decide), gR_56_0 w, ld_57 w (by omega), (o3 (sub o (by omega) z)).2.2.1, nI_add]
      exact ih
theorem c_cost (w : WF h) {m c f : Nat → Nat} (O : OfC h m c f) {S : Nat} (S8 : S < 256) (sub : ∀ o, o < 8 → S.testBit o = true → 0 < m o) : ev X (d + 2) 106 [vr (some 56), vi (nI S)] h = av_rI (nI (csN c S)) h := by
  rw [e_106, b_106_0]
  exact cc_lp w O S8 sub 8 0 (by omega)
theorem cs_lp (w : WF h) {m c f : Nat → Nat} (O : OfC h m c f) {S G : Nat} (S8 : S < 256) (G6 : G < 64) (sub : ∀ o, o < 8 → S.testBit o = true → 0 < m o) : ∀ n o, o + n = 8 → bd X (d + 1) 110 4 [(0, vr (some 56)), (1, vi (nI S)), (2, vi (nI G)), (3, vi (nI (sN (fun o => if (S.testBit o && !decide (f o &&& G = 0)) = true then m o else 0) o))), (4, vi (nI o))] [] h = av_rI (nI (srv S f m G)) h
  | 0, o, ho => by
    obtain rfl : o = 8 := by omega
    rw [b_110_4, if_neg (show ¬ nI 8 < 8 by decide)]
    rfl
  | n + 1, o, ho => by
    have ih := cs_lp w O S8 G6 sub n (o + 1) (by omega)
    rw [sN] at ih
    rw [b_110_4, if_pos (show nI o < 8 from nI_lt (b := 8) (by omega) (by omega)), c_hasBit' (by omega) (by omega), nI_1]
    cases z : S.testBit o with
    | false =>
      rw [z, Bool.false_and, if_neg (by decide), Nat.add_zero] at ih
      rw [if_pos (show bI false = 0 from rfl), add0I]
      exact ih
    | true =>
      obtain ⟨-, o2, o3⟩ := O o (by omega)
      obtain ⟨-, p2, -, p4⟩ := o3 (sub o (by omega) z)
      have lt : f o &&& G < 64 := Nat.lt_of_le_of_lt Nat.and_le_right G6
      rw [z, Bool.true_and] at ih
      rw [if_neg (show ¬ bI true = 0 by decide), gR_56_1 w, ld_58 w (by omega), p4, nb_and]
      by_cases y : f o &&& G = 0
      · rw [decide_eq_true y, Bool.not_true, if_neg (by decide), Nat.add_zero] at ih
        rw [if_pos (show nI (f o &&& G) = 0 by rw [y]; rfl), add0I]
        exact ih
      · rw [decide_eq_false y, Bool.not_false, if_pos rfl] at ih
        rw [if_neg (nI_ne0 (by omega) (by omega)), gR_56_2 w, ld_59 w (by omega), o2, nI_add]
        exact ih
theorem c_srv (w : WF h) {m c f : Nat → Nat} (O : OfC h m c f) {S G : Nat} (S8 : S < 256) (G6 : G < 64) (sub : ∀ o, o < 8 → S.testBit o = true → 0 < m o) : ev X (d + 2) 110 [vr (some 56), vi (nI S), vi (nI G)] h = av_rI (nI (srv S f m G)) h := by
  rw [e_110, b_110_0]
  exact cs_lp w O S8 G6 sub 8 0 (by omega)
theorem ce_lp (w : WF h) {m c f : Nat → Nat} (O : OfC h m c f) {S T : Nat} (S8 : S < 256) (T6 : T < 64) (sub : ∀ o, o < 8 → S.testBit o = true → 0 < m o) : ∀ n g, g + n = T + 1 → bd X (d + 2) 109 2 [(0, vr (some 56)), (1, vi (nI S)), (2, vi (nI T)), (3, vi (nI g))] [] h = av_rI (bI (!anyN n g (fun G => decide (nd G T = 0) && decide (srv S f m G < bct G)))) h
  | 0, g, hg => by
    rw [b_109_2, if_pos (nI_lt (by omega) (by omega)), anyN]
    rfl
  | n + 1, g, hg => by
    have ih := ce_lp w O S8 T6 sub n (g + 1) (by omega)
    have ndl : nd g T < 64 := nd_lt (n := 6) (by omega)
    rw [b_109_2, if_neg (nI_nlt (by omega) (by omega)), nb_andn, nI_1, anyN]
    by_cases z : nd g T = 0
    · have sl : srv S f m g ≤ 8 * 6 := sN_b 8 (fun o ho => by
        have := (O o ho).1
        split <;> omega)
      have bl : bct g ≤ 64 := fb_ct_le _ _
      rw [if_pos (show nI (nd g T) = 0 by rw [z]; rfl), is_56 w, c_srv w O S8 (by omega) sub, av_cI_r, Option.bind_some, c_bc32' (by omega), decide_eq_true z, Bool.true_and]
      by_cases y : srv S f m g < bct g
      · rw [if_pos (nI_lt y (by omega)), decide_eq_true y]
        rfl
      · rw [if_neg (nI_nlt (by omega) (by omega)), decide_eq_false y, Bool.false_or]
        exact ih
    · rw [if_neg (nI_ne0 (by omega) (by omega)), decide_eq_false z, Bool.false_and, Bool.false_or]
      exact ih
theorem c_en (w : WF h) {m c f : Nat → Nat} (O : OfC h m c f) {S T : Nat} (S8 : S < 256) (T6 : T < 64) (sub : ∀ o, o < 8 → S.testBit o = true → 0 < m o) : ev X (d + 3) 109 [vr (some 56), vi (nI S), vi (nI T)] h = av_rI (bI (enB S f m T)) h := by
  rw [e_109, b_109_0]
  exact ce_lp w O S8 T6 sub T 1 (by omega)
theorem subI (x : Int32) : x + (-1) = x - 1 := (Int32.sub_eq_add_neg x 1).symm
theorem ch_lp (w : WF h) {m c f : Nat → Nat} (O : OfC h m c f) {th T : Nat} (th8 : th < 256) (T6 : T < 64) (sub : ∀ o, o < 8 → th.testBit o = true → 0 < m o) : ∀ n fd, n ≤ th → nd fd th = 0 → bd X (d + 3) 107 20 [(0, vr (some 56)), (1, vi (nI T)), (2, vi (nI th)), (3, vi (nI fd)), (4, vi (nI (csN c fd))), (5, vi (nI n - 1))] [] h = av_rI (nI (dnB (fun S => decide (nd S th = 0) && enB S f m T) (csN c) n fd)) h
  | 0, fd, hn, hf => by
    rw [b_107_20, if_pos (show nI 0 - 1 < (0 : Int32) by decide), dnB]
  | n + 1, fd, hn, hf => by
    have ih := ch_lp w O th8 T6 sub n
    have ndl : nd n th < 256 := nd_lt (n := 8) (by omega)
    have bc : ∀ S, nd S th = 0 → csN c S < 100000 := fun S hS => by
      have : csN c S ≤ 8 * 9999 := sN_b 8 (fun o ho => by
        by_cases y : S.testBit o = true
        · rw [if_pos y]
          exact ((O o ho).2.2 (sub o ho (nd_0.mp hS o y))).1
        · rw [if_neg y]
          omega)
      omega
    rw [b_107_20, nI_pred, if_neg (nI_pos (by omega)), nb_andn, dnB, subI]
    by_cases z : nd n th = 0
    · have sub' : ∀ o, o < 8 → n.testBit o = true → 0 < m o := fun o ho y => sub o ho (nd_0.mp z o y)
      rw [if_pos (show nI (nd n th) = 0 by rw [z]; rfl), is_56 w, c_cost w O (by omega) sub', av_cI_r, Option.bind_some, decide_eq_true z, Bool.true_and]
      by_cases y : csN c n ≤ csN c fd
      · rw [if_neg (nI_nlt y (by have := bc fd hf; omega)), is_56 w, c_en w O (by omega) T6 sub', av_cI_r, Option.bind_some, decide_eq_true y, Bool.and_true]
        cases u : enB n f m T with
        | false =>
          rw [if_pos (show bI false = 0 from rfl), if_neg (show ¬ false = true by decide)]
          exact ih fd (by omega) hf
        | true =>
          rw [if_neg (show ¬ bI true = 0 by decide), if_pos rfl, is_56 w, c_cost w O (by omega) sub', av_cI_r, Option.bind_some]
          exact ih n (by omega) z
      · rw [if_pos (nI_lt (by omega) (by have := bc n z; omega)), decide_eq_false y, Bool.and_false, if_neg (show ¬ false = true by decide)]
        exact ih fd (by omega) hf
    · rw [if_neg (nI_ne0 (by omega) (by omega)), decide_eq_false z, Bool.false_and, Bool.false_and, if_neg (show ¬ false = true by decide)]
      exact ih fd (by omega) hf
/-! the reference -/
theorem sc_lp (w : WF h) {m c f : Nat → Nat} (O : OfR h m c f) {S : Nat} (S8 : S < 256) (sub : ∀ o, o < 8 → S.testBit o = true → 0 < m o) : ∀ n o, o + n = 8 → bd X (d + 1) 339 4 [(0, vr (some 137)), (1, vi (nI S)), (2, vi (nI (sN (fun o => if S.testBit o = true then c o else 0) o))), (3, vi (nI o))] [] h = av_rI (nI (csN c S)) h
  | 0, o, ho => by
    obtain rfl : o = 8 := by omega
    rw [b_339_4, if_neg (show ¬ nI 8 < 8 by decide)]
    rfl
  | n + 1, o, ho => by
    have ih := sc_lp w O S8 sub n (o + 1) (by omega)
    rw [sN] at ih
    rw [b_339_4, if_pos (show nI o < 8 from nI_lt (b := 8) (by omega) (by omega)), nb_bit (by omega) (by omega), nI_1]
    cases z : S.testBit o with
    | false =>
      rw [z, if_neg (by decide), Nat.add_zero] at ih
      rw [if_neg (show ¬ bI false = 1 by decide), add0I]
      exact ih
    | true =>
      obtain ⟨-, -, o3⟩ := O o (by omega)
      rw [z, if_pos rfl] at ih
      rw [if_pos (show bI true = 1 from rfl), gR_137_73 w, ld_193 w (by omega), (o3 (sub o (by omega) z)).2.2.1, nI_add]
      exact ih
theorem s_cost (w : WF h) {m c f : Nat → Nat} (O : OfR h m c f) {S : Nat} (S8 : S < 256) (sub : ∀ o, o < 8 → S.testBit o = true → 0 < m o) : ev X (d + 2) 339 [vr (some 137), vi (nI S)] h = av_rI (nI (csN c S)) h := by
  rw [e_339, b_339_0]
  exact sc_lp w O S8 sub 8 0 (by omega)
theorem so_sv {m c f : Nat → Nat} {S : Nat} {T : Nat → Bool} (S8 : S < 256) (sub : ∀ o, o < 8 → S.testBit o = true → 0 < m o) {n t D : Nat} (ht : t < 6) (IH : ∀ u h, WF h → OfR h m c f → (∀ o, o < 8 → h.2.1 196 o = nI (u o)) → (∀ o, o < 8 → u o ≤ m o) → (∀ t, t < 6 → (h.2.1 143 t = 0 ↔ T t = false)) → ev X D 338 [vr (some 137), vi (nI S), vi (nI (t + 1))] h = av_rI (bI (svU S f m T n (t + 1) u)) h) {u : Nat → Nat} (w : WF h) (O : OfR h m c f) (U : ∀ o, o < 8 → h.2.1 196 o = nI (u o)) (Um : ∀ o, o < 8 → u o ≤ m o) (HT : ∀ t, t < 6 → (h.2.1 143 t = 0 ↔ T t = false)) : ∀ k o, o + k = 8 → bd X D 338 19 [(0, vr (some 137)), (1, vi (nI S)), (2, vi (nI t)), (3, vi (nI o))] [] h = av_rI (bI (anyN k o (fun o => (S.testBit o && ((f o).testBit t && decide (u o < m o))) && svU S f m T n (t + 1) (inc u o)))) h
  | 0, o, ho => by
    obtain rfl : o = 8 := by omega
    rw [b_338_19, if_neg (show ¬ nI 8 < 8 by decide), anyN]
    rfl
  | k + 1, o, ho => by
    have ih := so_sv S8 sub ht IH w O U Um HT k (o + 1) (by omega)
    have o8 : o < 8 := by omega
    obtain ⟨o1, o2, o3⟩ := O o o8
    have no : bd X D 338 50 [(0, vr (some 137)), (1, vi (nI S)), (2, vi (nI t)), (3, vi (nI o))] [] h = av_rI (bI (anyN k (o + 1) (fun o => (S.testBit o && ((f o).testBit t && decide (u o < m o))) && svU S f m T n (t + 1) (inc u o)))) h := by
      rw [b_338_50, b_338_51, if_pos rfl, nI_1]
      exact ih
    rw [b_338_19, if_pos (show nI o < 8 from nI_lt (b := 8) (by omega) (by omega)), nb_bit (by omega) (by omega), anyN]
    cases z : S.testBit o with
    | false =>
      rw [if_neg (show ¬ bI false = 1 by decide), Bool.false_and, Bool.false_and, Bool.false_or]
      exact no
    | true =>
      obtain ⟨-, p2, -, p4⟩ := o3 (sub o o8 z)
      rw [if_pos (show bI true = 1 from rfl), gR_137_74 w, ld_194 w o8, p4, nb_bit (by omega) (by omega), Bool.true_and]
      cases y : (f o).testBit t with
      | false =>
        rw [if_neg (show ¬ bI false = 1 by decide), Bool.false_and, Bool.false_and, Bool.false_or]
        exact no
      | true =>
        have uo := Um o o8
        rw [if_pos (show bI true = 1 from rfl), gR_137_76 w, ld_196 w o8, U o o8, gR_137_75 w, ld_195 w o8, o2, Bool.true_and]
        by_cases v : u o < m o
        · have w3 : WF (av_uI h 196 o (nI (u o + 1))) := w
          have e := IH (inc u o) (av_uI h 196 o (nI (u o + 1))) w3 (fun i hi => by
            rw [uI_ne (by decide), uI_ne (by decide), uI_ne (by decide)]
            exact O i hi) (fun i hi => by
            rw [inc]
            by_cases q : i = o
            · rw [if_pos q, q, uI_eq]
            · rw [if_neg q, uI_nk q]
              exact U i hi) (fun i hi => by
            rw [inc]
            by_cases q : i = o
            · rw [if_pos q, q]
              omega
            · rw [if_neg q]
              exact Um i hi) (fun t ht => by
            rw [uI_ne (by decide)]
            exact HT t ht)
          have bk : av_uI (av_uI h 196 o (nI (u o + 1))) 196 o (nI (u o)) = h := by
            rw [← U o o8]
            exact uI_back
          rw [if_pos (nI_lt v (by omega)), b_338_51, if_neg (show ¬ (1 : Int32) = 0 by decide), gR_137_76 w, ld_196 w o8, U o o8, nI_1, nI_1, nI_1, st_196 w o8, is_137 w3, e, av_cI_r, Option.bind_some, gR_137_76 w3, ld_196 w3 o8, uI_eq, nI_pred, st_196 w3 o8, bk, decide_eq_true v, Bool.true_and]
          cases q : svU S f m T n (t + 1) (inc u o) with
          | false =>
            rw [if_pos (show bI false = 0 from rfl), Bool.false_or]
            exact ih
          | true =>
            rw [if_neg (show ¬ bI true = 0 by decide), Bool.true_or]
            rfl
        · rw [if_neg (nI_nlt (by omega) (by omega)), decide_eq_false v, Bool.false_and, Bool.false_or]
          exact no
theorem s_serves {m c f : Nat → Nat} {S : Nat} {T : Nat → Bool} (S8 : S < 256) (sub : ∀ o, o < 8 → S.testBit o = true → 0 < m o) : ∀ n t, t + n = 6 → ∀ u h, WF h → OfR h m c f → (∀ o, o < 8 → h.2.1 196 o = nI (u o)) → (∀ o, o < 8 → u o ≤ m o) → (∀ t, t < 6 → (h.2.1 143 t = 0 ↔ T t = false)) → ev X (d + n + 1) 338 [vr (some 137), vi (nI S), vi (nI t)] h = av_rI (bI (svU S f m T n t u)) h
  | 0, t, ht, u, h, w, O, U, Um, HT => by
    obtain rfl : t = 6 := by omega
    rw [e_338, b_338_0, if_pos (show nI 6 = 6 from rfl), svU]
    rfl
  | n + 1, t, ht, u, h, w, O, U, Um, HT => by
    have t6 : t < 6 := by omega
    have IH := s_serves (c := c) (f := f) (T := T) S8 sub n (t + 1) (by omega)
    rw [e_338, b_338_0, if_neg (show ¬ nI t = 6 from fun z => by have := (nI_eq (b := 6) (by omega) (by omega)).mp z; omega), gR_137_10 w, ld_143 w t6, svU]
    cases z : T t with
    | false =>
      rw [if_pos ((HT t t6).mpr z), is_137 w, nI_1, if_neg (show ¬ false = true by decide)]
      rw [show ev X (d + (n + 1)) 338 [vr (some 137), vi (nI S), vi (nI (t + 1))] h = av_rI (bI (svU S f m T n (t + 1) u)) h from IH u h w O U Um HT, av_cI_r, Option.bind_some, zb_b]
    | true =>
      rw [if_neg (fun y => by rw [HT t t6, z] at y; cases y), if_pos rfl]
      exact so_sv (D := d + (n + 1)) S8 sub t6 (fun u h w O U Um HT => IH u h w O U Um HT) w O U Um HT 8 0 (by omega)
theorem bt_lp (w : WF h) {m c f : Nat → Nat} (O : OfR h m c f) {S : Nat} {v1 v2 : Int32} (S8 : S < 256) {D : Nat} : ∀ k o, o + k = 8 → bd X D 340 21 [(0, vr (some 137)), (1, vi v1), (2, vi v2), (3, vi (nI S)), (4, vi (bI (!anyN o 0 (fun o => S.testBit o && decide (m o = 0))))), (5, vi (nI o))] [] h = bd X D 340 21 [(0, vr (some 137)), (1, vi v1), (2, vi v2), (3, vi (nI S)), (4, vi (bI (!anyN 8 0 (fun o => S.testBit o && decide (m o = 0))))), (5, vi (nI 8))] [] h
  | 0, o, ho => by
    obtain rfl : o = 8 := by omega
    rfl
  | k + 1, o, ho => by
    have ih := bt_lp w O (v1 := v1) (v2 := v2) S8 (D := D) k (o + 1) (by omega)
    have o8 : o < 8 := by omega
    rw [anyN_snoc, Nat.zero_add] at ih
    refine Eq.trans ?_ ih
    conv => lhs; rw [b_340_21]
    rw [if_pos (show nI o < 8 from nI_lt (b := 8) (by omega) (by omega)), nI_1]
    cases z : anyN o 0 (fun o => S.testBit o && decide (m o = 0)) with
    | true =>
      rw [Bool.not_true, if_pos (show bI false = 0 from rfl), Bool.true_or, Bool.not_true]
      rfl
    | false =>
      rw [Bool.not_false, if_neg (show ¬ bI true = 0 by decide), nb_bit (by omega) (by omega), Bool.false_or]
      cases y : S.testBit o with
      | false =>
        rw [if_pos (show bI false = 0 from rfl), Bool.false_and, Bool.not_false]
        rfl
      | true =>
        obtain ⟨o1, o2, -⟩ := O o o8
        rw [if_neg (show ¬ bI true = 0 by decide), gR_137_75 w, ld_195 w o8, o2, Bool.true_and]
        by_cases v : m o = 0
        · rw [if_neg (show ¬ (0 : Int32) < nI (m o) by rw [v]; decide), decide_eq_true v, Bool.not_true]
          rfl
        · rw [if_pos (show (0 : Int32) < nI (m o) from nI_lt (a := 0) (by omega) (by omega)), decide_eq_false v, Bool.not_false]
          rfl
theorem th_sub {m : Nat → Nat} {S : Nat} (S8 : S < 256) : (!anyN 8 0 (fun o => S.testBit o && decide (m o = 0))) = decide (nd S (msk (fun o => decide (0 < m o)) 8) = 0) := by
  rw [Bool.eq_iff_iff, Bool.not_eq_true', Bool.eq_false_iff, Ne, anyN_iff, decide_eq_true_eq, nd_0]
  constructor
  · intro z i q
    have i8 : i < 8 := by
      rcases Nat.lt_or_ge i 8 with y | y
      · exact y
      · rw [Nat.testBit_lt_two_pow (Nat.lt_of_lt_of_le S8 (Nat.pow_le_pow_right (n := 2) (by decide) y))] at q
        cases q
    rw [msk_bit, decide_eq_true i8, Bool.true_and, decide_eq_true_eq]
    rcases Nat.eq_zero_or_pos (m i) with y | y
    · exact absurd ⟨i, by omega, by omega, by rw [q, decide_eq_true y]; rfl⟩ z
    · exact y
  · rintro z ⟨i, -, i8, y⟩
    rw [Bool.and_eq_true, decide_eq_true_eq] at y
    have q := z i y.1
    rw [msk_bit, Bool.and_eq_true, decide_eq_true_eq, decide_eq_true_eq] at q
    omega
theorem by_lp (w : WF h) {m c f : Nat → Nat} (O : OfR h m c f) {v1 : Int32} {T : Nat → Bool} (U : ∀ o, o < 8 → h.2.1 196 o = 0) (HT : ∀ t, t < 6 → (h.2.1 143 t = 0 ↔ T t = false)) : ∀ n S, S + n = 256 → bd X (d + 7) 340 14 [(0, vr (some 137)), (1, vi v1), (2, vi (oI (upB (fun S => decide (nd S (msk (fun o => decide (0 < m o)) 8) = 0) && svU S f m T 6 0 (fun _ => 0)) (csN c) S))), (3, vi (nI S))] [] h = av_rI (match upB (fun S => decide (nd S (msk (fun o => decide (0 < m o)) 8) = 0) && svU S f m T 6 0 (fun _ => 0)) (csN c) 256 with | none => -1 | some b => if v1 = 0 then nI (csN c b) else nI b) h
  | 0, S, hS => by
    obtain rfl : S = 256 := by omega
    rw [b_340_14, if_neg (show ¬ nI 256 < 256 by decide)]
    have us := (upB_s (P := fun S => decide (nd S (msk (fun o => decide (0 < m o)) 8) = 0) && svU S f m T 6 0 (fun _ => 0)) (C := csN c) 256).2
    cases e : upB (fun S => decide (nd S (msk (fun o => decide (0 < m o)) 8) = 0) && svU S f m T 6 0 (fun _ => 0)) (csN c) 256 with
    | none => rw [if_pos (show oI none < 0 by decide)]
    | some b =>
      obtain ⟨b1, b2, -⟩ := us b e
      rw [Bool.and_eq_true, decide_eq_true_eq, nd_0] at b2
      have sub : ∀ o, o < 8 → b.testBit o = true → 0 < m o := fun o ho y => by
        have := b2.1 o y
        rw [msk_bit, Bool.and_eq_true, decide_eq_true_eq, decide_eq_true_eq] at this
        exact this.2
      rw [oI_s, if_neg (nI_pos (by omega))]
      dsimp only
      by_cases z : v1 = 0
      · rw [if_pos z, if_pos z, is_137 w, s_cost w O (by omega) sub, av_cI_r, Option.bind_some]
      · rw [if_neg z, if_neg z]
  | n + 1, S, hS => by
    have ih := by_lp w O (v1 := v1) U HT n (S + 1) (by omega)
    have us := (upB_s (P := fun S => decide (nd S (msk (fun o => decide (0 < m o)) 8) = 0) && svU S f m T 6 0 (fun _ => 0)) (C := csN c) S).2
    have bl := bt_lp (X := X) w O (v1 := v1) (v2 := oI (upB (fun S => decide (nd S (msk (fun o => decide (0 < m o)) 8) = 0) && svU S f m T 6 0 (fun _ => 0)) (csN c) S)) (show S < 256 by omega) (D := d + 7) 8 0 (by omega)
    rw [th_sub (show S < 256 by omega)] at bl
    rw [upB] at ih
    rw [b_340_14, if_pos (show nI S < 256 from nI_lt (b := 256) (by omega) (by omega))]
    refine Eq.trans bl ?_
    rw [b_340_21, if_neg (show ¬ nI 8 < 8 by decide), nI_1]
    by_cases z : nd S (msk (fun o => decide (0 < m o)) 8) = 0
    · have sub : ∀ b, nd b (msk (fun o => decide (0 < m o)) 8) = 0 → ∀ o, o < 8 → b.testBit o = true → 0 < m o := fun b hb o ho y => by
        have := nd_0.mp hb o y
        rw [msk_bit, Bool.and_eq_true, decide_eq_true_eq, decide_eq_true_eq] at this
        exact this.2
      have bc : ∀ b, nd b (msk (fun o => decide (0 < m o)) 8) = 0 → csN c b < 100000 := fun b hb => by
        have : csN c b ≤ 8 * 9999 := sN_b 8 (fun o ho => by
          by_cases y : b.testBit o = true
          · rw [if_pos y]
            exact ((O o ho).2.2 (sub b hb o ho y)).1
          · rw [if_neg y]
            omega)
        omega
      have sv := s_serves (X := X) (d := d) (m := m) (c := c) (f := f) (T := T) (show S < 256 by omega) (sub S z) 6 0 (by omega) (fun _ => 0) h w O U (fun o _ => by omega) HT
      rw [decide_eq_true z, Bool.true_and] at ih
      rw [decide_eq_true z, if_neg (show ¬ bI true = 0 by decide)]
      have k54 : ∀ b : Bool, upO (csN c) S (upB (fun S => decide (nd S (msk (fun o => decide (0 < m o)) 8) = 0) && svU S f m T 6 0 (fun _ => 0)) (csN c) S) = true → bd X (d + 7) 340 54 [(0, vr (some 137)), (1, vi v1), (2, vi (oI (upB (fun S => decide (nd S (msk (fun o => decide (0 < m o)) 8) = 0) && svU S f m T 6 0 (fun _ => 0)) (csN c) S))), (3, vi (nI S))] [] h = av_rI (match upB (fun S => decide (nd S (msk (fun o => decide (0 < m o)) 8) = 0) && svU S f m T 6 0 (fun _ => 0)) (csN c) 256 with | none => -1 | some b => if v1 = 0 then nI (csN c b) else nI b) h := fun _ q => by
        rw [q, Bool.and_true] at ih
        rw [b_340_54, is_137 w, show (0 : Int32) = nI 0 from rfl, show ev X (d + 7) 338 [vr (some 137), vi (nI S), vi (nI 0)] h = av_rI (bI (svU S f m T 6 0 (fun _ => 0))) h from sv, av_cI_r, Option.bind_some, nI_1]
        cases y : svU S f m T 6 0 (fun _ => 0) with
        | false =>
          rw [y, if_neg (by decide)] at ih
          rw [if_pos (show bI false = nI 0 from rfl)]
          exact ih
        | true =>
          rw [y, if_pos rfl, oI_s] at ih
          rw [if_neg (show ¬ bI true = nI 0 by decide)]
          exact ih
      cases e : upB (fun S => decide (nd S (msk (fun o => decide (0 < m o)) 8) = 0) && svU S f m T 6 0 (fun _ => 0)) (csN c) S with
      | none =>
        have k := k54 true (by rw [e]; rfl)
        rw [e] at k
        rw [if_pos (show oI none < 0 by decide)]
        exact k
      | some b =>
        obtain ⟨b1, b2, -⟩ := us b e
        rw [Bool.and_eq_true, decide_eq_true_eq] at b2
        have c1 := bc S z
        have c2 := bc b b2.1
        rw [oI_s, if_neg (nI_pos (by omega)), is_137 w, s_cost w O (by omega) (sub S z), av_cI_r, Option.bind_some, is_137 w, s_cost w O (by omega) (sub b b2.1), av_cI_r, Option.bind_some]
        by_cases y : csN c S < csN c b
        · have k := k54 true (by rw [e, upO]; exact decide_eq_true y)
          rw [e, oI_s] at k
          rw [if_pos (nI_lt y (by omega))]
          exact k
        · rw [e, upO, decide_eq_false y, Bool.and_false, if_neg (by decide), oI_s] at ih
          rw [if_neg (nI_nlt (by omega) (by omega))]
          exact ih
    · rw [decide_eq_false z, Bool.false_and, Bool.false_and, if_neg (by decide)] at ih
      rw [decide_eq_false z, if_pos (show bI false = 0 from rfl)]
      exact ih
theorem buy_ok (w : WF h) (J : J_tow h) (Jo : J_of h) (Jv : J_sv h) (q : Int32) : ∃ v h1 h2, ev X (d + 8) 161 [vr (some 0), vi q] h = av_rI v h1 ∧ ev X (d + 8) 340 [vr (some 137), vi q] h1 = av_rI v h2 ∧ WF h2 ∧ off false [] [(137, 0)] h h2 := by
  have wt : WF (th h) := w
  have fin : off false [] [(137, 0)] h (th h) := agr.uI rfl agr.rfl
  cases q1 : rg q 0 1 with
  | false =>
    refine ⟨-1, h, th h, ?_, ?_, w, fin⟩
    · rw [e_161, b_161_0, c_within', tI_0, tI_1, q1, if_pos (show bI false = 0 from rfl)]
    · rw [e_340, b_340_0, pI_137 w, th_e, s_within', tI_0, tI_1, q1, if_pos (show bI false = 0 from rfl)]
  | true =>
    obtain ⟨m, c, f, OC, OR⟩ := Jo.E
    have OT : OfR (th h) m c f := fun o ho => by
      rw [th_I (by decide), th_I (by decide), th_I (by decide)]
      exact OR o ho
    have T6 : msk (fun t => (h.2.2.2 1 t).isSome) 6 < 64 := msk_lt 6
    have TB : ∀ t, t < 6 → (msk (fun t => (h.2.2.2 1 t).isSome) 6).testBit t = (h.2.2.2 1 t).isSome := fun t ht => by rw [msk_bit, decide_eq_true ht, Bool.true_and]
    generalize hTm : msk (fun t => (h.2.2.2 1 t).isSome) 6 = T at T6 TB
    have eth : msk (fun t => decide (0 < h.2.1 59 t)) 8 = msk (fun o => decide (0 < m o)) 8 := by
      apply Nat.eq_of_testBit_eq
      intro i
      rw [msk_bit, msk_bit]
      by_cases i8 : i < 8
      · have := (OC i i8).1
        rw [decide_eq_true i8, Bool.true_and, Bool.true_and, (OC i i8).2.1]
        by_cases y : 0 < m i
        · rw [decide_eq_true y, decide_eq_true (show (0 : Int32) < nI (m i) from nI_lt (a := 0) y (by omega))]
        · rw [decide_eq_false y, decide_eq_false (show ¬ (0 : Int32) < nI (m i) by rw [show m i = 0 by omega]; decide)]
      · rw [decide_eq_false i8, Bool.false_and, Bool.false_and]
    have th8 : msk (fun o => decide (0 < m o)) 8 < 256 := msk_lt 8
    have subT : ∀ o, o < 8 → (msk (fun o => decide (0 < m o)) 8).testBit o = true → 0 < m o := fun o ho y => by
      rw [msk_bit, Bool.and_eq_true, decide_eq_true_eq, decide_eq_true_eq] at y
      exact y.2
    have nd00 : nd (msk (fun o => decide (0 < m o)) 8) (msk (fun o => decide (0 < m o)) 8) = 0 := nd_0.mpr (fun _ y => y)
    have HT : ∀ t, t < 6 → ((th h).2.1 143 t = 0 ↔ T.testBit t = false) := fun t ht => by
      rw [th_I (by decide), J.f0 ht, TB t ht]
      cases h.2.2.2 1 t with
      | none => exact ⟨fun _ => rfl, fun _ => rfl⟩
      | some a => exact ⟨fun z => (by cases z), fun z => (by cases z)⟩
    have lp := by_lp (X := X) (d := d) (h := th h) (v1 := q) (T := fun t => T.testBit t) wt OT (fun o ho => by rw [th_I (by decide)]; exact Jv o ho) HT 256 0 (by omega)
    have PP : ∀ S, (decide (nd S (msk (fun o => decide (0 < m o)) 8) = 0) && svU S f m (fun t => T.testBit t) 6 0 (fun _ => 0)) = (decide (nd S (msk (fun o => decide (0 < m o)) 8) = 0) && enB S f m T) := fun S => by rw [en_sv T6]
    simp only [PP] at lp
    generalize hth : msk (fun o => decide (0 < m o)) 8 = tm at *
    have er : ∀ v, bd X (d + 7) 340 14 [(0, vr (some 137)), (1, vi q), (2, vi (-1)), (3, vi 0)] [] (th h) = av_rI v (th h) → ev X (d + 8) 340 [vr (some 137), vi q] h = av_rI v (th h) := fun v e => by
      rw [e_340, b_340_0, pI_137 w, th_e, s_within', tI_0, tI_1, q1, if_neg (show ¬ bI true = 0 by decide)]
      exact e
    have en := c_en (X := X) (d := d + 3) (S := tm) (T := T) w OC th8 T6 subT
    cases z : enB tm f m T with
    | false =>
      rw [z] at en
      have no : upB (fun S => decide (nd S tm = 0) && enB S f m T) (csN c) 256 = none := by
        cases e : upB (fun S => decide (nd S tm = 0) && enB S f m T) (csN c) 256 with
        | none => rfl
        | some b =>
          have b2 := ((upB_s (P := fun S => decide (nd S tm = 0) && enB S f m T) (C := csN c) 256).2 b e).2.1
          rw [Bool.and_eq_true, decide_eq_true_eq] at b2
          have := en_mono T6 b2.1 b2.2
          rw [z] at this
          cases this
      rw [no] at lp
      refine ⟨-1, h, th h, ?_, er _ lp, w, fin⟩
      rw [e_161, b_161_0, c_within', tI_0, tI_1, q1, if_neg (show ¬ bI true = 0 by decide), gR_0_10 w, is_0 w, c_toldT' w, hTm, is_56 w, e_107, b_107_0, is_56 w, c_there' w, eth, is_56 w, en, av_cI_r, Option.bind_some, if_pos (show bI false = 0 from rfl), av_cI_r, Option.bind_some, if_pos rfl]
    | true =>
      rw [z] at en
      have pt : (decide (nd tm tm = 0) && enB tm f m T) = true := by rw [decide_eq_true nd00, z]; rfl
      have ud := up_dn (P := fun S => decide (nd S tm = 0) && enB S f m T) (C := csN c) (n := 256) (th := tm) pt th8 (fun i hi => by
        have : ¬ nd i tm = 0 := fun y => by
          have le : i ≤ tm := by
            have e : i &&& tm = i := by
              apply Nat.eq_of_testBit_eq
              intro j
              rw [Nat.testBit_and]
              cases q : i.testBit j with
              | false => rfl
              | true => rw [nd_0.mp y j q]; rfl
            rw [← e]
            exact Nat.and_le_right
          omega
        rw [decide_eq_false this, Bool.false_and])
      have bs' := dnB_s (P := fun S => decide (nd S tm = 0) && enB S f m T) (C := csN c) tm tm pt (Nat.le_refl _)
      have cl := ch_lp (X := X) (d := d + 3) w OC th8 T6 subT tm tm (Nat.le_refl _) nd00
      rw [ud] at lp
      generalize dnB (fun S => decide (nd S tm = 0) && enB S f m T) (csN c) tm tm = b at lp bs' cl
      obtain ⟨b1, -, -, b4⟩ := bs'
      rw [Bool.and_eq_true, decide_eq_true_eq] at b1
      have sub : ∀ o, o < 8 → b.testBit o = true → 0 < m o := fun o ho y => subT o ho (nd_0.mp b1.1 o y)
      refine ⟨if q = 0 then nI (csN c b) else nI b, h, th h, ?_, er _ lp, w, fin⟩
      have nb : ¬ nI b = -1 := fun y => by
        have := congrArg Int32.toInt y
        rw [toI_nI (by omega), show (-1 : Int32).toInt = -1 from rfl] at this
        omega
      rw [e_161, b_161_0, c_within', tI_0, tI_1, q1, if_neg (show ¬ bI true = 0 by decide), gR_0_10 w, is_0 w, c_toldT' w, hTm, is_56 w, e_107, b_107_0, is_56 w, c_there' w, eth, is_56 w, en, av_cI_r, Option.bind_some, if_neg (show ¬ bI true = 0 by decide), is_56 w, c_cost w OC th8 subT, av_cI_r, Option.bind_some]
      rw [show bd X (d + 6) 107 20 [(0, vr (some 56)), (1, vi (nI T)), (2, vi (nI tm)), (3, vi (nI tm)), (4, vi (nI (csN c tm))), (5, vi (nI tm - 1))] [] h = av_rI (nI b) h from cl, av_cI_r, Option.bind_some, if_neg nb]
      obtain ⟨k, k2, rfl⟩ := rg_nI (b := 1) (by decide) q1
      match k, k2 with
      | 0, _ =>
        rw [if_neg (show ¬ nI 0 = 1 by decide), if_pos (show nI 0 = 0 from rfl), gR_0_10 w, is_56 w, c_cost w OC (by omega) sub, av_cI_r, Option.bind_some]
      | 1, _ => rw [if_pos (show nI 1 = 1 from rfl), if_neg (show ¬ nI 1 = 0 by decide)]
      | _ + 2, k2 => exact absurd k2 (by omega)
end
