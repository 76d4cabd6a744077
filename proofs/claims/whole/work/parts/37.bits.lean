/-! bits of small numbers; towers changed -/
theorem nb_or (a b : Nat) : nI a ||| nI b = nI (a ||| b) := by
  apply Int32.toBitVec_inj.1
  show BitVec.ofNat 32 a ||| BitVec.ofNat 32 b = BitVec.ofNat 32 (a ||| b)
  apply BitVec.eq_of_getLsbD_eq
  intro i hi
  simp [hi]
theorem nb_and (a b : Nat) : nI a &&& nI b = nI (a &&& b) := by
  apply Int32.toBitVec_inj.1
  show BitVec.ofNat 32 a &&& BitVec.ofNat 32 b = BitVec.ofNat 32 (a &&& b)
  apply BitVec.eq_of_getLsbD_eq
  intro i hi
  simp [hi]
/-- a without b -/
def nd (a b : Nat) : Nat := a ^^^ (a &&& b)
theorem nd_bit (a b i : Nat) : (nd a b).testBit i = (a.testBit i && !b.testBit i) := by
  simp only [nd, Nat.testBit_xor, Nat.testBit_and]
  cases a.testBit i <;> cases b.testBit i <;> rfl
theorem nd_lt {a b n : Nat} (h : a < 2 ^ n) : nd a b < 2 ^ n := Nat.xor_lt_two_pow h (Nat.lt_of_le_of_lt Nat.and_le_left h)
theorem nb_m1 : (-1 : Int32).toBitVec = BitVec.allOnes 32 := by decide
theorem nb_andn (a b : Nat) : nI a &&& (nI b ^^^ (-1)) = nI (nd a b) := by
  apply Int32.toBitVec_inj.1
  rw [Int32.toBitVec_and, Int32.toBitVec_xor, nb_m1]
  show BitVec.ofNat 32 a &&& (BitVec.ofNat 32 b ^^^ BitVec.allOnes 32) = BitVec.ofNat 32 (nd a b)
  apply BitVec.eq_of_getLsbD_eq
  intro i hi
  rw [BitVec.getLsbD_and, BitVec.getLsbD_xor, BitVec.getLsbD_allOnes, BitVec.getLsbD_ofNat, BitVec.getLsbD_ofNat, BitVec.getLsbD_ofNat]
  simp only [hi, decide_true, Bool.true_and, nd_bit]
  cases a.testBit i <;> cases b.testBit i <;> rfl
theorem nb_sl : ∀ n, n < 32 → ((nI n &&& 31).toBitVec.smod 32).toNat = n := by decide +kernel
theorem nb_sh1 : ∀ k, k < 31 → (1 : Int32) <<< (nI k &&& 31) = nI (2 ^ k) := by decide +kernel
theorem nb_shl {n k : Nat} (hk : k < 32) (h : n * 2 ^ k < 2 ^ 32) : nI n <<< (nI k &&& 31) = nI (n * 2 ^ k) := pk_shlN _ k (nb_sl k hk) h
theorem nb_shr {n k : Nat} (hn : n < 2 ^ 31) (hk : k < 32) : nI n >>> (nI k &&& 31) = nI (n / 2 ^ k) := pk_shrN hn _ k (nb_sl k hk)
theorem nb_a1 (n : Nat) : nI n &&& 1 = nI (n % 2) := by
  show nI n &&& nI 1 = _
  rw [nb_and, Nat.and_one_is_mod]
theorem nb_bit {n k : Nat} (hn : n < 2 ^ 31) (hk : k < 32) : nI n >>> (nI k &&& 31) &&& 1 = bI (n.testBit k) := by
  rw [nb_shr hn hk, nb_a1, Nat.testBit_eq_decide_div_mod_eq]
  rcases Nat.mod_two_eq_zero_or_one (n / 2 ^ k) with e | e <;> rw [e] <;> rfl
theorem rg_lt {j n : Nat} (hj : j < n) (hn : n ≤ 100000) : rg (nI j) 0 ((nI n).toInt - 1) = true := by
  rw [toI_nI (by omega), rg, toI_nI (by omega), decide_eq_true_eq]
  omega
theorem rg_lt2 {j n : Nat} (hj : j ≤ n) (hn : n ≤ 100000) : rg (nI j) 0 n = true := by
  rw [rg, toI_nI (by omega), decide_eq_true_eq]
  omega
theorem nar_0 : vp_nar .boolean 0 = 0 := rfl
theorem nar_1 : vp_nar .boolean 1 = 1 := rfl
/-- a bit laid -/
def setB (b f : Nat) (y : Bool) : Nat := if y = true then b ||| 2 ^ f else nd b (2 ^ f)
theorem setB_bit (b f : Nat) (y : Bool) (i : Nat) : (setB b f y).testBit i = if i = f then y else b.testBit i := by
  cases y
  · simp only [setB, Bool.false_eq_true, if_false, nd_bit, Nat.testBit_two_pow]
    by_cases e : i = f
    · subst e; simp
    · simp [e, show ¬ f = i from fun z => e z.symm]
  · simp only [setB, if_true, Nat.testBit_or, Nat.testBit_two_pow]
    by_cases e : i = f
    · subst e; simp
    · simp [e, show ¬ f = i from fun z => e z.symm]
theorem setB_lt {b f n : Nat} (y : Bool) (h : b < 2 ^ n) (hf : f < n) : setB b f y < 2 ^ n := by
  unfold setB
  split
  · exact Nat.or_lt_two_pow h (Nat.pow_lt_pow_right (by decide) hf)
  · exact nd_lt h
theorem tw_gI {β : Type} {g : av_H} {a : Nat} (w : g.1[a]? = some (9, 0)) (k : Nat) (K : Int32 → Option β) : (av_gI g (some a) 9 k).bind K = K (g.2.1 a k) := bS (k_gI w k) K
theorem tw_gIv {β : Type} {g : av_H} {a : Nat} {k : Nat} {v : Int32} (w : g.1[a]? = some (9, 0)) (e : g.2.1 a k = v) (K : Int32 → Option β) : (av_gI g (some a) 9 k).bind K = K v := by rw [tw_gI w, e]
theorem tw_gR5 {β : Type} {g : av_H} {a : Nat} (w : g.1[a]? = some (9, 0)) (e : g.2.2.2 a 5 = some (a + 1)) (K : Option Nat → Option β) : (av_gR g (some a) 9 5).bind K = K (some (a + 1)) := by rw [bS (k_gR w 5), e]
theorem tw_gR6 {β : Type} {g : av_H} {a : Nat} (w : g.1[a]? = some (9, 0)) (e : g.2.2.2 a 6 = some (a + 2)) (K : Option Nat → Option β) : (av_gR g (some a) 9 6).bind K = K (some (a + 2)) := by rw [bS (k_gR w 6), e]
theorem tw_pI {β : Type} {g : av_H} {a : Nat} (w : g.1[a]? = some (9, 0)) (k : Nat) (v : Int32) (K : av_H → Option β) : (av_pI g (some a) 9 k v).bind K = K (av_uI g a k v) := bS (k_pI w k v) K
theorem tw_is {α : Type} {g : av_H} {a : Nat} (w : g.1[a]? = some (9, 0)) (A B : α) : (if av_is g (some a) 9 = true then A else B) = A := if_pos (av_is_k w)
theorem tw_l40 {X : av_X} {β : Type} {g : av_H} {a j : Nat} (w : g.1[a + 1]? = some (100, 40)) (hj : j < 40) (K : Int32 → Option β) : (av_lI X g (some (a + 1)) (nI j)).bind K = K (g.2.1 (a + 1) j) := bS (k_lI w hj (by decide)) K
theorem tw_s40 {β : Type} {g : av_H} {a j : Nat} {v : Int32} (w : g.1[a + 1]? = some (100, 40)) (hj : j < 40) (K : av_H → Option β) : (av_sI g (some (a + 1)) (nI j) v).bind K = K (av_uI g (a + 1) j v) := bS (k_sI w hj (by decide)) K
theorem tw_n40 {X : av_X} {β : Type} {g : av_H} {a : Nat} (w : g.1[a + 1]? = some (100, 40)) (K : Int32 → Option β) : (av_len X g (some (a + 1))).bind K = K (nI 40) := bS (k_len w (by decide)) K
theorem tw_l4 {X : av_X} {β : Type} {g : av_H} {a j : Nat} (w : g.1[a + 2]? = some (100, 4)) (hj : j < 4) (K : Int32 → Option β) : (av_lI X g (some (a + 2)) (nI j)).bind K = K (g.2.1 (a + 2) j) := bS (k_lI w hj (by decide)) K
theorem tw_s4 {β : Type} {g : av_H} {a j : Nat} {v : Int32} (w : g.1[a + 2]? = some (100, 4)) (hj : j < 4) (K : av_H → Option β) : (av_sI g (some (a + 2)) (nI j) v).bind K = K (av_uI g (a + 2) j v) := bS (k_sI w hj (by decide)) K
theorem ld1v {β : Type} {g : av_H} {j a : Nat} (w : WF g) (hj : j < 6) (e : g.2.2.2 1 j = some a) (K : Option Nat → Option β) : (av_lR g (some 1) 104 (nI j)).bind K = K (some a) := by rw [ld_1 w hj, e]
/-- what the class, what the reference holds of a tower is as it was -/
def cellS (a : Nat) (h h' : av_H) : Prop := h'.2.2.2 a = h.2.2.2 a ∧ h'.2.1 a = h.2.1 a ∧ h'.2.1 (a + 1) = h.2.1 (a + 1) ∧ h'.2.1 (a + 2) = h.2.1 (a + 2)
def rowS (u : Nat) (h h' : av_H) : Prop := h'.2.1 143 u = h.2.1 143 u ∧ h'.2.1 144 u = h.2.1 144 u ∧ h'.2.1 148 u = h.2.1 148 u ∧ h'.2.1 149 u = h.2.1 149 u ∧ h'.2.1 150 u = h.2.1 150 u ∧
  (∀ s, s < 4 → ∀ c, c < 10 → ∀ f, f < 12 → h'.2.1 145 (((4 * u + s) * 12 + f) * 10 + c) = h.2.1 145 (((4 * u + s) * 12 + f) * 10 + c)) ∧ (∀ s, s < 4 → ∀ x, x < 10 → h'.2.1 147 ((4 * u + s) * 10 + x) = h.2.1 147 ((4 * u + s) * 10 + x))
theorem twN.fr {h h' : av_H} {u : Nat} (T : twN h u) (R : rowS u h h') : twN h' u := by
  obtain ⟨r1, r2, r3, r4, r5, r6, r7⟩ := R
  obtain ⟨t1, t2, t3, t4, t5, t6⟩ := T
  exact ⟨r1.trans t1, r3.trans t2, r4.trans t3, r5.trans t4, fun s hs c hc f hf => (r6 s hs c hc f hf).trans (t5 s hs c hc f hf), fun s hs x hx => (r7 s hs x hx).trans (t6 s hs x hx)⟩
theorem kext {h h' : av_H} (k : ∃ t, h'.1 = h.1 ++ t) {a : Nat} {q : Nat × Nat} (e : h.1[a]? = some q) : h'.1[a]? = some q := (show agr (fun _ _ => false) h h' from ⟨k, fun _ _ z => by cases z⟩).k e
theorem twA.fr {h h' : av_H} {u a : Nat} (T : twA h u a) (k : ∃ t, h'.1 = h.1 ++ t) (C : cellS a h h') (R : rowS u h h') : twA h' u a := by
  obtain ⟨r1, r2, r3, r4, r5, r6, r7⟩ := R
  obtain ⟨c1, c2, c3, c4⟩ := C
  obtain ⟨b0, b1, b2, b3, b4, b5, ⟨F, C, W, L, V, p1, p2, p3, p4, p5, p6, p7, p8, p9, q1, q2, q3, q4, q5, q6, q7, q8, q9, q0⟩, b7, b8⟩ := T
  refine ⟨b0, kext k b1, kext k b2, kext k b3, by rw [c1]; exact b4, by rw [c1]; exact b5, ⟨F, C, W, L, V, p1, p2, p3, p4, p5, p6, p7, p8, p9, by rw [c2]; exact q1, r1.trans q2, by rw [c2]; exact q3, r2.trans q4, by rw [c2]; exact q5, r3.trans q6, by rw [c2]; exact q7, r4.trans q8, by rw [c2]; exact q9, r5.trans q0⟩, fun s hs c hc => ?_, fun s hs => ?_⟩
  · obtain ⟨b, z1, z2, z3⟩ := b7 s hs c hc
    exact ⟨b, z1, by rw [c3]; exact z2, fun f hf => (r6 s hs c hc f hf).trans (z3 f hf)⟩
  · obtain ⟨b, z1, z2, z3⟩ := b8 s hs
    exact ⟨b, z1, by rw [c4]; exact z2, fun x hx => (r7 s hs x hx).trans (z3 x hx)⟩
theorem J_tow.upd {h h' : av_H} (J : J_tow h) {t a : Nat} (h6 : t < 6) (ht : h.2.2.2 1 t = some a) (k : ∃ z, h'.1 = h.1 ++ z) (R1 : h'.2.2.2 1 = h.2.2.2 1) (S : ∀ u, u < 6 → u ≠ t → rowS u h h') (C : ∀ b, 226 ≤ b → (b + 3 ≤ a ∨ a + 3 ≤ b) → cellS b h h') (T' : twA h' t a) : J_tow h' := by
  refine ⟨fun u hu => ?_, fun u v a b => by rw [R1]; exact J.2 u v a b⟩
  rw [R1]
  by_cases e : u = t
  · subst e
    exact Or.inr ⟨a, ht, T'⟩
  · rcases J.1 u hu with ⟨h1, h2⟩ | ⟨b, h1, h2⟩
    · exact Or.inl ⟨h1, h2.fr (S u hu e)⟩
    · exact Or.inr ⟨b, h1, h2.fr k (C b h2.1 (J.2 u t b a hu h6 e h1 ht)) (S u hu e)⟩
section
variable {X : av_X} {d : Nat} {h : av_H}
theorem c_hasBit {n k : Nat} (hn : n < 2 ^ 31) (hk : k < 32) : ev X (d + 1) 185 [vi (nI n), vi (nI k)] h = av_rI (bI (n.testBit k)) h := by
  simp (disch := first | ((repeat (first | with_reducible apply WF_uI | with_reducible apply WF_uL | with_reducible apply WF_th)); with_reducible assumption) | omega | (simp only [uI_1, uL_1, th_1, uI_R, uL_R]; with_reducible assumption)) only [e_185, b_185_0, nb_bit]
  cases n.testBit k <;> rfl
theorem c_hasBit' {n k : Nat} (hn : n < 2 ^ 31) (hk : k < 32) {β : Type} (Kc : Int32 × av_H → Option β) : (av_cI (ev X (d + 1) 185 [vi (nI n), vi (nI k)] h)).bind Kc = Kc (bI (n.testBit k), h) := by rw [c_hasBit hn hk]; rfl
theorem c_withBit {b f : Nat} (hf : f < 31) (y : Bool) : ev X (d + 1) 125 [vi (nI b), vi (nI f), vi (bI y)] h = av_rI (nI (setB b f y)) h := by
  simp (disch := first | ((repeat (first | with_reducible apply WF_uI | with_reducible apply WF_uL | with_reducible apply WF_th)); with_reducible assumption) | omega | (simp only [uI_1, uL_1, th_1, uI_R, uL_R]; with_reducible assumption)) only [e_125, b_125_0, nb_sh1, nb_or, nb_andn, bI_0, setB]
  cases y <;> rfl
theorem c_withBit' {b f : Nat} (hf : f < 31) (y : Bool) {β : Type} (Kc : Int32 × av_H → Option β) : (av_cI (ev X (d + 1) 125 [vi (nI b), vi (nI f), vi (bI y)] h)).bind Kc = Kc (nI (setB b f y), h) := by rw [c_withBit hf y]; rfl
theorem c_setBl {a s f c b : Nat} (k1 : h.1[a]? = some (9, 0)) (k2 : h.1[a + 1]? = some (100, 40)) (r5 : h.2.2.2 a 5 = some (a + 1)) (hs : s < 4) (hc : c < 10) (hf : f < 12) (hb : h.2.1 (a + 1) (s * 10 + c) = nI b) (y : Bool) : ev X (d + 2) 117 [vr (some a), vi (nI s), vi (nI f), vi (nI c), vi (bI y)] h = av_rV (av_uI h (a + 1) (s * 10 + c) (nI (setB b f y))) := by
  simp only [e_117, b_117_0, lit_10, pk_mul, nI_add]
  simp (disch := first | ((repeat (first | with_reducible apply WF_uI | with_reducible apply WF_uL | with_reducible apply WF_th)); with_reducible assumption) | omega | (simp only [uI_1, uL_1, th_1, uI_R, uL_R]; with_reducible assumption)) only [↓tw_gR5, ↓tw_n40, ↓c_below', rg_lt, bI_0, Bool.true_eq_false, if_false, ↓tw_l40, hb]
  simp (disch := first | ((repeat (first | with_reducible apply WF_uI | with_reducible apply WF_uL | with_reducible apply WF_th)); with_reducible assumption) | omega | (simp only [uI_1, uL_1, th_1, uI_R, uL_R]; with_reducible assumption)) only [↓c_withBit', ↓tw_s40]
theorem c_setBl' {a s f c b : Nat} (k1 : h.1[a]? = some (9, 0)) (k2 : h.1[a + 1]? = some (100, 40)) (r5 : h.2.2.2 a 5 = some (a + 1)) (hs : s < 4) (hc : c < 10) (hf : f < 12) (hb : h.2.1 (a + 1) (s * 10 + c) = nI b) (y : Bool) {β : Type} (Kc : av_H → Option β) : (av_cV (ev X (d + 2) 117 [vr (some a), vi (nI s), vi (nI f), vi (nI c), vi (bI y)] h)).bind Kc = Kc (av_uI h (a + 1) (s * 10 + c) (nI (setB b f y))) := by rw [c_setBl k1 k2 r5 hs hc hf hb y]; rfl
theorem c_setOp {a s x b : Nat} (k1 : h.1[a]? = some (9, 0)) (k2 : h.1[a + 2]? = some (100, 4)) (r6 : h.2.2.2 a 6 = some (a + 2)) (hs : s < 4) (hx : x < 10) (hb : h.2.1 (a + 2) s = nI b) (y : Bool) : ev X (d + 3) 120 [vr (some a), vi (nI s), vi (nI x), vi (bI y)] h = av_rV (av_uI h (a + 2) s (nI (setB b x (!y)))) := by
  have hr : rg (nI s) 0 3 = true := rg_lt2 (n := 3) (by omega) (by decide)
  simp (disch := first | ((repeat (first | with_reducible apply WF_uI | with_reducible apply WF_uL | with_reducible apply WF_th)); with_reducible assumption) | omega | (simp only [uI_1, uL_1, th_1, uI_R, uL_R]; with_reducible assumption)) only [e_120, b_120_0, ↓c_isSide', hr, bI_0, Bool.true_eq_false, if_false, ↓tw_gR6, ↓tw_l4, hb]
  rw [← bI_t, ← bI_f]
  simp (disch := first | ((repeat (first | with_reducible apply WF_uI | with_reducible apply WF_uL | with_reducible apply WF_th)); with_reducible assumption) | omega | (simp only [uI_1, uL_1, th_1, uI_R, uL_R]; with_reducible assumption)) only [↓c_withBit', ↓tw_s4]
  cases y <;> rfl
theorem c_setOp' {a s x b : Nat} (k1 : h.1[a]? = some (9, 0)) (k2 : h.1[a + 2]? = some (100, 4)) (r6 : h.2.2.2 a 6 = some (a + 2)) (hs : s < 4) (hx : x < 10) (hb : h.2.1 (a + 2) s = nI b) (y : Bool) {β : Type} (Kc : av_H → Option β) : (av_cV (ev X (d + 3) 120 [vr (some a), vi (nI s), vi (nI x), vi (bI y)] h)).bind Kc = Kc (av_uI h (a + 2) s (nI (setB b x (!y)))) := by rw [c_setOp k1 k2 r6 hs hx hb y]; rfl
end
