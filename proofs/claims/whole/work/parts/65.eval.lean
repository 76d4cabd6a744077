/-! what a rule's E is worth: the class's steps, the reference's codes -/
theorem setC_u {h : av_H} {a k : Nat} {f : Nat → Int32} {v : Int32} : av_uI (setC h a f) a k v = setC h a (upd f k v) := by
  have e : va_up (va_up h.2.1 a f) a (upd (va_up h.2.1 a f a) k v) = va_up h.2.1 a (upd f k v) := by
    funext c j
    by_cases e1 : c = a
    · subst e1
      rw [va_up_self, va_up_self, va_up_self]
    · rw [va_up_ne _ _ e1, va_up_ne _ _ e1, va_up_ne _ _ e1]
  simp only [setC, av_uI, e]
theorem setC_id {h : av_H} {a : Nat} : setC h a (h.2.1 a) = h := by
  have e : va_up h.2.1 a (h.2.1 a) = h.2.1 := by
    funext c j
    by_cases e1 : c = a
    · subst e1
      rw [va_up_self]
    · rw [va_up_ne _ _ e1]
  simp only [setC, e]
theorem agr.setC {F : Nat → Nat → Bool} {h h' : av_H} {a : Nat} {f : Nat → Int32} (q : ∀ j, F a j = false) (A : agr F h h') : agr F h (setC h' a f) := by
  refine ⟨A.1, fun x y e => ⟨?_, (A.2 x y e).2⟩⟩
  rw [setC_ne (fun z => by rw [z, q] at e; cases e)]
  exact (A.2 x y e).1
/-- what two are worth together -/
def bin (s : Nat) (a b : Int32) : Int32 := if s = 10009 then (if a = 0 then 0 else if b = 0 then 0 else 1) else if s = 10010 then (if a = 0 then (if b = 0 then 0 else 1) else 1) else if s = 20043 then a + b else if s = 20045 then a - b else if s = 20060 then (if a < b then 1 else 0) else if s = 20061 then (if a = b then 1 else 0) else a * b
theorem bin_a (a b : Int32) : bin 10009 a b = if a = 0 then 0 else if b = 0 then 0 else 1 := rfl
theorem bin_o (a b : Int32) : bin 10010 a b = if a = 0 then (if b = 0 then 0 else 1) else 1 := rfl
theorem bin_p (a b : Int32) : bin 20043 a b = a + b := rfl
theorem bin_m (a b : Int32) : bin 20045 a b = a - b := rfl
theorem bin_l (a b : Int32) : bin 20060 a b = if a < b then 1 else 0 := rfl
theorem bin_e (a b : Int32) : bin 20061 a b = if a = b then 1 else 0 := rfl
theorem bin_t (a b : Int32) : bin 20042 a b = a * b := rfl
def isB (s : Nat) : Prop := s = 10009 ∨ s = 10010 ∨ s = 20043 ∨ s = 20045 ∨ s = 20060 ∨ s = 20061 ∨ s = 20042
def isF (s : Nat) : Prop := 10012 ≤ s ∧ s < 10023
/-- one step over a stack: how many there are, and what they are -/
def stp (fc : Nat → Int32) (s : Nat) (st : Nat × (Nat → Int32)) : Nat × (Nat → Int32) :=
  if s < 10000 then (st.1 + 1, upd st.2 st.1 (nI s)) else if 10012 ≤ s ∧ s < 10023 then (st.1 + 1, upd st.2 st.1 (fc (s - 10012))) else if s = 10011 then (st.1, upd st.2 (st.1 - 1) (if st.2 (st.1 - 1) = 0 then 1 else 0)) else (st.1 - 1, upd st.2 (st.1 - 2) (bin s (st.2 (st.1 - 2)) (st.2 (st.1 - 1))))
/-- the step may be done over n -/
def okSt (s n : Nat) : Prop := (s < 10000 ∧ n < 32) ∨ (isF s ∧ n < 32) ∨ (s = 10011 ∧ 1 ≤ n ∧ n ≤ 32) ∨ (isB s ∧ 2 ≤ n ∧ n ≤ 32)
def dpS (s n : Nat) : Nat := if s < 10000 then n + 1 else if 10012 ≤ s ∧ s < 10023 then n + 1 else if s = 10011 then n else n - 1
theorem stp_1 (fc : Nat → Int32) (s : Nat) (st : Nat × (Nat → Int32)) : (stp fc s st).1 = dpS s st.1 := by
  unfold stp dpS
  split
  · rfl
  · split
    · rfl
    · split <;> rfl
/-- l steps from the i-th on may be done over n, and leave one -/
def okRu (E : Nat → Nat) : Nat → Nat → Nat → Prop
  | 0, _, n => n = 1
  | l + 1, i, n => okSt (E i) n ∧ okRu E l (i + 1) (dpS (E i) n)
def rnS (fc : Nat → Int32) (E : Nat → Nat) : Nat → Nat → Nat × (Nat → Int32) → Nat × (Nat → Int32)
  | 0, _, st => st
  | l + 1, i, st => rnS fc E l (i + 1) (stp fc (E i) st)
theorem stp_E {fc gc : Nat → Int32} (hf : ∀ j, j < 11 → fc j = gc j) {s : Nat} {p q : Nat × (Nat → Int32)} (h1 : p.1 = q.1) (h2 : ∀ i, i < p.1 → p.2 i = q.2 i) (ok : okSt s p.1) : (stp fc s p).1 = (stp gc s q).1 ∧ ∀ i, i < (stp fc s p).1 → (stp fc s p).2 i = (stp gc s q).2 i := by
  refine ⟨by rw [stp_1, stp_1, h1], ?_⟩
  unfold stp
  rw [← h1]
  by_cases z1 : s < 10000
  · simp only [if_pos z1]
    intro i hi
    by_cases e : i = p.1
    · subst e
      rw [pk_us, pk_us]
    · rw [pk_un e, pk_un e]
      exact h2 i (by omega)
  · simp only [if_neg z1]
    by_cases z2 : 10012 ≤ s ∧ s < 10023
    · simp only [if_pos z2]
      intro i hi
      by_cases e : i = p.1
      · subst e
        rw [pk_us, pk_us]
        exact hf _ (by omega)
      · rw [pk_un e, pk_un e]
        exact h2 i (by omega)
    · simp only [if_neg z2]
      by_cases z3 : s = 10011
      · simp only [if_pos z3]
        have n1 : 1 ≤ p.1 := by
          rcases ok with o | o | o | o
          · omega
          · exact absurd o.1 z2
          · omega
          · omega
        intro i hi
        by_cases e : i = p.1 - 1
        · subst e
          rw [pk_us, pk_us, h2 _ hi]
        · rw [pk_un e, pk_un e]
          exact h2 i hi
      · simp only [if_neg z3]
        have n2 : 2 ≤ p.1 := by
          rcases ok with o | o | o | o
          · omega
          · exact absurd o.1 z2
          · omega
          · omega
        intro i hi
        by_cases e : i = p.1 - 2
        · subst e
          rw [pk_us, pk_us, h2 _ (by omega), h2 _ (by omega)]
        · rw [pk_un e, pk_un e]
          exact h2 i (by omega)
theorem rnS_E {fc gc : Nat → Int32} (hf : ∀ j, j < 11 → fc j = gc j) {E : Nat → Nat} : ∀ l i (p q : Nat × (Nat → Int32)), p.1 = q.1 → (∀ i, i < p.1 → p.2 i = q.2 i) → okRu E l i p.1 → (rnS fc E l i p).2 0 = (rnS gc E l i q).2 0
  | 0, i, p, q, _, h2, ok => h2 0 (by
    have : p.1 = 1 := ok
    omega)
  | l + 1, i, p, q, h1, h2, ok => by
    obtain ⟨a, b⟩ := stp_E hf h1 h2 ok.1
    exact rnS_E hf l (i + 1) _ _ a b (by rw [stp_1]; exact ok.2)
/-- the value of an E over facts -/
def wor (fc : Nat → Int32) (E : Nat → Nat) (l : Nat) : Int32 := (rnS fc E l 0 (0, fun _ => 0)).2 0
theorem wor_eq {fc gc : Nat → Int32} (hf : ∀ j, j < 11 → fc j = gc j) {E : Nat → Nat} {l : Nat} (ok : okRu E l 0 0) (f : Nat → Int32) : (rnS fc E l 0 (0, f)).2 0 = wor gc E l := rnS_E hf l 0 (0, f) (0, fun _ => 0) rfl (fun i hi => absurd hi (Nat.not_lt_zero i)) ok
theorem sub12 {s : Nat} (hs : s < 30000) : (nI s - (10012 : Int32) < 0) ↔ s < 10012 := by
  rw [i_lt, show (10012 : Int32) = nI 10012 from rfl, pk_sub_toInt (by omega) (by omega), tI_0]
  omega
/-- how the reference writes a step -/
def opc (s : Nat) : Nat := if s < 10000 then 1 else if 10012 ≤ s ∧ s < 10023 then 2 else if s = 10011 then 3 else if s = 20043 then 4 else if s = 20045 then 5 else if s = 20042 then 6 else if s = 20060 then 7 else if s = 20061 then 8 else if s = 10009 then 9 else 10
def agc (s : Nat) : Nat := if s < 10000 then s else s - 10012
/-- an E of the reference, from code L on -/
def ruQ (h : av_H) (L : Nat) (E : Nat → Nat) (l : Nat) : Prop := L + l < 1100 ∧ (∀ i, i < l → h.2.1 161 (L + i) = nI (opc (E i)) ∧ ((E i < 10000 ∨ isF (E i)) → h.2.1 162 (L + i) = nI (agc (E i)))) ∧ h.2.1 161 (L + l) = 0
section
variable {X : av_X} {d : Nat} {h : av_H}
/-- an E of the class, at place P -/
def ruC_67 (h : av_H) (P : Nat) (E : Nat → Nat) (l : Nat) : Prop := ∃ b T, b + l ≤ T ∧ T ≤ 1000 ∧ h.2.1 67 9 = nI T ∧ h.2.1 69 P = nI b ∧ h.2.1 70 P = nI (b + l) ∧ ∀ i, i < l → h.2.1 68 (b + i) = nI (E i)
theorem app1_67 (w : WF h) {n : Nat} {f : Nat → Int32} (n1 : 1 ≤ n) (n2 : n ≤ 32) : ev X (d + 1) 102 [vr (some 67), vi (nI 10011), vi (nI n)] (setC h 71 f) = av_rI (nI n) (setC h 71 (upd f (n - 1) (if f (n - 1) = 0 then 1 else 0))) := by
  have w' : WF (setC h 71 f) := w
  rw [e_102, b_102_0, if_pos (show nI 10011 = (10011 : Int32) from rfl), if_neg (show ¬ nI n < (1 : Int32) from nI_nlt (b := 1) n1 (by omega)), gR_67_8 w', gR_67_8 w', nI_prd n1, ld_71 w' (by omega), setC_eq]
  by_cases q : f (n - 1) = 0
  · rw [if_pos q, if_pos q, st_71 w' (by omega), setC_u]
  · rw [if_neg q, if_neg q, st_71 w' (by omega), setC_u]
theorem app2_67 (w : WF h) {s n : Nat} {f : Nat → Int32} (hs : isB s) (n1 : 2 ≤ n) (n2 : n ≤ 32) : ev X (d + 1) 102 [vr (some 67), vi (nI s), vi (nI n)] (setC h 71 f) = av_rI (nI (n - 1)) (setC h 71 (upd f (n - 2) (bin s (f (n - 2)) (f (n - 1))))) := by
  have w' : WF (setC h 71 f) := w
  have s9 : ¬ nI s = (10011 : Int32) := fun e => by
    have := (nI_eq (a := s) (b := 10011) (by rcases hs with rfl | rfl | rfl | rfl | rfl | rfl | rfl <;> decide) (by omega)).mp e
    rcases hs with h | h | h | h | h | h | h <;> omega
  have e2 : nI n - 2 = nI (n - 2) := pk_sub (b := 2) n1
  rw [e_102, b_102_0, if_neg s9, b_102_24, if_neg (show ¬ nI n < (2 : Int32) from nI_nlt (b := 2) n1 (by omega)), gR_67_8 w', e2, ld_71 w' (by omega), gR_67_8 w', nI_prd (by omega), ld_71 w' (by omega), setC_eq]
  rcases hs with rfl | rfl | rfl | rfl | rfl | rfl | rfl
  · rw [if_pos (show nI 10009 = (10009 : Int32) from rfl), gR_67_8 w', bin_a]
    by_cases q : f (n - 2) = 0
    · rw [if_pos q, if_pos q, st_71 w' (by omega), setC_u]
    · rw [if_neg q, if_neg q]
      by_cases q2 : f (n - 1) = 0
      · rw [if_pos q2, if_pos q2, st_71 w' (by omega), setC_u]
      · rw [if_neg q2, if_neg q2, st_71 w' (by omega), setC_u]
  · rw [if_neg (show ¬ nI 10010 = (10009 : Int32) by decide), if_pos (show nI 10010 = (10010 : Int32) from rfl), gR_67_8 w', bin_o]
    by_cases q : f (n - 2) = 0
    · rw [if_pos q, if_pos q]
      by_cases q2 : f (n - 1) = 0
      · rw [if_pos q2, if_pos q2, st_71 w' (by omega), setC_u]
      · rw [if_neg q2, if_neg q2, st_71 w' (by omega), setC_u]
    · rw [if_neg q, if_neg q, st_71 w' (by omega), setC_u]
  · rw [if_neg (show ¬ nI 20043 = (10009 : Int32) by decide), if_neg (show ¬ nI 20043 = (10010 : Int32) by decide), if_pos (show nI 20043 = (20043 : Int32) from rfl), gR_67_8 w', bin_p, st_71 w' (by omega), setC_u]
  · rw [if_neg (show ¬ nI 20045 = (10009 : Int32) by decide), if_neg (show ¬ nI 20045 = (10010 : Int32) by decide), if_neg (show ¬ nI 20045 = (20043 : Int32) by decide), if_pos (show nI 20045 = (20045 : Int32) from rfl), gR_67_8 w', bin_m, st_71 w' (by omega), setC_u]
  · rw [if_neg (show ¬ nI 20060 = (10009 : Int32) by decide), if_neg (show ¬ nI 20060 = (10010 : Int32) by decide), if_neg (show ¬ nI 20060 = (20043 : Int32) by decide), if_neg (show ¬ nI 20060 = (20045 : Int32) by decide), if_pos (show nI 20060 = (20060 : Int32) from rfl), gR_67_8 w', bin_l]
    by_cases q : f (n - 2) < f (n - 1)
    · rw [if_pos q, if_pos q, st_71 w' (by omega), setC_u]
    · rw [if_neg q, if_neg q, st_71 w' (by omega), setC_u]
  · rw [if_neg (show ¬ nI 20061 = (10009 : Int32) by decide), if_neg (show ¬ nI 20061 = (10010 : Int32) by decide), if_neg (show ¬ nI 20061 = (20043 : Int32) by decide), if_neg (show ¬ nI 20061 = (20045 : Int32) by decide), if_neg (show ¬ nI 20061 = (20060 : Int32) by decide), if_pos (show nI 20061 = (20061 : Int32) from rfl), gR_67_8 w', bin_e]
    by_cases q : f (n - 2) = f (n - 1)
    · rw [if_pos q, if_pos q, st_71 w' (by omega), setC_u]
    · rw [if_neg q, if_neg q, st_71 w' (by omega), setC_u]
  · rw [if_neg (show ¬ nI 20042 = (10009 : Int32) by decide), if_neg (show ¬ nI 20042 = (10010 : Int32) by decide), if_neg (show ¬ nI 20042 = (20043 : Int32) by decide), if_neg (show ¬ nI 20042 = (20045 : Int32) by decide), if_neg (show ¬ nI 20042 = (20060 : Int32) by decide), if_neg (show ¬ nI 20042 = (20061 : Int32) by decide), gR_67_8 w', bin_t, st_71 w' (by omega), setC_u]
theorem ans_lp_67 (w : WF h) {P b T l0 : Nat} {E : Nat → Nat} (hP : P < 15) (hT : b + l0 ≤ T) (hT2 : T ≤ 1000) (e9 : h.2.1 67 9 = nI T) (eE : h.2.1 70 P = nI (b + l0)) (es : ∀ i, i < l0 → h.2.1 68 (b + i) = nI (E i)) : ∀ l i (st : Nat × (Nat → Int32)), i + l = l0 → okRu E l i st.1 → bd X (d + 1) 101 14 [(0, vr (some 67)), (1, vi (nI P)), (2, vr (some 64)), (3, vi (nI st.1)), (4, vi (nI (b + i)))] [] (setC h 71 st.2) = av_rI ((rnS (h.2.1 64) E l i st).2 0) (setC h 71 (rnS (h.2.1 64) E l i st).2)
  | 0, i, st, hi, ok => by
    have w' : WF (setC h 71 st.2) := w
    have n1 : st.1 = 1 := ok
    rw [b_101_14, gR_67_7 w', ld_70 w' hP, setC_ne (by decide), eE, if_neg (nI_nlt (by omega) (by omega)), b_101_78, n1, if_pos (by decide), gR_67_8 w', lit_0, ld_71 w' (by decide), setC_eq]
    rfl
  | l + 1, i, st, hi, ok => by
    have w' : WF (setC h 71 st.2) := w
    have ih := ans_lp_67 w hP hT hT2 e9 eE es l (i + 1) (stp (h.2.1 64) (E i) st) (by omega) (by rw [stp_1]; exact ok.2)
    have ei := es i (by omega)
    have s3 : E i < 30000 := by
      rcases ok.1 with o | o | o | o
      · omega
      · have := o.1; unfold isF at this; omega
      · omega
      · rcases o.1 with h | h | h | h | h | h | h <;> omega
    rw [b_101_14, gR_67_7 w', ld_70 w' hP, setC_ne (by decide), eE, if_pos (nI_lt (by omega) (by omega)), gI_67_9 w', setC_ne (by decide), e9, if_pos (nI_lt (by omega) (by omega)), gR_67_5 w', ld_68 w' (by omega), setC_ne (by decide), ei]
    have e49 : ¬ (10012 ≤ E i ∧ E i < 10023) → bd X (d + 1) 101 49 [(0, vr (some 67)), (1, vi (nI P)), (2, vr (some 64)), (3, vi (nI st.1)), (4, vi (nI (b + i)))] [] (setC h 71 st.2) = av_rI ((rnS (h.2.1 64) E (l + 1) i st).2 0) (setC h 71 (rnS (h.2.1 64) E (l + 1) i st).2) := fun nf => by
      rw [b_101_49, gR_67_5 w', ld_68 w' (by omega), setC_ne (by decide), ei]
      rw [stp] at ih
      by_cases z1 : E i < 10000
      · have n32 : st.1 < 32 := by
          rcases ok.1 with o | o | o | o
          · exact o.2
          · exact o.2
          · omega
          · rcases o.1 with h | h | h | h | h | h | h <;> omega
        rw [if_pos z1] at ih
        rw [if_pos (show nI (E i) < (10000 : Int32) from nI_lt (b := 10000) z1 (by omega)), if_pos (show nI st.1 < (32 : Int32) from nI_lt (b := 32) n32 (by omega)), gR_67_8 w', gR_67_5 w', ld_68 w' (by omega), setC_ne (by decide), ei, st_71 w' n32, setC_u, nI_1, nI_1]
        rw [rnS, stp, if_pos z1]
        exact ih
      · rw [if_neg z1, if_neg nf] at ih
        rw [if_neg (show ¬ nI (E i) < (10000 : Int32) from nI_nlt (b := 10000) (by omega) (by omega)), gR_67_5 w', ld_68 w' (by omega), setC_ne (by decide), ei, is_67 w']
        rw [rnS, stp, if_neg z1, if_neg nf]
        by_cases z3 : E i = 10011
        · have n1 : 1 ≤ st.1 ∧ st.1 ≤ 32 := by
            rcases ok.1 with o | o | o | o
            · omega
            · exact absurd o.1 nf
            · exact o.2
            · rcases o.1 with h | h | h | h | h | h | h <;> omega
          rw [if_pos z3] at ih
          rw [z3, app1_67 w n1.1 n1.2, av_cI_r, Option.bind_some, nI_1, if_pos rfl]
          exact ih
        · have n2 : isB (E i) ∧ 2 ≤ st.1 ∧ st.1 ≤ 32 := by
            rcases ok.1 with o | o | o | o
            · omega
            · exact absurd o.1 nf
            · omega
            · exact o
          rw [if_neg z3] at ih
          rw [app2_67 w n2.1 n2.2.1 n2.2.2, av_cI_r, Option.bind_some, nI_1, if_neg z3]
          exact ih
    by_cases z0 : E i < 10012
    · rw [if_pos ((sub12 s3).mpr z0)]
      exact e49 (by omega)
    · rw [if_neg (fun y => z0 ((sub12 s3).mp y)), ln_64 w', show (10012 : Int32) = nI 10012 from rfl, pk_sub (by omega)]
      by_cases z2 : E i < 10023
      · have n32 : st.1 < 32 := by
          rcases ok.1 with o | o | o | o
          · omega
          · exact o.2
          · omega
          · rcases o.1 with h | h | h | h | h | h | h <;> omega
        rw [stp, if_neg (by omega), if_pos ⟨by omega, z2⟩] at ih
        rw [if_pos (nI_lt (by omega) (by omega)), if_pos (show nI st.1 < (32 : Int32) from nI_lt (b := 32) n32 (by omega)), gR_67_8 w', ld_64 w' (by omega), setC_ne (by decide), st_71 w' n32, setC_u, nI_1, nI_1]
        rw [rnS, stp, if_neg (by omega), if_pos ⟨by omega, z2⟩]
        exact ih
      · rw [if_neg (nI_nlt (by omega) (by omega))]
        exact e49 (by omega)
/-- an E of the class, at place P -/
def ruC_72 (h : av_H) (P : Nat) (E : Nat → Nat) (l : Nat) : Prop := ∃ b T, b + l ≤ T ∧ T ≤ 1000 ∧ h.2.1 72 9 = nI T ∧ h.2.1 74 P = nI b ∧ h.2.1 75 P = nI (b + l) ∧ ∀ i, i < l → h.2.1 73 (b + i) = nI (E i)
theorem app1_72 (w : WF h) {n : Nat} {f : Nat → Int32} (n1 : 1 ≤ n) (n2 : n ≤ 32) : ev X (d + 1) 102 [vr (some 72), vi (nI 10011), vi (nI n)] (setC h 76 f) = av_rI (nI n) (setC h 76 (upd f (n - 1) (if f (n - 1) = 0 then 1 else 0))) := by
  have w' : WF (setC h 76 f) := w
  rw [e_102, b_102_0, if_pos (show nI 10011 = (10011 : Int32) from rfl), if_neg (show ¬ nI n < (1 : Int32) from nI_nlt (b := 1) n1 (by omega)), gR_72_8 w', gR_72_8 w', nI_prd n1, ld_76 w' (by omega), setC_eq]
  by_cases q : f (n - 1) = 0
  · rw [if_pos q, if_pos q, st_76 w' (by omega), setC_u]
  · rw [if_neg q, if_neg q, st_76 w' (by omega), setC_u]
theorem app2_72 (w : WF h) {s n : Nat} {f : Nat → Int32} (hs : isB s) (n1 : 2 ≤ n) (n2 : n ≤ 32) : ev X (d + 1) 102 [vr (some 72), vi (nI s), vi (nI n)] (setC h 76 f) = av_rI (nI (n - 1)) (setC h 76 (upd f (n - 2) (bin s (f (n - 2)) (f (n - 1))))) := by
  have w' : WF (setC h 76 f) := w
  have s9 : ¬ nI s = (10011 : Int32) := fun e => by
    have := (nI_eq (a := s) (b := 10011) (by rcases hs with rfl | rfl | rfl | rfl | rfl | rfl | rfl <;> decide) (by omega)).mp e
    rcases hs with h | h | h | h | h | h | h <;> omega
  have e2 : nI n - 2 = nI (n - 2) := pk_sub (b := 2) n1
  rw [e_102, b_102_0, if_neg s9, b_102_24, if_neg (show ¬ nI n < (2 : Int32) from nI_nlt (b := 2) n1 (by omega)), gR_72_8 w', e2, ld_76 w' (by omega), gR_72_8 w', nI_prd (by omega), ld_76 w' (by omega), setC_eq]
  rcases hs with rfl | rfl | rfl | rfl | rfl | rfl | rfl
  · rw [if_pos (show nI 10009 = (10009 : Int32) from rfl), gR_72_8 w', bin_a]
    by_cases q : f (n - 2) = 0
    · rw [if_pos q, if_pos q, st_76 w' (by omega), setC_u]
    · rw [if_neg q, if_neg q]
      by_cases q2 : f (n - 1) = 0
      · rw [if_pos q2, if_pos q2, st_76 w' (by omega), setC_u]
      · rw [if_neg q2, if_neg q2, st_76 w' (by omega), setC_u]
  · rw [if_neg (show ¬ nI 10010 = (10009 : Int32) by decide), if_pos (show nI 10010 = (10010 : Int32) from rfl), gR_72_8 w', bin_o]
    by_cases q : f (n - 2) = 0
    · rw [if_pos q, if_pos q]
      by_cases q2 : f (n - 1) = 0
      · rw [if_pos q2, if_pos q2, st_76 w' (by omega), setC_u]
      · rw [if_neg q2, if_neg q2, st_76 w' (by omega), setC_u]
    · rw [if_neg q, if_neg q, st_76 w' (by omega), setC_u]
  · rw [if_neg (show ¬ nI 20043 = (10009 : Int32) by decide), if_neg (show ¬ nI 20043 = (10010 : Int32) by decide), if_pos (show nI 20043 = (20043 : Int32) from rfl), gR_72_8 w', bin_p, st_76 w' (by omega), setC_u]
  · rw [if_neg (show ¬ nI 20045 = (10009 : Int32) by decide), if_neg (show ¬ nI 20045 = (10010 : Int32) by decide), if_neg (show ¬ nI 20045 = (20043 : Int32) by decide), if_pos (show nI 20045 = (20045 : Int32) from rfl), gR_72_8 w', bin_m, st_76 w' (by omega), setC_u]
  · rw [if_neg (show ¬ nI 20060 = (10009 : Int32) by decide), if_neg (show ¬ nI 20060 = (10010 : Int32) by decide), if_neg (show ¬ nI 20060 = (20043 : Int32) by decide), if_neg (show ¬ nI 20060 = (20045 : Int32) by decide), if_pos (show nI 20060 = (20060 : Int32) from rfl), gR_72_8 w', bin_l]
    by_cases q : f (n - 2) < f (n - 1)
    · rw [if_pos q, if_pos q, st_76 w' (by omega), setC_u]
    · rw [if_neg q, if_neg q, st_76 w' (by omega), setC_u]
  · rw [if_neg (show ¬ nI 20061 = (10009 : Int32) by decide), if_neg (show ¬ nI 20061 = (10010 : Int32) by decide), if_neg (show ¬ nI 20061 = (20043 : Int32) by decide), if_neg (show ¬ nI 20061 = (20045 : Int32) by decide), if_neg (show ¬ nI 20061 = (20060 : Int32) by decide), if_pos (show nI 20061 = (20061 : Int32) from rfl), gR_72_8 w', bin_e]
    by_cases q : f (n - 2) = f (n - 1)
    · rw [if_pos q, if_pos q, st_76 w' (by omega), setC_u]
    · rw [if_neg q, if_neg q, st_76 w' (by omega), setC_u]
  · rw [if_neg (show ¬ nI 20042 = (10009 : Int32) by decide), if_neg (show ¬ nI 20042 = (10010 : Int32) by decide), if_neg (show ¬ nI 20042 = (20043 : Int32) by decide), if_neg (show ¬ nI 20042 = (20045 : Int32) by decide), if_neg (show ¬ nI 20042 = (20060 : Int32) by decide), if_neg (show ¬ nI 20042 = (20061 : Int32) by decide), gR_72_8 w', bin_t, st_76 w' (by omega), setC_u]
theorem ans_lp_72 (w : WF h) {P b T l0 : Nat} {E : Nat → Nat} (hP : P < 15) (hT : b + l0 ≤ T) (hT2 : T ≤ 1000) (e9 : h.2.1 72 9 = nI T) (eE : h.2.1 75 P = nI (b + l0)) (es : ∀ i, i < l0 → h.2.1 73 (b + i) = nI (E i)) : ∀ l i (st : Nat × (Nat → Int32)), i + l = l0 → okRu E l i st.1 → bd X (d + 1) 101 14 [(0, vr (some 72)), (1, vi (nI P)), (2, vr (some 64)), (3, vi (nI st.1)), (4, vi (nI (b + i)))] [] (setC h 76 st.2) = av_rI ((rnS (h.2.1 64) E l i st).2 0) (setC h 76 (rnS (h.2.1 64) E l i st).2)
  | 0, i, st, hi, ok => by
    have w' : WF (setC h 76 st.2) := w
    have n1 : st.1 = 1 := ok
    rw [b_101_14, gR_72_7 w', ld_75 w' hP, setC_ne (by decide), eE, if_neg (nI_nlt (by omega) (by omega)), b_101_78, n1, if_pos (by decide), gR_72_8 w', lit_0, ld_76 w' (by decide), setC_eq]
    rfl
  | l + 1, i, st, hi, ok => by
    have w' : WF (setC h 76 st.2) := w
    have ih := ans_lp_72 w hP hT hT2 e9 eE es l (i + 1) (stp (h.2.1 64) (E i) st) (by omega) (by rw [stp_1]; exact ok.2)
    have ei := es i (by omega)
    have s3 : E i < 30000 := by
      rcases ok.1 with o | o | o | o
      · omega
      · have := o.1; unfold isF at this; omega
      · omega
      · rcases o.1 with h | h | h | h | h | h | h <;> omega
    rw [b_101_14, gR_72_7 w', ld_75 w' hP, setC_ne (by decide), eE, if_pos (nI_lt (by omega) (by omega)), gI_72_9 w', setC_ne (by decide), e9, if_pos (nI_lt (by omega) (by omega)), gR_72_5 w', ld_73 w' (by omega), setC_ne (by decide), ei]
    have e49 : ¬ (10012 ≤ E i ∧ E i < 10023) → bd X (d + 1) 101 49 [(0, vr (some 72)), (1, vi (nI P)), (2, vr (some 64)), (3, vi (nI st.1)), (4, vi (nI (b + i)))] [] (setC h 76 st.2) = av_rI ((rnS (h.2.1 64) E (l + 1) i st).2 0) (setC h 76 (rnS (h.2.1 64) E (l + 1) i st).2) := fun nf => by
      rw [b_101_49, gR_72_5 w', ld_73 w' (by omega), setC_ne (by decide), ei]
      rw [stp] at ih
      by_cases z1 : E i < 10000
      · have n32 : st.1 < 32 := by
          rcases ok.1 with o | o | o | o
          · exact o.2
          · exact o.2
          · omega
          · rcases o.1 with h | h | h | h | h | h | h <;> omega
        rw [if_pos z1] at ih
        rw [if_pos (show nI (E i) < (10000 : Int32) from nI_lt (b := 10000) z1 (by omega)), if_pos (show nI st.1 < (32 : Int32) from nI_lt (b := 32) n32 (by omega)), gR_72_8 w', gR_72_5 w', ld_73 w' (by omega), setC_ne (by decide), ei, st_76 w' n32, setC_u, nI_1, nI_1]
        rw [rnS, stp, if_pos z1]
        exact ih
      · rw [if_neg z1, if_neg nf] at ih
        rw [if_neg (show ¬ nI (E i) < (10000 : Int32) from nI_nlt (b := 10000) (by omega) (by omega)), gR_72_5 w', ld_73 w' (by omega), setC_ne (by decide), ei, is_72 w']
        rw [rnS, stp, if_neg z1, if_neg nf]
        by_cases z3 : E i = 10011
        · have n1 : 1 ≤ st.1 ∧ st.1 ≤ 32 := by
            rcases ok.1 with o | o | o | o
            · omega
            · exact absurd o.1 nf
            · exact o.2
            · rcases o.1 with h | h | h | h | h | h | h <;> omega
          rw [if_pos z3] at ih
          rw [z3, app1_72 w n1.1 n1.2, av_cI_r, Option.bind_some, nI_1, if_pos rfl]
          exact ih
        · have n2 : isB (E i) ∧ 2 ≤ st.1 ∧ st.1 ≤ 32 := by
            rcases ok.1 with o | o | o | o
            · omega
            · exact absurd o.1 nf
            · omega
            · exact o
          rw [if_neg z3] at ih
          rw [app2_72 w n2.1 n2.2.1 n2.2.2, av_cI_r, Option.bind_some, nI_1, if_neg z3]
          exact ih
    by_cases z0 : E i < 10012
    · rw [if_pos ((sub12 s3).mpr z0)]
      exact e49 (by omega)
    · rw [if_neg (fun y => z0 ((sub12 s3).mp y)), ln_64 w', show (10012 : Int32) = nI 10012 from rfl, pk_sub (by omega)]
      by_cases z2 : E i < 10023
      · have n32 : st.1 < 32 := by
          rcases ok.1 with o | o | o | o
          · omega
          · exact o.2
          · omega
          · rcases o.1 with h | h | h | h | h | h | h <;> omega
        rw [stp, if_neg (by omega), if_pos ⟨by omega, z2⟩] at ih
        rw [if_pos (nI_lt (by omega) (by omega)), if_pos (show nI st.1 < (32 : Int32) from nI_lt (b := 32) n32 (by omega)), gR_72_8 w', ld_64 w' (by omega), setC_ne (by decide), st_76 w' n32, setC_u, nI_1, nI_1]
        rw [rnS, stp, if_neg (by omega), if_pos ⟨by omega, z2⟩]
        exact ih
      · rw [if_neg (nI_nlt (by omega) (by omega))]
        exact e49 (by omega)
end
