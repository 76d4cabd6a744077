/-! the rule in force, on both sides, and what it is asked over -/
def Ru : Type := Nat × Nat × Nat × (Nat → Nat → Nat) × (Nat → Nat) × (Nat → Nat) × (Nat → Bool) × Nat × Nat × Bool
def Ru.R (u : Ru) : Nat := u.1
def Ru.n0 (u : Ru) : Nat := u.2.1
def Ru.n1 (u : Ru) : Nat := u.2.2.1
def Ru.E (u : Ru) : Nat → Nat → Nat := u.2.2.2.1
def Ru.l (u : Ru) : Nat → Nat := u.2.2.2.2.1
def Ru.L (u : Ru) : Nat → Nat := u.2.2.2.2.2.1
def Ru.q (u : Ru) : Nat → Bool := u.2.2.2.2.2.2.1
def Ru.r (u : Ru) : Nat := u.2.2.2.2.2.2.2.1
def Ru.dd (u : Ru) : Nat := u.2.2.2.2.2.2.2.2.1
def Ru.ky (u : Ru) : Bool := u.2.2.2.2.2.2.2.2.2
/-- an E stands at place P -/
def Ru.has (u : Ru) (P : Nat) : Prop := P < u.n0 ∨ (6 ≤ P ∧ P < 6 + u.n1) ∨ (12 ≤ P ∧ P < 15 ∧ u.q (P - 12) = true)
def Ru.ok (u : Ru) : Prop := (u.R = 67 ∨ u.R = 72) ∧ u.n0 ≤ 6 ∧ u.n1 ≤ 6 ∧ (1 ≤ u.r ∧ u.r ≤ 12) ∧ (1 ≤ u.dd ∧ u.dd ≤ 99) ∧ ∀ P, u.has P → okRu (u.E P) (u.l P) 0 0
def Ru.C (u : Ru) (h : av_H) : Prop := h.2.2.2 0 15 = some u.R ∧ h.2.1 u.R 0 = nI u.n0 ∧ h.2.1 u.R 1 = nI u.n1 ∧ h.2.1 u.R 2 = nI u.r ∧ h.2.1 u.R 3 = nI u.dd ∧ h.2.1 u.R 4 = bI u.ky ∧ (∀ P, u.has P → ruG u.R h P (u.E P) (u.l P)) ∧ ∀ j, j < 3 → u.q j = false → ∃ b, b < 100000 ∧ h.2.1 (u.R + 2) (12 + j) = nI b ∧ h.2.1 (u.R + 3) (12 + j) = nI b
def Ru.Q (u : Ru) (h : av_H) : Prop := h.2.1 163 0 = nI u.n0 ∧ h.2.1 163 1 = nI u.n1 ∧ h.2.1 137 37 = nI u.r ∧ h.2.1 137 38 = nI u.dd ∧ h.2.1 137 41 = bI u.ky ∧ (∀ P, u.has P → ruQ h (u.L P) (u.E P) (u.l P)) ∧ (∀ k, k < u.n0 → h.2.1 164 k = nI (u.L k)) ∧ (∀ k, k < u.n1 → h.2.1 164 (6 + k) = nI (u.L (6 + k))) ∧ ∀ j, j < 3 → h.2.1 165 j = if u.q j = true then nI (u.L (12 + j)) else -1
def J_ru (h : av_H) : Prop := ∃ u : Ru, u.ok ∧ u.C h ∧ u.Q h
theorem ruG.fr {R P l : Nat} {E : Nat → Nat} {h h' : av_H} (G : ruG R h P E l) (e0 : ∀ k, h'.2.1 R k = h.2.1 R k) (e1 : ∀ k, h'.2.1 (R + 1) k = h.2.1 (R + 1) k) (e2 : ∀ k, h'.2.1 (R + 2) k = h.2.1 (R + 2) k) (e3 : ∀ k, h'.2.1 (R + 3) k = h.2.1 (R + 3) k) : ruG R h' P E l := by
  obtain ⟨b, T, h1, h2, h3, h4, h5, h6⟩ := G
  exact ⟨b, T, h1, h2, (e0 _).trans h3, (e2 _).trans h4, (e3 _).trans h5, fun i hi => (e1 _).trans (h6 i hi)⟩
theorem Ru.C.fr {u : Ru} {h h' : av_H} (o : u.ok) (J : u.C h) (A : agr (FP false [67, 68, 69, 70, 72, 73, 74, 75] [(0, 15)]) h h') : u.C h' := by
  obtain ⟨h0, h1, h2, h3, h4, h5, h6, h7⟩ := J
  have e0 : ∀ k, h'.2.1 u.R k = h.2.1 u.R k := fun k => by rcases o.1 with e | e <;> rw [e] <;> exact A.I rfl
  have e1 : ∀ k, h'.2.1 (u.R + 1) k = h.2.1 (u.R + 1) k := fun k => by rcases o.1 with e | e <;> rw [e] <;> exact A.I rfl
  have e2 : ∀ k, h'.2.1 (u.R + 2) k = h.2.1 (u.R + 2) k := fun k => by rcases o.1 with e | e <;> rw [e] <;> exact A.I rfl
  have e3 : ∀ k, h'.2.1 (u.R + 3) k = h.2.1 (u.R + 3) k := fun k => by rcases o.1 with e | e <;> rw [e] <;> exact A.I rfl
  refine ⟨(A.R rfl).trans h0, (e0 _).trans h1, (e0 _).trans h2, (e0 _).trans h3, (e0 _).trans h4, (e0 _).trans h5, fun P hP => (h6 P hP).fr e0 e1 e2 e3, fun j hj q => ?_⟩
  obtain ⟨b, b1, b2, b3⟩ := h7 j hj q
  exact ⟨b, b1, (e2 _).trans b2, (e3 _).trans b3⟩
theorem Ru.Q.fr {u : Ru} {h h' : av_H} (J : u.Q h) (A : agr (FP false [161, 162, 163, 164, 165] [(137, 37), (137, 38), (137, 41)]) h h') : u.Q h' := by
  obtain ⟨h1, h2, h3, h4, h5, h6, h7, h8, h9⟩ := J
  refine ⟨(A.I rfl).trans h1, (A.I rfl).trans h2, (A.I rfl).trans h3, (A.I rfl).trans h4, (A.I rfl).trans h5, fun P hP => ?_, fun k hk => (A.I rfl).trans (h7 k hk), fun k hk => (A.I rfl).trans (h8 k hk), fun j hj => (A.I rfl).trans (h9 j hj)⟩
  obtain ⟨q1, q2, q3⟩ := h6 P hP
  exact ⟨q1, fun i hi => ⟨(A.I rfl).trans (q2 i hi).1, fun z => (A.I rfl).trans ((q2 i hi).2 z)⟩, (A.I rfl).trans q3⟩
theorem J_ru.fr {h h' : av_H} (J : J_ru h) (A : agr (FP false [67, 68, 69, 70, 72, 73, 74, 75, 161, 162, 163, 164, 165] [(0, 15), (137, 37), (137, 38), (137, 41)]) h h') : J_ru h' := by
  obtain ⟨u, o, c, q⟩ := J
  exact ⟨u, o, c.fr o (A.sub (by decide)), q.fr (A.sub (by decide))⟩
theorem wor_cg {fc gc : Nat → Int32} (hf : ∀ j, j < 11 → fc j = gc j) {E : Nat → Nat} {l : Nat} (ok : okRu E l 0 0) : wor fc E l = wor gc E l := wor_eq hf ok _
theorem anyN_cg {P Q : Nat → Bool} : ∀ n i, (∀ k, i ≤ k → k < i + n → P k = Q k) → anyN n i P = anyN n i Q
  | 0, _, _ => rfl
  | n + 1, i, e => by
    rw [anyN, anyN, e i (by omega) (by omega), anyN_cg n (i + 1) (fun k h1 h2 => e k (by omega) (by omega))]
/-- a stop says so; a quiet says so -/
def Ru.st (u : Ru) (F : Nat → Int32) : Bool := anyN u.n0 0 (fun k => !decide (wor F (u.E k) (u.l k) = 0))
def Ru.qu (u : Ru) (F : Nat → Int32) : Bool := anyN u.n1 0 (fun k => !decide (wor F (u.E (6 + k)) (u.l (6 + k)) = 0))
theorem Ru.st_cg {u : Ru} (o : u.ok) {F G : Nat → Int32} (e : ∀ j, j < 11 → F j = G j) : u.st F = u.st G := anyN_cg _ _ (fun k _ hk => by rw [wor_cg e (o.2.2.2.2.2 k (Or.inl (by omega)))])
theorem Ru.qu_cg {u : Ru} (o : u.ok) {F G : Nat → Int32} (e : ∀ j, j < 11 → F j = G j) : u.qu F = u.qu G := anyN_cg _ _ (fun k _ hk => by rw [wor_cg e (o.2.2.2.2.2 (6 + k) (Or.inr (Or.inl ⟨by omega, by omega⟩)))])
/-- what is written for a place, over facts -/
def Ru.an (u : Ru) (j : Nat) (F : Nat → Int32) : Int32 := if u.q j = true then wor F (u.E (12 + j)) (u.l (12 + j)) else 0
/-- the facts -/
def fct (t s fl e k wv pn hs wo ag : Nat) : Nat → Int32
  | 0 => nI t
  | 1 => nI s
  | 2 => nI fl
  | 3 => nI e
  | 4 => nI e - nI e / 7 * 7
  | 5 => nI k
  | 6 => nI wv
  | 7 => nI pn
  | 8 => nI hs
  | 9 => nI wo
  | _ => nI ag
/-- what the class may write while it asks -/
def tC (h h' : av_H) : Prop := WF h' ∧ off false [64, 71, 76] [] h h'
def tQ (h h' : av_H) : Prop := WF h' ∧ off false [166, 167] [] h h'
theorem tC.st {u : Ru} (o : u.ok) {h0 h h' : av_H} (T : tC h0 h) (S : stkE u.R h h') : tC h0 h' := by
  obtain ⟨f, rfl⟩ := S
  refine ⟨T.1, agr.setC (fun j => ?_) T.2⟩
  rcases o.1 with e | e <;> rw [e] <;> rfl
theorem tQ.pl {h0 h h' : av_H} (T : tQ h0 h) (S : pilE h h') : tQ h0 h' := by
  obtain ⟨f, rfl⟩ := S
  exact ⟨T.1, agr.setC (fun _ => rfl) T.2⟩
section
variable {X : av_X} {d : Nat} {h : av_H}
theorem g015 {β : Type} {u : Ru} (w : WF h) (C : u.C h) (K : Option Nat → Option β) : (av_gR h (some 0) 10 15).bind K = K (some u.R) := by
  rw [bS (k_gR (w.k (a := 0) rfl) 15), C.1]
theorem is_R {β : Type} {u : Ru} (o : u.ok) (w : WF h) (a b : β) : (if av_is h (some u.R) 6 = true then a else b) = a := by
  rcases o.1 with e | e <;> rw [e]
  · exact is_67 w a b
  · exact is_72 w a b
theorem c_stopping {u : Ru} (w : WF h) (o : u.ok) (C : u.C h) : ∃ h', stkE u.R h h' ∧ ev X (d + 3) 99 [vr (some u.R), vr (some 64)] h = av_rI (bI (u.st (h.2.1 64))) h' := by
  have ok : ∀ k, k < u.n0 → okRu (u.E k) (u.l k) 0 0 := fun k hk => o.2.2.2.2.2 k (Or.inl hk)
  have G : ∀ k, k < u.n0 → ruG u.R h k (u.E k) (u.l k) := fun k hk => C.2.2.2.2.2.2.1 k (Or.inl hk)
  have h1 := C.2.1
  rw [e_99, b_99_0]
  rcases o.1 with e | e
  · rw [e] at h1 G ⊢
    exact stop_lp_67 o.2.1 ok u.n0 0 h (by omega) w h1 G
  · rw [e] at h1 G ⊢
    exact stop_lp_72 o.2.1 ok u.n0 0 h (by omega) w h1 G
theorem c_quieting {u : Ru} (w : WF h) (o : u.ok) (C : u.C h) : ∃ h', stkE u.R h h' ∧ ev X (d + 3) 100 [vr (some u.R), vr (some 64)] h = av_rI (bI (u.qu (h.2.1 64))) h' := by
  have ok : ∀ k, k < u.n1 → okRu (u.E (6 + k)) (u.l (6 + k)) 0 0 := fun k hk => o.2.2.2.2.2 (6 + k) (Or.inr (Or.inl ⟨by omega, by omega⟩))
  have G : ∀ k, k < u.n1 → ruG u.R h (6 + k) (u.E (6 + k)) (u.l (6 + k)) := fun k hk => C.2.2.2.2.2.2.1 (6 + k) (Or.inr (Or.inl ⟨by omega, by omega⟩))
  have h1 := C.2.2.1
  rw [e_100, b_100_0]
  rcases o.1 with e | e
  · rw [e] at h1 G ⊢
    exact quiet_lp_67 o.2.2.1 ok u.n1 0 h (by omega) w h1 G
  · rw [e] at h1 G ⊢
    exact quiet_lp_72 o.2.2.1 ok u.n1 0 h (by omega) w h1 G
theorem c_an {u : Ru} (w : WF h) (o : u.ok) (C : u.C h) {j : Nat} (hj : j < 3) : ∃ h', stkE u.R h h' ∧ ev X (d + 2) 101 [vr (some u.R), vi (nI (12 + j)), vr (some 64)] h = av_rI (u.an j (h.2.1 64)) h' := by
  rw [Ru.an]
  by_cases z : u.q j = true
  · have hs : u.has (12 + j) := Or.inr (Or.inr ⟨by omega, by omega, by rw [Nat.add_sub_cancel_left]; exact z⟩)
    have ok := o.2.2.2.2.2 _ hs
    have G := C.2.2.2.2.2.2.1 _ hs
    rw [if_pos z]
    rcases o.1 with e | e
    · rw [e] at G ⊢
      exact ans_67 w (by omega) G ok
    · rw [e] at G ⊢
      exact ans_72 w (by omega) G ok
  · obtain ⟨b, b1, b2, b3⟩ := C.2.2.2.2.2.2.2 j hj (by simpa using z)
    rw [if_neg z]
    refine ⟨h, stkE.rfl, ?_⟩
    rcases o.1 with e | e
    · rw [e] at b2 b3 ⊢
      exact ansN_67 w (by omega) b1 b2 b3
    · rw [e] at b2 b3 ⊢
      exact ansN_72 w (by omega) b1 b2 b3
end
