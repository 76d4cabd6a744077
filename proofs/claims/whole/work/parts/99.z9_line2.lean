/-! the reader: what is told so far -/
def KC (u : Ru) (h : av_H) (len : Nat) : Prop := (∀ Q, u.has Q → ∃ b, b + u.l Q ≤ len ∧ h.2.1 (u.R + 2) Q = nI b ∧ h.2.1 (u.R + 3) Q = nI (b + u.l Q) ∧ ∀ i, i < u.l Q → h.2.1 (u.R + 1) (b + i) = nI (u.E Q i)) ∧ ∀ j, j < 3 → u.q j = false → h.2.1 (u.R + 2) (12 + j) = 0 ∧ h.2.1 (u.R + 3) (12 + j) = 0
def KR (u : Ru) (h : av_H) (c : Nat) : Prop := (∀ Q, u.has Q → u.L Q + u.l Q < c ∧ (∀ i, i < u.l Q → h.2.1 161 (1100 + (u.L Q + i)) = nI (opc (u.E Q i)) ∧ ((u.E Q i < 10000 ∨ isF (u.E Q i)) → h.2.1 162 (1100 + (u.L Q + i)) = nI (agc (u.E Q i)))) ∧ h.2.1 161 (1100 + (u.L Q + u.l Q)) = 0) ∧ (∀ k, k < u.n0 → h.2.1 164 (12 + k) = nI (u.L k)) ∧ (∀ k, k < u.n1 → h.2.1 164 (18 + k) = nI (u.L (6 + k))) ∧ ∀ j, j < 3 → h.2.1 165 (3 + j) = if u.q j = true then nI (u.L (12 + j)) else -1
def Ru.okE (u : Ru) : Prop := ∀ Q, u.has Q → okRu (u.E Q) (u.l Q) 0 0
/-- one more E, at place p -/
def Ru.put (u : Ru) (p : Nat) (es : List Nat) (c : Nat) : Ru := (u.R, (if p < 6 then u.n0 + 1 else u.n0), (if 6 ≤ p ∧ p < 12 then u.n1 + 1 else u.n1), (fun Q => if Q = p then (fun i => es.getD i 0) else u.E Q), (fun Q => if Q = p then es.length else u.l Q), (fun Q => if Q = p then c else u.L Q), (fun j => u.q j || decide (12 + j = p)), u.r, u.dd, u.ky)
/-- p is the next place -/
def Ru.nx (u : Ru) (p : Nat) : Prop := u.n0 ≤ 6 ∧ u.n1 ≤ 6 ∧ ((p < 6 ∧ p = u.n0) ∨ (6 ≤ p ∧ p < 12 ∧ p = 6 + u.n1) ∨ (12 ≤ p ∧ p < 15 ∧ u.q (p - 12) = false))
theorem put_has {u : Ru} {p c Q : Nat} {es : List Nat} (x : u.nx p) (h : (u.put p es c).has Q) : Q = p ∨ (Q ≠ p ∧ u.has Q) := by
  obtain ⟨h0, h1, x⟩ := x
  by_cases z : Q = p
  · exact Or.inl z
  · refine Or.inr ⟨z, ?_⟩
    unfold Ru.has at h ⊢
    show Q < u.n0 ∨ _
    rcases h with h | h | h
    · change Q < (if p < 6 then u.n0 + 1 else u.n0) at h
      by_cases y : p < 6
      · rw [if_pos y] at h; exact Or.inl (by omega)
      · rw [if_neg y] at h; exact Or.inl h
    · change 6 ≤ Q ∧ Q < 6 + (if 6 ≤ p ∧ p < 12 then u.n1 + 1 else u.n1) at h
      by_cases y : 6 ≤ p ∧ p < 12
      · rw [if_pos y] at h; exact Or.inr (Or.inl (by omega))
      · rw [if_neg y] at h; exact Or.inr (Or.inl h)
    · change 12 ≤ Q ∧ Q < 15 ∧ (u.q (Q - 12) || decide (12 + (Q - 12) = p)) = true at h
      rw [decide_eq_false (by omega), Bool.or_false] at h
      exact Or.inr (Or.inr h)
theorem put_E {u : Ru} {p c Q : Nat} {es : List Nat} (z : Q ≠ p) : (u.put p es c).E Q = u.E Q := if_neg z
theorem put_l {u : Ru} {p c Q : Nat} {es : List Nat} (z : Q ≠ p) : (u.put p es c).l Q = u.l Q := if_neg z
theorem put_L {u : Ru} {p c Q : Nat} {es : List Nat} (z : Q ≠ p) : (u.put p es c).L Q = u.L Q := if_neg z
theorem put_E' {u : Ru} {p c : Nat} {es : List Nat} : (u.put p es c).E p = fun i => es.getD i 0 := if_pos rfl
theorem put_l' {u : Ru} {p c : Nat} {es : List Nat} : (u.put p es c).l p = es.length := if_pos rfl
theorem put_L' {u : Ru} {p c : Nat} {es : List Nat} : (u.put p es c).L p = c := if_pos rfl
theorem AL_at {f : Nat → Int32} : ∀ {es : List Nat} {b : Nat}, AL f b es → ∀ i, i < es.length → f (b + i) = nI (es.getD i 0)
  | [], _, _, i, hi => absurd hi (Nat.not_lt_zero i)
  | s :: es, b, h, 0, _ => h.1
  | s :: es, b, h, i + 1, hi => by
    have := AL_at h.2 i (by rw [List.length_cons] at hi; omega)
    rw [show b + (i + 1) = b + 1 + i by omega]
    exact this
theorem RL_at {h : av_H} : ∀ {es : List Nat} {b : Nat}, RL h b es → ∀ i, i < es.length → h.2.1 161 (b + i) = nI (opc (es.getD i 0)) ∧ ((es.getD i 0 < 10000 ∨ isF (es.getD i 0)) → h.2.1 162 (b + i) = nI (agc (es.getD i 0)))
  | [], _, _, i, hi => absurd hi (Nat.not_lt_zero i)
  | s :: es, b, q, 0, _ => q.1
  | s :: es, b, q, i + 1, hi => by
    have := RL_at q.2 i (by rw [List.length_cons] at hi; omega)
    rw [show b + (i + 1) = b + 1 + i by omega]
    exact this
theorem oS_ok : ∀ {es : List Nat} {E : Nat → Nat} {i m : Nat}, (∀ t, t < es.length → E (i + t) = es.getD t 0) → oSL es m 1 → okRu E es.length i m
  | [], _, _, _, _, h => h
  | s :: es, E, i, m, e, h => by
    have e0 : E i = s := e 0 (by rw [List.length_cons]; omega)
    refine ⟨by rw [e0]; exact h.1, oS_ok (fun t ht => ?_) (by rw [e0]; exact h.2)⟩
    have := e (t + 1) (by rw [List.length_cons]; omega)
    rw [show i + 1 + t = i + (t + 1) by omega]
    exact this
theorem okE_put {u : Ru} {p c : Nat} {es : List Nat} (x : u.nx p) (o : u.okE) (h : oSL es 0 1) : (u.put p es c).okE := fun Q hQ => by
  rcases put_has x hQ with z | ⟨z, y⟩
  · rw [z, put_E', put_l']
    exact oS_ok (fun t _ => by rw [Nat.zero_add]) h
  · rw [put_E z, put_l z]
    exact o Q y
theorem KC_put {u : Ru} {p c len len' : Nat} {es : List Nat} {h h' : av_H} (x : u.nx p) (J : KC u h len) (hl : len' = len + es.length) (a1 : AL (h'.2.1 (u.R + 1)) len es) (a2 : ∀ j, j < len → h'.2.1 (u.R + 1) j = h.2.1 (u.R + 1) j) (a3 : ∀ j, h'.2.1 (u.R + 2) j = if j = p then nI len else h.2.1 (u.R + 2) j) (a4 : ∀ j, h'.2.1 (u.R + 3) j = if j = p then nI (len + es.length) else h.2.1 (u.R + 3) j) : KC (u.put p es c) h' len' := by
  refine ⟨fun Q hQ => ?_, fun j hj q => ?_⟩
  · show ∃ b, b + (u.put p es c).l Q ≤ len' ∧ h'.2.1 (u.R + 2) Q = nI b ∧ h'.2.1 (u.R + 3) Q = nI (b + (u.put p es c).l Q) ∧ ∀ i, i < (u.put p es c).l Q → h'.2.1 (u.R + 1) (b + i) = nI ((u.put p es c).E Q i)
    rcases put_has x hQ with z | ⟨z, y⟩
    · rw [z, put_l', put_E']
      exact ⟨len, by omega, by rw [a3, if_pos rfl], by rw [a4, if_pos rfl], AL_at a1⟩
    · rw [put_l z, put_E z]
      obtain ⟨b, b1, b2, b3, b4⟩ := J.1 Q y
      exact ⟨b, by omega, by rw [a3, if_neg z]; exact b2, by rw [a4, if_neg z]; exact b3, fun i hi => (a2 _ (by omega)).trans (b4 i hi)⟩
  · change (u.q j || decide (12 + j = p)) = false at q
    rw [Bool.or_eq_false_iff, decide_eq_false_iff_not] at q
    obtain ⟨b1, b2⟩ := J.2 j hj q.1
    show h'.2.1 (u.R + 2) (12 + j) = 0 ∧ h'.2.1 (u.R + 3) (12 + j) = 0
    rw [a3, a4, if_neg q.2, if_neg q.2]
    exact ⟨b1, b2⟩
theorem KR_put {u : Ru} {p c c' : Nat} {es : List Nat} {h h' : av_H} (x : u.nx p) (J : KR u h c) (hc : c' = c + es.length + 1) (a1 : RL h' (1100 + c) es) (a2 : h'.2.1 161 (1100 + c + es.length) = 0) (a3 : ∀ j, j < 1100 + c → h'.2.1 161 j = h.2.1 161 j ∧ h'.2.1 162 j = h.2.1 162 j) (a4 : ∀ k, h'.2.1 164 (12 + k) = if p < 12 ∧ k = p then nI c else h.2.1 164 (12 + k)) (a5 : ∀ k, k < 3 → h'.2.1 165 (3 + k) = if 12 + k = p then nI c else h.2.1 165 (3 + k)) : KR (u.put p es c) h' c' := by
  obtain ⟨x0, x1, x2⟩ := id x
  refine ⟨fun Q hQ => ?_, fun k hk => ?_, fun k hk => ?_, fun j hj => ?_⟩
  · rcases put_has x hQ with z | ⟨z, y⟩
    · rw [z, put_l', put_E', put_L']
      refine ⟨by omega, fun i hi => ?_, ?_⟩
      · rw [← Nat.add_assoc]
        exact RL_at a1 i hi
      · rw [← Nat.add_assoc]
        exact a2
    · rw [put_l z, put_E z, put_L z]
      obtain ⟨b1, b2, b3⟩ := J.1 Q y
      refine ⟨by omega, fun i hi => ?_, ?_⟩
      · rw [(a3 _ (by omega)).1, (a3 _ (by omega)).2]
        exact b2 i hi
      · rw [(a3 _ (by omega)).1]
        exact b3
  · change k < (if p < 6 then u.n0 + 1 else u.n0) at hk
    by_cases z : k = p
    · rw [z, put_L', a4]
      by_cases y : p < 12
      · rw [if_pos ⟨y, rfl⟩]
      · rw [if_neg (by omega)] at hk
        omega
    · rw [put_L z, a4, if_neg (by omega)]
      refine J.2.1 k ?_
      by_cases y : p < 6
      · rw [if_pos y] at hk; omega
      · rw [if_neg y] at hk; exact hk
  · change k < (if 6 ≤ p ∧ p < 12 then u.n1 + 1 else u.n1) at hk
    rw [show 18 + k = 12 + (6 + k) by omega]
    by_cases z : 6 + k = p
    · rw [z, put_L', a4]
      by_cases y : p < 12
      · rw [if_pos ⟨y, rfl⟩]
      · rw [if_neg (by omega)] at hk
        omega
    · rw [put_L z, a4, if_neg (by omega), show 12 + (6 + k) = 18 + k by omega]
      refine J.2.2.1 k ?_
      by_cases y : 6 ≤ p ∧ p < 12
      · rw [if_pos y] at hk; omega
      · rw [if_neg y] at hk; exact hk
  · change h'.2.1 165 (3 + j) = if (u.q j || decide (12 + j = p)) = true then nI ((u.put p es c).L (12 + j)) else -1
    rw [a5 j hj]
    by_cases z : 12 + j = p
    · rw [if_pos z, decide_eq_true z, Bool.or_true, if_pos rfl, z, put_L']
    · rw [if_neg z, decide_eq_false z, Bool.or_false, put_L z]
      exact J.2.2.2 j hj
