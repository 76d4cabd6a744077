/-! a cell has come: the towers stay -/
theorem new_I {h : av_H} {kk nn b : Nat} (hb : b < h.1.length) : (av_new h kk nn).2.1 b = h.2.1 b := va_up_ne _ _ (by omega)
theorem new_R {h : av_H} {kk nn b : Nat} (hb : b < h.1.length) : (av_new h kk nn).2.2.2 b = h.2.2.2 b := va_up_ne _ _ (by omega)
theorem new_L {h : av_H} {kk nn b : Nat} (hb : b < h.1.length) : (av_new h kk nn).2.2.1 b = h.2.2.1 b := va_up_ne _ _ (by omega)
theorem new_K {h : av_H} {kk nn b : Nat} {q : Nat × Nat} (e : h.1[b]? = some q) : (av_new h kk nn).1[b]? = some q := by
  show (h.1 ++ [(kk, nn)])[b]? = _
  rw [List.getElem?_append_left (List.getElem?_eq_some_iff.mp e).1]
  exact e
theorem twA_new {h : av_H} {kk nn t a : Nat} (w : WF h) (T : twA h t a) : twA (av_new h kk nn) t a := by
  have hl := w.len
  obtain ⟨b0, k1, k2, k3, r5, r6, A, B, C⟩ := T
  have la : a + 2 < h.1.length := (List.getElem?_eq_some_iff.mp k3).1
  refine ⟨b0, new_K k1, new_K k2, new_K k3, by rw [new_R (by omega)]; exact r5, by rw [new_R (by omega)]; exact r6, ?_, fun s hs c hc => ?_, fun s hs => ?_⟩
  · rw [new_I (b := a) (by omega), new_I (b := 143) (by omega), new_I (b := 144) (by omega), new_I (b := 148) (by omega), new_I (b := 149) (by omega), new_I (b := 150) (by omega)]
    exact A
  · rw [new_I (b := a + 1) (by omega), new_I (b := 145) (by omega)]
    exact B s hs c hc
  · rw [new_I (b := a + 2) (by omega), new_I (b := 147) (by omega)]
    exact C s hs
theorem twN_new {h : av_H} {kk nn t : Nat} (w : WF h) (T : twN h t) : twN (av_new h kk nn) t := by
  have hl := w.len
  unfold twN at T ⊢
  rw [new_I (b := 143) (by omega), new_I (b := 148) (by omega), new_I (b := 149) (by omega), new_I (b := 150) (by omega), new_I (b := 145) (by omega), new_I (b := 147) (by omega)]
  exact T
theorem J_tow_new {h : av_H} {kk nn : Nat} (w : WF h) (J : J_tow h) : J_tow (av_new h kk nn) := by
  have hl := w.len
  have e1 : (av_new h kk nn).2.2.2 1 = h.2.2.2 1 := new_R (by omega)
  refine ⟨fun t ht => ?_, fun t u a b ht hu ne ha hb => ?_⟩
  · rw [e1]
    rcases J.1 t ht with ⟨z1, z2⟩ | ⟨a, z1, z2⟩
    · exact Or.inl ⟨z1, twN_new w z2⟩
    · exact Or.inr ⟨a, z1, twA_new w z2⟩
  · rw [e1] at ha hb
    exact J.2 t u a b ht hu ne ha hb
/-- parts that lie in the layout stay -/
theorem agr_new {h : av_H} {kk nn : Nat} {cs : List Nat} {fs : List (Nat × Nat)} (w : WF h) (c1 : cs.all (fun a => decide (a < 226)) = true) (c2 : fs.all (fun z => decide (z.1 < 226)) = true) : agr (FP false cs fs) h (av_new h kk nn) := by
  have hl := w.len
  refine ⟨⟨[(kk, nn)], rfl⟩, fun a k e => ?_⟩
  have ha : a < h.1.length := by
    simp only [FP, Bool.false_and, Bool.false_or, Bool.or_eq_true, List.elem_eq_mem, decide_eq_true_eq] at e
    rw [List.all_eq_true] at c1 c2
    rcases e with e | e
    · have := c1 a e
      rw [decide_eq_true_eq] at this
      omega
    · have := c2 (a, k) e
      rw [decide_eq_true_eq] at this
      omega
  rw [new_I ha, new_L ha, new_R ha]
  exact ⟨rfl, rfl, rfl⟩
