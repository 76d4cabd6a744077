/-! the links, put together -/
theorem kLF {EX : State → Prop} (hN : ∀ s, EX s → ∀ w ∈ kNW, va_Nw w s) (o ix mi op nb rc dc : Nat) (h : (o, ix, mi, op, nb, rc, dc) ∈ kML) (hP : av_P mi ≠ none) (hI2 : kI2 mi ≠ none) : av_LF kTB kON EX av_P kI2 o ix mi op nb dc := by
  obtain ⟨y, hy⟩ := zip_mem (l := kML) (k := kMP) kLZ_len h
  have hy := List.all_eq_true.mp klf_all _ hy
  simp only [klf] at hy
  split at hy
  · simp only [Option.isNone_iff_eq_none] at hy
    exact absurd hy hP
  · rename_i t ht
    have ht : kI2 mi = some t := by
      refine kI2_is ht fun hc => hI2 ?_
      show (kI mi).bind _ = none
      rw [show kI mi = some t from ht]
      exact if_pos hc
    obtain ⟨yn, cc, ret, o2⟩ := t
    obtain ⟨M, hM⟩ := Option.ne_none_iff_exists'.mp hP
    simp only [Bool.and_eq_true, decide_eq_true_eq] at hy
    obtain ⟨⟨⟨h1, h2⟩, h3⟩, h4⟩ := hy
    refine ⟨M, yn, cc, ret, o2, hM, ht, ⟨h1, h2, h3⟩, ?_⟩
    split at h4
    · simp only [Bool.and_eq_true, Bool.or_eq_true] at h4
      rcases h4.2 with h5 | h5
      · exact Or.inl ⟨rfl, kin_ok h4.1, kin_ok h5⟩
      · exact Or.inr (Or.inl ⟨rfl, kin_ok h4.1, _, fun s hs => hN s hs _ (List.contains_iff_mem.mp h5)⟩)
    · simp only [Bool.and_eq_true, decide_eq_true_eq] at h4
      exact Or.inr (Or.inr (Or.inl ⟨rfl, kin_ok h4.1.1.1.1, kin_ok h4.1.1.1.2, kin_ok h4.1.1.2, h4.1.2, h4.2⟩))
    · simp only [Bool.and_eq_true, Bool.or_eq_true, decide_eq_true_eq] at h4
      refine Or.inr (Or.inr (Or.inr ⟨rfl, h4.1.1.1.1, h4.1.1.1.2, h4.1.1.2, kin_ok h4.1.2, ?_⟩))
      rcases h4.2 with h5 | h5
      · exact Or.inl (kin_ok h5)
      · exact Or.inr ⟨_, fun s hs => hN s hs _ (List.contains_iff_mem.mp h5)⟩
    · cases h4
