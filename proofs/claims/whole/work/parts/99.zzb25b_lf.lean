/-! the links, put together -/
set_option maxRecDepth 100000 in
theorem klf_all : (kML.zip kMP).all klf = true := by
  have h450 : (kLZ.drop 450).all klf = true := by decide +kernel
  have h420 := kal klf_420 (b := 450) rfl h450
  have h390 := kal klf_390 (b := 420) rfl h420
  have h360 := kal klf_360 (b := 390) rfl h390
  have h330 := kal klf_330 (b := 360) rfl h360
  have h300 := kal klf_300 (b := 330) rfl h330
  have h270 := kal klf_270 (b := 300) rfl h300
  have h240 := kal klf_240 (b := 270) rfl h270
  have h210 := kal klf_210 (b := 240) rfl h240
  have h180 := kal klf_180 (b := 210) rfl h210
  have h150 := kal klf_150 (b := 180) rfl h180
  have h120 := kal klf_120 (b := 150) rfl h150
  have h90 := kal klf_90 (b := 120) rfl h120
  have h60 := kal klf_60 (b := 90) rfl h90
  have h30 := kal klf_30 (b := 60) rfl h60
  have h0 := kal klf_0 (b := 30) rfl h30
  rw [List.drop_zero] at h0
  exact h0
theorem kLF {EX : State → Prop} (hN : ∀ s, EX s → ∀ w ∈ kNW, va_Nw w s) (o ix mi op nb rc dc : Nat) (h : (o, ix, mi, op, nb, rc, dc) ∈ kML) (hP : av_P mi ≠ none) (hI2 : kI2 mi ≠ none) : av_LF kTB kON EX av_P kI2 o ix mi op nb dc := by
  obtain ⟨y, hy⟩ := zip_mem (l := kML) (k := kMP) kLZ_len h
  have hy := List.all_eq_true.mp klf_all _ hy
  simp only [klf] at hy
  split at hy
  · simp only [Option.isNone_iff_eq_none] at hy
    exact absurd hy hP
  · rename_i t ht
    have ht : kI2 mi = some t := by
      refine kI2_is ht fun hc => hI2 ?_
      show (kI mi).bind _ = none
      rw [show kI mi = some t from ht]
      exact if_pos hc
    obtain ⟨yn, cc, ret, o2⟩ := t
    obtain ⟨M, hM⟩ := Option.ne_none_iff_exists'.mp hP
    simp only [Bool.and_eq_true, decide_eq_true_eq] at hy
    obtain ⟨⟨⟨h1, h2⟩, h3⟩, h4⟩ := hy
    refine ⟨M, yn, cc, ret, o2, hM, ht, ⟨h1, h2, h3⟩, ?_⟩
    split at h4
    · simp only [Bool.and_eq_true, Bool.or_eq_true] at h4
      rcases h4.2 with h5 | h5
      · exact Or.inl ⟨rfl, kin_ok h4.1, kin_ok h5⟩
      · exact Or.inr (Or.inl ⟨rfl, kin_ok h4.1, _, fun s hs => hN s hs _ (List.contains_iff_mem.mp h5)⟩)
    · simp only [Bool.and_eq_true, decide_eq_true_eq] at h4
      exact Or.inr (Or.inr (Or.inl ⟨rfl, kin_ok h4.1.1.1.1, kin_ok h4.1.1.1.2, kin_ok h4.1.1.2, h4.1.2, h4.2⟩))
    · simp only [Bool.and_eq_true, Bool.or_eq_true, decide_eq_true_eq] at h4
      refine Or.inr (Or.inr (Or.inr ⟨rfl, h4.1.1.1.1, h4.1.1.1.2, h4.1.1.2, kin_ok h4.1.2, ?_⟩))
      rcases h4.2 with h5 | h5
      · exact Or.inl (kin_ok h5)
      · exact Or.inr ⟨_, fun s hs => hN s hs _ (List.contains_iff_mem.mp h5)⟩
    · cases h4
