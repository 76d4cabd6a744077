/-! the words that are not good ones, but stay -/
def kNWf : List Cond := kNW ++ (kt_B ++ [.castable kt_X kt_X])
def kisN (w : Cond) : Bool := match w with
  | .methodLinkNest _ _ _ _ => true
  | .declares _ => true
  | .castable _ _ => true
  | _ => false
theorem kisN_ok {w : Cond} (h : kisN w = true) : (∃ a i x h, w = .methodLinkNest a i x h) ∨ (∃ x, w = .declares x) ∨ (∃ C T, w = .castable C T) := by
  unfold kisN at h
  split at h
  · exact Or.inl ⟨_, _, _, _, rfl⟩
  · exact Or.inr (Or.inl ⟨_, rfl⟩)
  · exact Or.inr (Or.inr ⟨_, _, rfl⟩)
  · cases h
theorem kNWf_is : kNWf.all kisN = true := by decide +kernel
theorem kNWf_ok : kNWok kNWf := fun w hw => kisN_ok (List.all_eq_true.mp kNWf_is w hw)
set_option maxRecDepth 50000 in
theorem kNWf_all : kNWf.all (fun w => decide (w ∈ lw_tbl) && w.onTables) = true := by decide +kernel
theorem kNWf_on (w : Cond) (hw : w ∈ kNWf) : w ∈ lw_tbl ∧ w.onTables = true := by
  have := List.all_eq_true.mp kNWf_all w hw
  simp only [Bool.and_eq_true, decide_eq_true_eq] at this
  exact this
theorem kNWf_B (w : Cond) (hw : w ∈ kt_B) : w ∈ kNWf := List.mem_append_right _ (List.mem_append_left _ hw)
theorem kNWf_N (w : Cond) (hw : w ∈ kNW) : w ∈ kNWf := List.mem_append_left _ hw
theorem kNWf_C : Cond.castable kt_X kt_X ∈ kNWf := List.mem_append_right _ (List.mem_append_right _ List.mem_cons_self)
