/-! the words that are not good ones, but stay -/
def kNW : List Cond := [.methodLinkNest (kON 0) 42 ⟨"MenOnCradles", "isBelow", "(II)Z"⟩ "MenOnCradles", .methodLinkNest (kON 0) 54 ⟨"MenOnCradles", "hasBit", "(II)Z"⟩ "MenOnCradles", .methodLinkNest (kON 0) 57 ⟨"MenOnCradles", "isWithin", "(III)Z"⟩ "MenOnCradles", .methodLinkNest (kON 2) 25 ⟨"MenOnCradles", "isBelow", "(II)Z"⟩ "MenOnCradles", .methodLinkNest (kON 2) 37 ⟨"MenOnCradles", "isWithin", "(III)Z"⟩ "MenOnCradles", .methodLinkNest (kON 3) 62 ⟨"MenOnCradles", "hasBit", "(II)Z"⟩ "MenOnCradles", .methodLinkNest (kON 3) 72 ⟨"MenOnCradles", "isPerson", "(I)Z"⟩ "MenOnCradles", .methodLinkNest (kON 3) 89 ⟨"MenOnCradles", "isBelow", "(II)Z"⟩ "MenOnCradles", .methodLinkNest (kON 4) 77 ⟨"MenOnCradles", "isBelow", "(II)Z"⟩ "MenOnCradles", .methodLinkNest (kON 4) 84 ⟨"MenOnCradles", "hasBit", "(II)Z"⟩ "MenOnCradles", .methodLinkNest (kON 5) 44 ⟨"MenOnCradles", "isWithin", "(III)Z"⟩ "MenOnCradles", .methodLinkNest (kON 6) 53 ⟨"MenOnCradles", "isBelow", "(II)Z"⟩ "MenOnCradles", .methodLinkNest (kON 7) 21 ⟨"MenOnCradles", "isBelow", "(II)Z"⟩ "MenOnCradles", .methodLinkNest (kON 7) 35 ⟨"MenOnCradles", "hasBit", "(II)Z"⟩ "MenOnCradles", .methodLinkNest (kON 8) 41 ⟨"MenOnCradles", "isWithin", "(III)Z"⟩ "MenOnCradles", .methodLinkNest (kON 9) 34 ⟨"MenOnCradles", "isBelow", "(II)Z"⟩ "MenOnCradles", .methodLinkNest (kON 9) 48 ⟨"MenOnCradles", "isSide", "(I)Z"⟩ "MenOnCradles", .methodLinkNest (kON 10) 46 ⟨"MenOnCradles$Reader", "<init>", "()V"⟩ "MenOnCradles", .methodLinkNest (kON 10) 53 ⟨"MenOnCradles$KeyBook", "<init>", "()V"⟩ "MenOnCradles", .methodLinkNest (kON 10) 67 ⟨"MenOnCradles$Shop", "<init>", "()V"⟩ "MenOnCradles", .methodLinkNest (kON 10) 74 ⟨"MenOnCradles$Marks", "<init>", "()V"⟩ "MenOnCradles", .methodLinkNest (kON 10) 108 ⟨"MenOnCradles$Drop", "<init>", "()V"⟩ "MenOnCradles"]
def kNWf : List Cond := kNW ++ (kt_B ++ [.castable kt_X kt_X])
def kisN (w : Cond) : Bool := match w with
  | .methodLinkNest _ _ _ _ => true
  | .declares _ => true
  | .castable _ _ => true
  | _ => false
theorem kisN_ok {w : Cond} (h : kisN w = true) : (∃ a i x h, w = .methodLinkNest a i x h) ∨ (∃ x, w = .declares x) ∨ (∃ C T, w = .castable C T) := by
  unfold kisN at h
  split at h
  · exact Or.inl ⟨_, _, _, _, rfl⟩
  · exact Or.inr (Or.inl ⟨_, rfl⟩)
  · exact Or.inr (Or.inr ⟨_, _, rfl⟩)
  · cases h
theorem kNWf_is : kNWf.all kisN = true := by decide +kernel
theorem kNWf_ok : kNWok kNWf := fun w hw => kisN_ok (List.all_eq_true.mp kNWf_is w hw)
set_option maxRecDepth 50000 in
theorem kNWf_all : kNWf.all (fun w => decide (w ∈ lw_tbl) && w.onTables) = true := by decide +kernel
theorem kNWf_on (w : Cond) (hw : w ∈ kNWf) : w ∈ lw_tbl ∧ w.onTables = true := by
  have := List.all_eq_true.mp kNWf_all w hw
  simp only [Bool.and_eq_true, decide_eq_true_eq] at this
  exact this
theorem kNWf_B (w : Cond) (hw : w ∈ kt_B) : w ∈ kNWf := List.mem_append_right _ (List.mem_append_left _ hw)
theorem kNWf_N (w : Cond) (hw : w ∈ kNW) : w ∈ kNWf := List.mem_append_left _ hw
theorem kNWf_C : Cond.castable kt_X kt_X ∈ kNWf := List.mem_append_right _ (List.mem_append_right _ List.mem_cons_self)
