/-! the words of the throw, held against the tables -/
def kt_B : List Cond := [.declares (Bundle.initS "java/lang/RuntimeException"), .declares (Bundle.initS "java/lang/Exception"), .declares (Bundle.initS Bundle.tN)]
def kt_ck (L : List Cond) : Bool := (L.filter vx_no).all (fun w => vx_ot w && ((goodWord w && decide (w ∈ lw_tbl)) || decide (w ∈ kt_B)))
set_option maxRecDepth 50000 in
theorem kt_c1 : kt_ck Bundle.throwableAtoms = true := by decide +kernel
set_option maxRecDepth 50000 in
theorem kt_c2 : kt_ck Bundle.throwableSAtoms = true := by decide +kernel
set_option maxRecDepth 50000 in
theorem kt_c3 : kt_ck (Bundle.passSAtoms kt_X "java/lang/RuntimeException" 13 kt_13) = true := by decide +kernel
set_option maxRecDepth 50000 in
theorem kt_c4 : kt_ck (Bundle.chainSAtoms "java/lang/RuntimeException" ["java/lang/Exception"]) = true := by decide +kernel
set_option maxRecDepth 50000 in
theorem kt_c5 : kt_ck (kt_atoms "MenOnCradles" 214) = true := by decide +kernel
set_option maxRecDepth 50000 in
theorem kt_c6 : kt_ck [.classLink "MenOnCradles" 210 kt_X, .initialized kt_X, .classLink "MenOnCradlesLaw" 13 kt_X] = true := by decide +kernel
theorem kt_ck_ok {L : List Cond} {B : List Cond} (hB : ∀ w ∈ kt_B, w ∈ B) (h : kt_ck L = true) : (∀ w ∈ L.filter vx_no, vx_ot w = true) ∧ ∀ w ∈ L.filter vx_no, w ∈ kTB ∨ w ∈ B := by
  unfold kt_ck at h
  rw [List.all_eq_true] at h
  refine ⟨fun w hw => ?_, fun w hw => ?_⟩
  · have := h w hw
    simp only [Bool.and_eq_true] at this
    exact this.1
  · have := h w hw
    simp only [Bool.and_eq_true, Bool.or_eq_true, decide_eq_true_eq] at this
    rcases this.2 with ⟨h1, h2⟩ | h1
    · exact Or.inl (List.mem_filter.mpr ⟨h2, h1⟩)
    · exact Or.inr (hB w h1)
