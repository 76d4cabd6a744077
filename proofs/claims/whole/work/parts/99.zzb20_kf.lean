theorem kall {α : Type} {l : List α} {p : List Nat} {g : α × Nat → Bool} (h : (l.zip p).all g = true) (e : l.length = p.length) {x : α} (hx : x ∈ l) : ∃ y, g (x, y) = true := by
  obtain ⟨y, hy⟩ := zip_mem e hx
  exact ⟨y, List.all_eq_true.mp h _ hy⟩
theorem kKF_cl (cn : Nat) (C : String) (T : u_T) (N : Nat) (h : kCL[cn]? = some (C, T, N)) : cn < 12 ∧ (∀ w ∈ u_ws C T N, w ∈ kTB) ∧ (∀ k, k < N → parseFieldDescriptor (T k).2.2.1 = some (kTY cn k)) ∧ (∀ a, a < N → ∀ b, b < N → a ≠ b → (T a).2.1 ≠ (T b).2.1) ∧ Cond.instantiable C N ∈ kTB ∧ Cond.initialized C ∈ kTB ∧ kON cn = C ∧ ∀ k, k < N → (T k).1 = C ∧ defaultValue (kTY cn k) = (match av_kd (T k).2.2.1 with
    | 0 => Value.int 0
    | 1 => Value.long 0
    | _ => Value.null) := by
  have hl : cn < 12 := (List.getElem?_eq_some_iff.mp h).1
  refine ⟨hl, ?_⟩
  match cn, hl, h with
  | 0, _, h => cases h; exact kck1_ok kc_0 kd_0
  | 1, _, h => cases h; exact kck1_ok kc_1 kd_1
  | 2, _, h => cases h; exact kck1_ok kc_2 kd_2
  | 3, _, h => cases h; exact kck1_ok kc_3 kd_3
  | 4, _, h => cases h; exact kck1_ok kc_4 kd_4
  | 5, _, h => cases h; exact kck1_ok kc_5 kd_5
  | 6, _, h => cases h; exact kck1_ok kc_6 kd_6
  | 7, _, h => cases h; exact kck1_ok kc_7 kd_7
  | 8, _, h => cases h; exact kck1_ok kc_8 kd_8
  | 9, _, h => cases h; exact kck1_ok kc_9 kd_9
  | 10, _, h => cases h; exact kck1_ok kc_10 kd_10
  | 11, _, h => cases h; exact kck1_ok kc_11 kd_11
set_option maxRecDepth 20000 in
theorem kKF : av_KF kTB kCL kTY kON kK := by
  refine ⟨kKF_cl, fun o n cn k kc fi h => ?_, fun o n z h => ?_, fun o n z h => ?_, fun o n c h => ?_, fun o n c h => ?_, fun o n h => ?_, ?_, ?_, ?_, ?_, ?_, ?_⟩
  · obtain ⟨y, hy⟩ := kall kfl_all rfl h
    simp only [kflb] at hy
    split at hy
    · cases hy
    · rename_i r hr
      obtain ⟨C, T, N⟩ := r
      simp only [Bool.and_eq_true, decide_eq_true_eq] at hy
      obtain ⟨⟨⟨h1, h2⟩, h3⟩, h4⟩ := hy
      refine ⟨C, T, N, hr, h1, kin_ok h2, ?_, h3⟩
      split at h4
      · simp only [Bool.and_eq_true, decide_eq_true_eq] at h4
        exact Or.inl ⟨rfl, h4.1, h4.2⟩
      · simp only [Bool.and_eq_true, decide_eq_true_eq] at h4
        exact Or.inr (Or.inl ⟨rfl, h4.1, h4.2⟩)
      · simp only [Bool.and_eq_true, decide_eq_true_eq] at h4
        refine Or.inr (Or.inr (Or.inl ⟨rfl, h4.1, ?_⟩))
        have h5 := h4.2
        split at h5
        · rename_i t ht
          exact Or.inl ⟨t, ht⟩
        · rename_i t ht
          exact Or.inr ⟨t, ht⟩
        · cases h5
      · simp only [Bool.and_eq_true, decide_eq_true_eq] at h4
        exact Or.inr (Or.inr (Or.inr ⟨rfl, h4.1, h4.2⟩))
      · cases h4
  · obtain ⟨y, hy⟩ := kall kki_all rfl h
    exact kin_ok hy
  · obtain ⟨y, hy⟩ := kall kkl_all rfl h
    exact kin_ok hy
  · obtain ⟨y, hy⟩ := kall kck_all rfl h
    simp only at hy
    split at hy
    · cases hy
    · rename_i r hr
      obtain ⟨C, T, N⟩ := r
      exact ⟨C, T, N, hr, kin_ok hy⟩
  · obtain ⟨y, hy⟩ := kall kal_all rfl h
    simp only [Bool.or_eq_true, Bool.and_eq_true, decide_eq_true_eq] at hy
    rcases hy with hy | hy
    · exact ⟨_, Or.inl ⟨hy.1, rfl⟩, kin_ok hy.2⟩
    · exact ⟨_, Or.inr ⟨hy.1, rfl⟩, kin_ok hy.2⟩
  · obtain ⟨y, hy⟩ := kall kol_all rfl h
    exact kin_ok hy
  · exact kin_ok (Bool.and_eq_true_iff.mp koi).1
  · exact kin_ok (Bool.and_eq_true_iff.mp koi).2
  all_goals (have h := kac; simp only [Bool.and_eq_true] at h)
  · exact kin_ok h.1.1.1
  · exact kin_ok h.1.1.2
  · exact kin_ok h.1.2
  · exact kin_ok h.2
