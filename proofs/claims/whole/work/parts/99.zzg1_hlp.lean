/-! the law's four that catch: names, decoded rows, words of the tables (printed by hlp.py) -/
theorem hw_i : Cond.initialized "MenOnCradlesLaw" ∈ kTB := kin_ok (i := 156) (by decide +kernel)
theorem hw_cl : Cond.classLink "MenOnCradlesLaw" 13 kt_X ∈ kTB := kin_ok (i := 1670) (by decide +kernel)
abbrev hy_made : MethodName := ⟨"MenOnCradlesLaw", "made", "(LMenOnCradles;II[J)I"⟩
theorem hd_made_0 : decode method_3_code 0 = .ok (.aload_n 3, 1) := by decide +kernel
theorem hd_made_1 : decode method_3_code 1 = .ok (.iconst 0, 1) := by decide +kernel
theorem hd_made_2 : decode method_3_code 2 = .ok (.aload_n 0, 1) := by decide +kernel
theorem hd_made_3 : decode method_3_code 3 = .ok (.iload_n 1, 1) := by decide +kernel
theorem hd_made_4 : decode method_3_code 4 = .ok (.iload_n 2, 1) := by decide +kernel
theorem hd_made_5 : decode method_3_code 5 = .ok (.invokevirtual 7, 3) := by decide +kernel
theorem hd_made_8 : decode method_3_code 8 = .ok (.i2l, 1) := by decide +kernel
theorem hd_made_9 : decode method_3_code 9 = .ok (.lastore, 1) := by decide +kernel
theorem hd_made_10 : decode method_3_code 10 = .ok (.goto 7, 3) := by decide +kernel
theorem hd_made_13 : decode method_3_code 13 = .ok (.astore 4, 2) := by decide +kernel
theorem hd_made_15 : decode method_3_code 15 = .ok (.iconst 1, 1) := by decide +kernel
theorem hd_made_16 : decode method_3_code 16 = .ok (.ireturn, 1) := by decide +kernel
theorem hd_made_17 : decode method_3_code 17 = .ok (.iconst 0, 1) := by decide +kernel
theorem hd_made_18 : decode method_3_code 18 = .ok (.ireturn, 1) := by decide +kernel
theorem hw_made_c : Cond.codeWith hy_made method_3_code 5 (some .int) [(0, 10, 13, 13)] ∈ kTB := kin_ok (i := 1669) (by decide +kernel)
theorem hw_made_k : Cond.static hy_made ∈ kTB := kin_ok (i := 1668) (by decide +kernel)
theorem hw_made_l : Cond.methodLink "MenOnCradlesLaw" 99 hy_made ∈ kTB := kin_ok (i := 1667) (by decide +kernel)
theorem k_141 : kI2 141 = some in_141 := kI2_is rfl (by decide)
theorem hL_made {EX : State → Prop} : av_LF kTB kON EX av_P kI2 16 7 141 1 2 10 := ⟨mt_141, ⟨"MenOnCradles", "made", "(II)I"⟩, _, _, 10, p_141, k_141, ⟨by decide, by decide, by decide +kernel⟩, Or.inr (Or.inr (Or.inl ⟨rfl, kin_ok (i := 1672) (by decide +kernel), kin_ok (i := 1673) (by decide +kernel), kin_ok (i := 1671) (by decide +kernel), rfl, by decide⟩))⟩
abbrev hy_plan : MethodName := ⟨"MenOnCradlesLaw", "plan", "(LMenOnCradles;III[J)I"⟩
theorem hd_plan_0 : decode method_4_code 0 = .ok (.aload 4, 2) := by decide +kernel
theorem hd_plan_2 : decode method_4_code 2 = .ok (.iconst 0, 1) := by decide +kernel
theorem hd_plan_3 : decode method_4_code 3 = .ok (.aload_n 0, 1) := by decide +kernel
theorem hd_plan_4 : decode method_4_code 4 = .ok (.iload_n 1, 1) := by decide +kernel
theorem hd_plan_5 : decode method_4_code 5 = .ok (.iload_n 2, 1) := by decide +kernel
theorem hd_plan_6 : decode method_4_code 6 = .ok (.iload_n 3, 1) := by decide +kernel
theorem hd_plan_7 : decode method_4_code 7 = .ok (.invokevirtual 15, 3) := by decide +kernel
theorem hd_plan_10 : decode method_4_code 10 = .ok (.lastore, 1) := by decide +kernel
theorem hd_plan_11 : decode method_4_code 11 = .ok (.goto 7, 3) := by decide +kernel
theorem hd_plan_14 : decode method_4_code 14 = .ok (.astore 5, 2) := by decide +kernel
theorem hd_plan_16 : decode method_4_code 16 = .ok (.iconst 1, 1) := by decide +kernel
theorem hd_plan_17 : decode method_4_code 17 = .ok (.ireturn, 1) := by decide +kernel
theorem hd_plan_18 : decode method_4_code 18 = .ok (.iconst 0, 1) := by decide +kernel
theorem hd_plan_19 : decode method_4_code 19 = .ok (.ireturn, 1) := by decide +kernel
theorem hw_plan_c : Cond.codeWith hy_plan method_4_code 6 (some .int) [(0, 11, 14, 13)] ∈ kTB := kin_ok (i := 1748) (by decide +kernel)
theorem hw_plan_k : Cond.static hy_plan ∈ kTB := kin_ok (i := 1747) (by decide +kernel)
theorem hw_plan_l : Cond.methodLink "MenOnCradlesLaw" 161 hy_plan ∈ kTB := kin_ok (i := 1746) (by decide +kernel)
theorem k_154 : kI2 154 = some in_154 := kI2_is rfl (by decide)
theorem hL_plan {EX : State → Prop} : av_LF kTB kON EX av_P kI2 16 15 154 1 3 10 := ⟨mt_154, ⟨"MenOnCradles", "plan", "(III)J"⟩, _, _, 10, p_154, k_154, ⟨by decide, by decide, by decide +kernel⟩, Or.inr (Or.inr (Or.inl ⟨rfl, kin_ok (i := 1750) (by decide +kernel), kin_ok (i := 1751) (by decide +kernel), kin_ok (i := 1749) (by decide +kernel), rfl, by decide⟩))⟩
abbrev hy_fixed : MethodName := ⟨"MenOnCradlesLaw", "fixed", "(LMenOnCradles;I[J)I"⟩
theorem hd_fixed_0 : decode method_5_code 0 = .ok (.aload_n 2, 1) := by decide +kernel
theorem hd_fixed_1 : decode method_5_code 1 = .ok (.iconst 0, 1) := by decide +kernel
theorem hd_fixed_2 : decode method_5_code 2 = .ok (.aload_n 0, 1) := by decide +kernel
theorem hd_fixed_3 : decode method_5_code 3 = .ok (.iload_n 1, 1) := by decide +kernel
theorem hd_fixed_4 : decode method_5_code 4 = .ok (.invokevirtual 19, 3) := by decide +kernel
theorem hd_fixed_7 : decode method_5_code 7 = .ok (.lastore, 1) := by decide +kernel
theorem hd_fixed_8 : decode method_5_code 8 = .ok (.goto 6, 3) := by decide +kernel
theorem hd_fixed_11 : decode method_5_code 11 = .ok (.astore_n 3, 1) := by decide +kernel
theorem hd_fixed_12 : decode method_5_code 12 = .ok (.iconst 1, 1) := by decide +kernel
theorem hd_fixed_13 : decode method_5_code 13 = .ok (.ireturn, 1) := by decide +kernel
theorem hd_fixed_14 : decode method_5_code 14 = .ok (.iconst 0, 1) := by decide +kernel
theorem hd_fixed_15 : decode method_5_code 15 = .ok (.ireturn, 1) := by decide +kernel
theorem hw_fixed_c : Cond.codeWith hy_fixed method_5_code 4 (some .int) [(0, 8, 11, 13)] ∈ kTB := kin_ok (i := 1766) (by decide +kernel)
theorem hw_fixed_k : Cond.static hy_fixed ∈ kTB := kin_ok (i := 1765) (by decide +kernel)
theorem hw_fixed_l : Cond.methodLink "MenOnCradlesLaw" 165 hy_fixed ∈ kTB := kin_ok (i := 1764) (by decide +kernel)
theorem k_155 : kI2 155 = some in_155 := kI2_is rfl (by decide)
theorem hL_fixed {EX : State → Prop} : av_LF kTB kON EX av_P kI2 16 19 155 1 1 10 := ⟨mt_155, ⟨"MenOnCradles", "fixed", "(I)J"⟩, _, _, 10, p_155, k_155, ⟨by decide, by decide, by decide +kernel⟩, Or.inr (Or.inr (Or.inl ⟨rfl, kin_ok (i := 1768) (by decide +kernel), kin_ok (i := 1769) (by decide +kernel), kin_ok (i := 1767) (by decide +kernel), rfl, by decide⟩))⟩
abbrev hy_tried : MethodName := ⟨"MenOnCradlesLaw", "tried", "(LMenOnCradles;I[J)I"⟩
theorem hd_tried_0 : decode method_6_code 0 = .ok (.aload_n 2, 1) := by decide +kernel
theorem hd_tried_1 : decode method_6_code 1 = .ok (.iconst 0, 1) := by decide +kernel
theorem hd_tried_2 : decode method_6_code 2 = .ok (.aload_n 0, 1) := by decide +kernel
theorem hd_tried_3 : decode method_6_code 3 = .ok (.iload_n 1, 1) := by decide +kernel
theorem hd_tried_4 : decode method_6_code 4 = .ok (.invokevirtual 23, 3) := by decide +kernel
theorem hd_tried_7 : decode method_6_code 7 = .ok (.lastore, 1) := by decide +kernel
theorem hd_tried_8 : decode method_6_code 8 = .ok (.goto 6, 3) := by decide +kernel
theorem hd_tried_11 : decode method_6_code 11 = .ok (.astore_n 3, 1) := by decide +kernel
theorem hd_tried_12 : decode method_6_code 12 = .ok (.iconst 1, 1) := by decide +kernel
theorem hd_tried_13 : decode method_6_code 13 = .ok (.ireturn, 1) := by decide +kernel
theorem hd_tried_14 : decode method_6_code 14 = .ok (.iconst 0, 1) := by decide +kernel
theorem hd_tried_15 : decode method_6_code 15 = .ok (.ireturn, 1) := by decide +kernel
theorem hw_tried_c : Cond.codeWith hy_tried method_6_code 4 (some .int) [(0, 8, 11, 13)] ∈ kTB := kin_ok (i := 1776) (by decide +kernel)
theorem hw_tried_k : Cond.static hy_tried ∈ kTB := kin_ok (i := 1775) (by decide +kernel)
theorem hw_tried_l : Cond.methodLink "MenOnCradlesLaw" 260 hy_tried ∈ kTB := kin_ok (i := 1774) (by decide +kernel)
theorem k_180 : kI2 180 = some in_180 := kI2_is rfl (by decide)
theorem hL_tried {EX : State → Prop} : av_LF kTB kON EX av_P kI2 16 23 180 1 1 10 := ⟨mt_180, ⟨"MenOnCradles", "tried", "(I)J"⟩, _, _, 10, p_180, k_180, ⟨by decide, by decide, by decide +kernel⟩, Or.inr (Or.inr (Or.inl ⟨rfl, kin_ok (i := 1778) (by decide +kernel), kin_ok (i := 1779) (by decide +kernel), kin_ok (i := 1777) (by decide +kernel), rfl, by decide⟩))⟩
