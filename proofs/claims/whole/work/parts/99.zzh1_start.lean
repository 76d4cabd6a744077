/-! the classes at the start; how much the run makes -/
theorem kh_arr {s : State} {args : Array Value} {ty : FieldType} (h : (Cond.arrayClass ty).before args s = true) (hty : ∀ C, ty ≠ .object C) : ∃ cA : ClassId, ArrOfT s cA ty ∧ va_RA s cA ty := by
  obtain ⟨c, k, comp, h1, h2, h3⟩ := Cond.arrayClass_spec h
  refine ⟨c, fun n z => ⟨fun q hq => (by cases hq), k, h2, comp, h3⟩, ?_⟩
  cases ty with
  | object C => exact absurd rfl (hty C)
  | _ => exact h1
theorem kh_arq {s : State} {C : String} (h : va_AO C s) : ∃ cA : ClassId, ArrOfT s cA (.object C) ∧ va_RA s cA (.object C) := by
  obtain ⟨comp, c, k, h1, -, h3, h4, h5⟩ := Cond.arrayOver_spec h
  exact ⟨c, fun n z => ⟨fun q hq => (by cases hq), k, h3, comp, h4⟩, k, comp, h3, h4, h1, h5⟩
theorem kh_K {s : State} {args : Array Value} (hts : ∀ w ∈ kTB, w.before args s = true) (h9 : va_AO (kON 9) s) (h0 : va_AO (kON 0) s) : ∃ (D : va_G) (kA : Nat → ClassId), va_K D kCL (av_tys kA kON) s := by
  have hc : ∀ cn : Nat, ∃ y : ClassId × (Nat → Nat), ∀ q : vw_C, kCL[cn]? = some q → u_Kn s q.1 q.2.1 q.2.2 y.1 y.2 := by
    intro cn
    cases hq : kCL[cn]? with
    | none => exact ⟨(0, fun _ => 0), fun q h => by cases h⟩
    | some q =>
      obtain ⟨C, T, N⟩ := q
      obtain ⟨-, hws, -, -, hin, -⟩ := kKF.1 cn C T N hq
      obtain ⟨cC, iS, h⟩ := u_known hts hws (hts _ hin)
      exact ⟨(cC, iS), fun q h2 => by cases h2; exact h⟩
  obtain ⟨-, -, -, -, -, -, -, -, -, i1, i2, i3, i4⟩ := kKF
  obtain ⟨a0, b0⟩ := kh_arr (hts _ i1) (fun C q => by cases q)
  obtain ⟨a1, b1⟩ := kh_arr (hts _ i2) (fun C q => by cases q)
  obtain ⟨a2, b2⟩ := kh_arr (hts _ i3) (fun C q => by cases q)
  obtain ⟨a3, b3⟩ := kh_arr (hts _ i4) (fun C q => by cases q)
  obtain ⟨a4, b4⟩ := kh_arq h9
  obtain ⟨a5, b5⟩ := kh_arq h0
  obtain ⟨kA, k0, k1, k2, k3, k4, k5⟩ : ∃ kA : Nat → ClassId, kA 100 = a0 ∧ kA 101 = a1 ∧ kA 102 = a2 ∧ kA 103 = a3 ∧ kA 104 = a4 ∧ kA 105 = a5 := ⟨fun k => if k = 100 then a0 else if k = 101 then a1 else if k = 102 then a2 else if k = 103 then a3 else if k = 104 then a4 else a5, rfl, rfl, rfl, rfl, rfl, rfl⟩
  subst k0 k1 k2 k3 k4 k5
  refine ⟨(fun cn => (Classical.choose (hc cn)).1, fun cn => (Classical.choose (hc cn)).2), kA, fun cn q hq => Classical.choose_spec (hc cn) q hq, fun k q hq => ?_⟩
  match k, hq with
  | 0, hq => cases hq; exact b0
  | 1, hq => cases hq; exact b1
  | 2, hq => cases hq; exact b2
  | 3, hq => cases hq; exact b3
  | 4, hq => cases hq; exact b4
  | 5, hq => cases hq; exact b5
  | k + 6, hq => simp [av_tys] at hq
theorem PCS_sz : ∀ K t, PCS K t → (t.map (av_sl kCL)).sum ≤ 100 * K
  | 0, t, h => by rw [show t = [] from h]; exact Nat.zero_le _
  | K + 1, t, h => by
    obtain ⟨s, hs, q⟩ := h
    have := PCS_sz K s hs
    have e1 : (([(9, 0), (100, 40), (100, 4)] : List (Nat × Nat)).map (av_sl kCL)).sum ≤ 100 := by decide +kernel
    have e2 : (([(12, 0)] : List (Nat × Nat)).map (av_sl kCL)).sum ≤ 100 := by decide +kernel
    rcases q with q | q | q
    · rw [q]; omega
    · rw [q, List.map_append, List.sum_append]; omega
    · rw [q, List.map_append, List.sum_append]; omega
theorem gK_sz : (gK.map (av_sl kCL)).sum ≤ 7000000 := by decide +kernel
theorem LI.sz {K : Nat} {h : av_H} (L : LI K h) : av_sz kCL h ≤ 7000000 + 100 * K := by
  obtain ⟨_, t, e, p⟩ := L
  unfold av_sz
  rw [e, List.map_append, List.sum_append]
  have := PCS_sz K t p
  have := gK_sz
  omega
theorem hp_RH {D : va_G} {kA : Nat → ClassId} {f : Nat → Nat} {H : Heap} : av_RH D kCL kA f H.size (hp 0 [] [] []) H :=
  ⟨Nat.le_refl _, Nat.zero_le _, [], fun a q h => by
    have h : ([] : List (Nat × Nat))[a]? = some q := h
    simp at h, fun a ha => absurd ha List.not_mem_nil, fun k q h => by simp [av_wd] at h, ⟨fun i j p q h => by simp [av_wd] at h, fun k q h => by simp [av_wd] at h⟩⟩
