/-! what the start gives: the strings -/
def kst_k (i : Nat) : Nat := match i with
  | 0 => 86
  | 1 => 92
  | _ => 78
abbrev kst_t (i : Nat) : Term := .string "MenOnCradles$Reader" (kst_k i)
def kst_w (i j : Nat) : Cond := Cond.eq ((Term.field (kst_t i) "java/lang/String" "value" "[B").elem (.int (Int32.ofNat j))) (.int ((av_tx.getD i []).getD j 0))
set_option maxRecDepth 100000 in
theorem kst_m0 : ((flatC (Jvm.Cond.and given_1 narrow_1)).drop 44).take 96 = (List.range 96).map (kst_w 0) := by decide +kernel
set_option maxRecDepth 100000 in
theorem kst_m1 : ((flatC (Jvm.Cond.and given_1 narrow_1)).drop 144).take 88 = (List.range 88).map (kst_w 1) := by decide +kernel
set_option maxRecDepth 100000 in
theorem kst_m2 : ((flatC (Jvm.Cond.and given_1 narrow_1)).drop 237).take 8 = (List.range 8).map (kst_w 2) := by decide +kernel
theorem kst_mm {L : List Cond} {a n i j : Nat} (h : (L.drop a).take n = (List.range n).map (kst_w i)) (hj : j < n) : kst_w i j ∈ L := by
  have h1 : kst_w i j ∈ (List.range n).map (kst_w i) := List.mem_map.mpr ⟨j, List.mem_range.mpr hj, rfl⟩
  rw [← h] at h1
  exact List.mem_of_mem_drop (List.mem_of_mem_take h1)
theorem kst_el (i : Nat) (hi : i < 3) (j : Nat) (hj : j < ks_len.getD i 0) : kst_w i j ∈ flatC (Jvm.Cond.and given_1 narrow_1) := by
  have c3 : i = 0 ∨ i = 1 ∨ i = 2 := by omega
  rcases c3 with rfl | rfl | rfl
  · exact kst_mm kst_m0 hj
  · exact kst_mm kst_m1 hj
  · exact kst_mm kst_m2 hj
set_option maxRecDepth 100000 in
theorem kst_str {s : State} {args : Array Value} {A : Nat → Prop} (hg : (Jvm.Cond.and given_1 narrow_1).before args s = true) (hA : ∀ a : Nat, a < s.heap.size → ¬ A a) :
    ∃ adK adV : Nat → Nat, vk_S 3 ks_len av_tx adK adV A s s.heap ∧ ∀ i : Nat, i < 3 → (kst_t i).eval args s none [] s = some (.ref (adK i)) := by
  have hs := flat_of_before _ hg
  have c3 : ∀ i : Nat, i < 3 → i = 0 ∨ i = 1 ∨ i = 2 := by intro i hi; omega
  refine vk_Sof (tm := kst_t) (fun i hi => ?_) (fun i hi => ?_) (fun i hi => ?_) (fun i hi => ?_) (fun i hi => ?_) (fun i hi j hj => ?_) (fun i j hi hj hij => ?_) hA
  · rcases c3 i hi with rfl | rfl | rfl <;> decide
  · rcases c3 i hi with rfl | rfl | rfl <;> exact hs _ (by decide +kernel)
  · rcases c3 i hi with rfl | rfl | rfl <;> exact hs _ (by decide +kernel)
  · rcases c3 i hi with rfl | rfl | rfl <;> exact hs _ (by decide +kernel)
  · rcases c3 i hi with rfl | rfl | rfl <;> exact hs _ (by decide +kernel)
  · exact hs _ (kst_el i hi j hj)
  · rcases c3 i hi with rfl | rfl | rfl <;> rcases c3 j hj with rfl | rfl | rfl <;> first
      | exact absurd rfl hij
      | exact Or.inl (hs _ (by decide +kernel))
      | exact Or.inr (hs _ (by decide +kernel))
