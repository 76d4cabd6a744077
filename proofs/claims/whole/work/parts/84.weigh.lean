/-! an asked drop is weighed by the class -/
/-- all but the facts, the stacks and drop m -/
def fM (m a _k : Nat) : Bool := !(decide (a = 64) || decide (a = 71) || decide (a = 76) || decide (a = 77 + m))
def tA (m : Nat) (h h' : av_H) : Prop := WF h' ∧ agr (fM m) h h'
theorem fM_d {m a k : Nat} (h1 : a ≠ 64) (h2 : a ≠ 71) (h3 : a ≠ 76) (h4 : a ≠ 77 + m) : fM m a k = true := by
  rw [fM, decide_eq_false h1, decide_eq_false h2, decide_eq_false h3, decide_eq_false h4]
  rfl
theorem fM_m {m k : Nat} : fM m (77 + m) k = false := by
  rw [fM, decide_eq_true rfl, Bool.or_true]
  rfl
theorem tA.up {m : Nat} {h h' : av_H} (hm : m < 60) (T : tA m h h') : off false ([64, 71, 76] ++ dCells) [] h h' := agr.mono T.2 (fun a k e => by
  have hd := dCells_in m hm
  refine fM_d (fun z => ?_) (fun z => ?_) (fun z => ?_) (fun z => ?_)
  · rw [z, show FP false ([64, 71, 76] ++ dCells) [] 64 k = true from rfl] at e; cases e
  · rw [z, show FP false ([64, 71, 76] ++ dCells) [] 71 k = true from rfl] at e; cases e
  · rw [z, show FP false ([64, 71, 76] ++ dCells) [] 76 k = true from rfl] at e; cases e
  · rw [z] at e
    have y : FP false ([64, 71, 76] ++ dCells) [] (77 + m) k = true := by
      simp only [FP, Bool.false_and, Bool.false_or, List.elem_eq_mem, List.mem_append, Bool.or_eq_true, decide_eq_true_eq] at hd ⊢
      exact Or.inl (Or.inr hd)
    rw [y] at e
    cases e)
theorem tA.tc {m : Nat} {h g k : av_H} (T : tA m h g) (S : tC g k) : tA m h k := ⟨S.1, agr.tr T.2 (agr.mono S.2 (fun a k e => by
  simp only [fM, Bool.not_eq_true', Bool.or_eq_false_iff, decide_eq_false_iff_not] at e
  simp only [FP, Bool.false_and, Bool.false_or, Bool.not_eq_true', Bool.or_eq_false_iff, List.elem_eq_mem, decide_eq_false_iff_not, List.mem_cons, not_or]
  exact ⟨⟨e.1.1.1, e.1.1.2, e.1.2, List.not_mem_nil⟩, List.not_mem_nil⟩))⟩
theorem tA.w {m j : Nat} {v : Int32} {h g : av_H} (T : tA m h g) : tA m h (av_uI g (77 + m) j v) := ⟨T.1, agr.uI fM_m T.2⟩
theorem tA.wL {m j : Nat} {v : Int64} {h g : av_H} (T : tA m h g) : tA m h (av_uL g (77 + m) j v) := ⟨T.1, agr.uL fM_m T.2⟩
theorem tA.st {m : Nat} {u : Ru} (o : u.ok) {h0 h h' : av_H} (T : tA m h0 h) (S : stkE u.R h h') : tA m h0 h' := by
  obtain ⟨f, rfl⟩ := S
  refine ⟨T.1, agr.setC (fun j => ?_) T.2⟩
  rcases o.1 with e | e <;> rw [e] <;> rfl
theorem DC.ta {m : Nat} {h h' : av_H} {D : Nat → Nat → Nat} {M : Nat → Nat} (C : DC h m D M) (hm : m < 60) (T : tA m h h') : DC h' m D M := by
  refine ⟨(T.2.I (fM_d (by decide) (by decide) (by decide) (by omega))).trans C.1, fun i hi => ?_⟩
  have e : ∀ k, fM m (77 + i) k = true := fun k => fM_d (by omega) (by omega) (by omega) (by omega)
  exact ⟨fun j hj => (T.2.I (e j)).trans ((C.2 i hi).1 j hj), (T.2.L (e 18)).trans (C.2 i hi).2⟩
theorem mx0_max (x : Int32) : (if (0 : Int32) < x then x else 0) = mx0 x := by
  unfold mx0
  by_cases q : x < 0
  · rw [if_pos q, if_neg (by rw [i_lt] at q ⊢; omega)]
  · rw [if_neg q]
    by_cases z : (0 : Int32) < x
    · rw [if_pos z]
    · rw [if_neg z]
      apply Int32.toInt_inj.mp
      rw [i_lt] at q z
      omega
section
variable {X : av_X} {d : Nat} {h : av_H}
theorem dr_p {β : Type} {i j : Nat} {v : Int32} (w : WF h) (hi : i < 60) (K : av_H → Option β) : (av_pI h (some (77 + i)) 0 j v).bind K = K (av_uI h (77 + i) j v) := bS (k_pI (dr_k w hi) j v) K
theorem dr_pL {β : Type} {i j : Nat} {v : Int64} (w : WF h) (hi : i < 60) (K : av_H → Option β) : (av_pL h (some (77 + i)) 0 j v).bind K = K (av_uL h (77 + i) j v) := bS (k_pL (dr_k w hi) j v) K
/-- what is answered for a place is written down -/
theorem wg_an {m p j : Nat} {u : Ru} {g : av_H} {Fv : Nat → Int32} (T : tA m g h) (hm : m < 60) (o : u.ok) (C : u.C g) (hF : ∀ j, j < 11 → h.2.1 64 j = Fv j) (hj : j < 3) : ∃ h', tA m g h' ∧ (∀ j, j < 11 → h'.2.1 64 j = Fv j) ∧ h'.2.1 (77 + m) = upd (h.2.1 (77 + m)) p (mx0 (u.an j Fv)) ∧ h'.2.2.1 = h.2.2.1 ∧ ∀ (β : Type) (Kt : av_H → Option β), ((av_gR h (some 0) 10 15).bind fun x29 => (av_gR h (some 0) 10 12).bind fun x30 => if av_is h x29 6 = true then ((av_cI (ev X (d + 2) 101 [vr x29, vi (nI (12 + j)), vr x30] h)).bind fun q31 => (av_cI (ev X (d + 2) 379 [vi 0, vi (q31.1)] q31.2)).bind fun q32 => (av_pI q32.2 (some (77 + m)) 0 p q32.1).bind Kt) else none) = Kt h' := by
  have w := T.1
  have A := T.up hm
  have C' := C.fr o (A.fr (by decide +kernel))
  obtain ⟨h1, S1, e1⟩ := c_an (X := X) (d := d) w o C' hj
  have an : u.an j (h.2.1 64) = u.an j Fv := by
    rw [Ru.an, Ru.an]
    by_cases z : u.q j = true
    · rw [if_pos z, if_pos z]
      exact wor_cg hF (o.2.2.2.2.2 _ (Or.inr (Or.inr ⟨by omega, by omega, by rw [Nat.add_sub_cancel_left]; exact z⟩)))
    · rw [if_neg z, if_neg z]
  rw [an] at e1
  have T1 := T.st o S1
  have nR : 77 + m ≠ u.R + 4 := by rcases o.1 with z | z <;> omega
  have n64 : (64 : Nat) ≠ u.R + 4 := by rcases o.1 with z | z <;> omega
  refine ⟨av_uI h1 (77 + m) p (mx0 (u.an j Fv)), T1.w, fun i hi => ?_, ?_, ?_, fun β Kt => ?_⟩
  · rw [uI_ne (by omega), S1.ne n64]
    exact hF i hi
  · rw [uI_set, setC_eq, S1.ne nR]
  · obtain ⟨f, rfl⟩ := S1
    rfl
  · rw [g015 w C', gR_0_12 w, is_R o w, e1, av_cI_r, Option.bind_some, c_max', mx0_max, dr_p T1.1 hm]
end
