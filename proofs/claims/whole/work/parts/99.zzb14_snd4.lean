/-! the heap grows -/
def av_le (cl : List vw_C) (h g : av_H) : Prop := h.1.length ≤ g.1.length ∧ av_sz cl h ≤ av_sz cl g
section
variable {cl : List vw_C}
theorem av_le.rf {h : av_H} : av_le cl h h := ⟨Nat.le_refl _, Nat.le_refl _⟩
theorem av_le.tr {h g k : av_H} (a : av_le cl h g) (b : av_le cl g k) : av_le cl h k := ⟨Nat.le_trans a.1 b.1, Nat.le_trans a.2 b.2⟩
theorem av_le.new {h : av_H} {c n : Nat} : av_le cl h (av_new h c n) := ⟨by rw [av_new_len]; omega, by rw [av_new_sz]; omega⟩
theorem av_le.same {h g : av_H} (e : g.1 = h.1) : av_le cl h g := ⟨by rw [e]; exact Nat.le_refl _, by unfold av_sz; rw [e]; exact Nat.le_refl _⟩
theorem av_le.pI {h g : av_H} {r : Option Nat} {c k : Nat} {v : Int32} (e : av_pI h r c k v = some g) : av_le cl h g := by
  unfold av_pI at e
  split at e <;> cases e
  exact av_le.same rfl
theorem av_le.pZ {h g : av_H} {r : Option Nat} {c k : Nat} {v : Int32} (e : av_pZ h r c k v = some g) : av_le cl h g := by
  unfold av_pZ at e
  split at e <;> cases e
  exact av_le.same rfl
theorem av_le.pL {h g : av_H} {r : Option Nat} {c k : Nat} {v : Int64} (e : av_pL h r c k v = some g) : av_le cl h g := by
  unfold av_pL at e
  split at e <;> cases e
  exact av_le.same rfl
theorem av_le.pR {h g : av_H} {r : Option Nat} {c k : Nat} {v : Option Nat} (e : av_pR h r c k v = some g) : av_le cl h g := by
  unfold av_pR at e
  split at e <;> cases e
  exact av_le.same rfl
theorem av_le.sI {h g : av_H} {r : Option Nat} {i v : Int32} (e : av_sI h r i v = some g) : av_le cl h g := by
  unfold av_sI at e
  split at e <;> cases e
  exact av_le.same rfl
theorem av_le.sC {h g : av_H} {r : Option Nat} {i v : Int32} (e : av_sC h r i v = some g) : av_le cl h g := by
  unfold av_sC at e
  split at e <;> cases e
  exact av_le.same rfl
theorem av_le.sZ {h g : av_H} {r : Option Nat} {i v : Int32} (e : av_sZ h r i v = some g) : av_le cl h g := by
  unfold av_sZ at e
  split at e <;> cases e
  exact av_le.same rfl
theorem av_le.sL {h g : av_H} {r : Option Nat} {i : Int32} {v : Int64} (e : av_sL h r i v = some g) : av_le cl h g := by
  unfold av_sL at e
  split at e <;> cases e
  exact av_le.same rfl
theorem av_le.sR {h g : av_H} {r : Option Nat} {c d : Nat} {i : Int32} {v : Option Nat} (e : av_sR h r c d i v = some g) : av_le cl h g := by
  unfold av_sR at e
  split at e <;> cases e
  exact av_le.same rfl
theorem av_le.na {h g : av_H} {c : Nat} {n : Int32} (e : av_na h c n = some g) : av_le cl h g := by
  unfold av_na at e
  split at e <;> cases e
  exact av_le.new
set_option maxHeartbeats 4000000 in
theorem av_ins_le {X : av_X} {call : av_C} {rb : Nat} {next : av_B} {ins : Instr} {a b c d : Nat} {zi : Int32} {zl : Int64} {ts : List (Int32 × Nat)} {i : Nat} {ls : av_L} {st : List av_V} {h : av_H} {r : Option (Option av_V) × av_H}
    (hn : ∀ i2 ls2 st2 h2, next i2 ls2 st2 h2 = some r → av_le cl h2 r.2) (hcall : ∀ mi as h2 r2, call mi as h2 = some r2 → av_le cl h2 r2.2)
    (hh : av_ins X call rb next ins a b c d zi zl ts i ls st h = some r) : av_le cl h r.2 := by
  have bnd : ∀ {α : Type} {o : Option α} {k : α → av_T}, o.bind k = some r → (∀ v, k v = some r → av_le cl h r.2) → av_le cl h r.2 := fun e k => by
    obtain ⟨v, -, e2⟩ := Option.bind_eq_some_iff.mp e
    exact k v e2
  have res : ∀ {st2 : List av_V} {mi : Nat} {as : List av_V}, av_res next c i ls st2 (call mi as h) = some r → av_le cl h r.2 := fun e => by
    obtain ⟨ov, h3, g1, g2⟩ := av_res_some e
    exact (hcall _ _ _ _ g1).tr (hn _ _ _ _ g2)
  unfold av_ins at hh
  split at hh
  all_goals try (exact hn _ _ _ _ hh)
  all_goals try (split at hh <;> first | exact hn _ _ _ _ hh | (cases hh; done) | (split at hh <;> first | exact hn _ _ _ _ hh | (cases hh; done)) | exact bnd hh (fun v e => hn _ _ _ _ e))
  all_goals try (split at hh <;> first | (rcases av_sw_some hh with ⟨q, -, -, e⟩ | ⟨-, e⟩ <;> exact hn _ _ _ _ e) | (cases hh; done))
  all_goals try (cases hh; done)
  · split at hh
    · split at hh <;> exact bnd hh (fun v e => hn _ _ _ _ e)
    · cases hh
  · split at hh <;> split at hh
    all_goals try (cases hh; done)
    · obtain ⟨g, e1, e2⟩ := Option.bind_eq_some_iff.mp hh
      exact (av_le.pI e1).tr (hn _ _ _ _ e2)
    · obtain ⟨g, e1, e2⟩ := Option.bind_eq_some_iff.mp hh
      exact (av_le.pL e1).tr (hn _ _ _ _ e2)
    · obtain ⟨g, e1, e2⟩ := Option.bind_eq_some_iff.mp hh
      exact (av_le.pR e1).tr (hn _ _ _ _ e2)
    · obtain ⟨g, e1, e2⟩ := Option.bind_eq_some_iff.mp hh
      exact (av_le.pZ e1).tr (hn _ _ _ _ e2)
  · split at hh
    · obtain ⟨g, e1, e2⟩ := Option.bind_eq_some_iff.mp hh
      exact (av_le.sI e1).tr (hn _ _ _ _ e2)
    · cases hh
  · split at hh
    · obtain ⟨g, e1, e2⟩ := Option.bind_eq_some_iff.mp hh
      exact (av_le.sC e1).tr (hn _ _ _ _ e2)
    · cases hh
  · split at hh
    · obtain ⟨g, e1, e2⟩ := Option.bind_eq_some_iff.mp hh
      exact (av_le.sZ e1).tr (hn _ _ _ _ e2)
    · cases hh
  · split at hh
    · obtain ⟨g, e1, e2⟩ := Option.bind_eq_some_iff.mp hh
      exact (av_le.sL e1).tr (hn _ _ _ _ e2)
    · cases hh
  · split at hh
    · obtain ⟨g, e1, e2⟩ := Option.bind_eq_some_iff.mp hh
      exact (av_le.sR e1).tr (hn _ _ _ _ e2)
    · cases hh
  · split at hh
    · exact av_le.new.tr (hn _ _ _ _ hh)
    · cases hok : av_ok8 st with
      | false => rw [hok] at hh; cases hh
      | true =>
        rw [hok] at hh
        cases hh
        exact av_le.new
  · split at hh
    · obtain ⟨g, e1, e2⟩ := Option.bind_eq_some_iff.mp hh
      exact (av_le.na e1).tr (hn _ _ _ _ e2)
    · cases hh
  · split at hh
    · obtain ⟨g, e1, e2⟩ := Option.bind_eq_some_iff.mp hh
      exact (av_le.na e1).tr (hn _ _ _ _ e2)
    · cases hh
  · cases hok : (av_ok8 (st.drop b) && Nat.ble b st.length) with
    | false => rw [hok] at hh; cases hh
    | true => rw [hok] at hh; exact res hh
  · split at hh
    · rename_i r0 t hdr
      cases hok : av_ok8 t with
      | false => rw [hok] at hh; cases hh
      | true =>
        rw [hok] at hh
        simp only [cond_true] at hh
        split at hh
        · exact res hh
        · split at hh
          · exact res hh
          · cases hh
    · cases hh
  · split at hh
    · rename_i r0 t hdr
      cases hok : av_ok8 t with
      | false => rw [hok] at hh; cases hh
      | true =>
        rw [hok] at hh
        simp only [cond_true] at hh
        split at hh
        · split at hh
          · exact hn _ _ _ _ hh
          · exact res hh
        · cases hh
    · cases hh
  · split at hh
    · split at hh
      · obtain ⟨g, e1, e2⟩ := Option.bind_eq_some_iff.mp hh
        cases e2
        exact av_le.rf
      · cases hh
        exact av_le.rf
    · cases hh
  · split at hh <;> cases hh
    exact av_le.rf
  · split at hh <;> cases hh
    exact av_le.rf
theorem av_seg_le {X : av_X} {call : av_C} {M : av_M} {back : av_B} {r : Option (Option av_V) × av_H} (hn : ∀ i2 ls2 st2 h2, back i2 ls2 st2 h2 = some r → av_le cl h2 r.2) (hcall : ∀ mi as h2 r2, call mi as h2 = some r2 → av_le cl h2 r2.2) : ∀ (k i : Nat) (ls : av_L) (st : List av_V) (h : av_H), av_seg X call M back k i ls st h = some r → av_le cl h r.2
  | 0, _, _, _, _, hh => by simp [av_seg] at hh
  | k + 1, i, ls, st, h, hh => by
    simp only [av_seg] at hh
    split at hh
    · cases hh
    · refine av_ins_le (fun i2 ls2 st2 h2 e => ?_) hcall hh
      unfold av_jmp at e
      split at e
      · exact av_seg_le hn hcall k _ _ _ _ e
      · exact hn _ _ _ _ e
theorem av_cat_le {x : av_T} {o : Option Nat} {h : av_H} {r : Option (Option av_V) × av_H} (hx : ∀ r2, x = some r2 → av_le cl h r2.2) (e : av_catI x o = some r) : av_le cl h r.2 := by
  obtain ⟨q, e1, e2⟩ := Option.bind_eq_some_iff.mp e
  have h1 := hx _ e1
  split at e2
  · cases e2
    exact h1
  · obtain ⟨g, e3, e4⟩ := Option.bind_eq_some_iff.mp e2
    cases e4
    exact h1.tr (av_le.sL e3)
  · cases e2
theorem av_catL_le {x : av_T} {o : Option Nat} {h : av_H} {r : Option (Option av_V) × av_H} (hx : ∀ r2, x = some r2 → av_le cl h r2.2) (e : av_catL x o = some r) : av_le cl h r.2 := by
  obtain ⟨q, e1, e2⟩ := Option.bind_eq_some_iff.mp e
  have h1 := hx _ e1
  split at e2
  · cases e2
    exact h1
  · obtain ⟨g, e3, e4⟩ := Option.bind_eq_some_iff.mp e2
    cases e4
    exact h1.tr (av_le.sL e3)
  · cases e2
theorem av_S_le {call : av_C} (hcall : ∀ mi as h2 r2, call mi as h2 = some r2 → av_le cl h2 r2.2) (mi : Nat) (as : List av_V) (h : av_H) (r : Option (Option av_V) × av_H) (e : av_S call mi as h = some r) : av_le cl h r.2 := by
  unfold av_S at e
  split at e
  · split at e
    · obtain ⟨g, e1, e2⟩ := Option.bind_eq_some_iff.mp e
      cases e2
      exact av_le.rf
    · cases e
  · split at e
    · obtain ⟨g, e1, e2⟩ := Option.bind_eq_some_iff.mp e
      split at e2
      · cases e2
      · obtain ⟨g, e3, e4⟩ := Option.bind_eq_some_iff.mp e2
        cases e4
        exact av_le.rf
    · cases e
  · split at e
    · obtain ⟨g, e1, e2⟩ := Option.bind_eq_some_iff.mp e
      cases e2
      exact av_le.rf
    · cases e
  · split at e
    · split at e
      · exact av_cat_le (fun r2 e2 => hcall _ _ _ _ e2) e
      · cases e
    · cases e
  all_goals try (split at e <;> first | (split at e <;> first | exact av_catL_le (fun r2 e2 => hcall _ _ _ _ e2) e | cases e) | cases e)
  cases e
theorem av_cal_le2 {P : Nat → Option av_M} {run : Nat → Nat → av_B} (hr : ∀ d mi i ls st h r, run d mi i ls st h = some r → av_le cl h r.2) : ∀ (d mi : Nat) (as : List av_V) (h : av_H) (r : Option (Option av_V) × av_H), av_cal P av_S run d mi as h = some r → av_le cl h r.2
  | 0, _, _, _, _, e => by simp [av_cal] at e
  | d + 1, mi, as, h, r, e => by
    simp only [av_cal] at e
    split at e
    · exact av_S_le (fun mi as h2 r2 e2 => av_cal_le2 hr d mi as h2 r2 e2) mi as h r e
    · rename_i M hM
      cases hb : Nat.ble (av_sm as) M.2.1 with
      | false => rw [hb] at e; cases e
      | true => rw [hb] at e; exact hr _ _ _ _ _ _ _ e
theorem av_run_le {P : Nat → Option av_M} {X : av_X} : ∀ (n d mi i : Nat) (ls : av_L) (st : List av_V) (h : av_H) (r : Option (Option av_V) × av_H), av_run P av_S X n d mi i ls st h = some r → av_le cl h r.2
  | 0, _, _, _, _, _, _, _, e => by simp [av_run] at e
  | n + 1, d, mi, i, ls, st, h, r, e => by
    rw [av_run] at e
    split at e
    · cases e
    · exact av_seg_le (fun i2 ls2 st2 h2 e2 => av_run_le n d mi i2 ls2 st2 h2 r e2) (fun mi as h2 r2 e2 => av_cal_le2 (fun d mi i ls st h r e3 => av_run_le n d mi i ls st h r e3) d mi as h2 r2 e2) 3000 i ls st h e
end
