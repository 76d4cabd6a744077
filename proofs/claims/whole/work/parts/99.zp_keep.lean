/-! methods that make no cell leave the cells as they are -/
theorem lk_sw {f : Nat → av_T} {x : Int32} {d : Nat} {r : Option (Option av_V) × av_H} : ∀ {ts : List (Int32 × Nat)}, av_sw f x d ts = some r → ∃ q, f q = some r
  | [], h => ⟨d, h⟩
  | q :: t, h => by
    simp only [av_sw] at h
    split at h
    · exact ⟨_, h⟩
    · exact lk_sw h
theorem lk_res {next : av_B} {c i : Nat} {ls : av_L} {st : List av_V} {x : av_T} {r : Option (Option av_V) × av_H} (h : av_res next c i ls st x = some r) : ∃ q st2, x = some q ∧ q.1 ≠ none ∧ next (i + 1) ls st2 q.2 = some r := by
  unfold av_res at h
  split at h
  · obtain ⟨q, e1, e2⟩ := Option.bind_eq_some_iff.mp h
    obtain ⟨z, e3, e4⟩ := Option.bind_eq_some_iff.mp e1
    refine ⟨z, st, e3, ?_⟩
    split at e4 <;> cases e4
    rename_i hz
    exact ⟨(by rw [hz]; exact fun y => nomatch y), e2⟩
  · obtain ⟨q, e1, e2⟩ := Option.bind_eq_some_iff.mp h
    obtain ⟨z, e3, e4⟩ := Option.bind_eq_some_iff.mp e1
    refine ⟨z, .inl q.1 :: st, e3, ?_⟩
    split at e4 <;> cases e4
    rename_i hz
    exact ⟨(by rw [hz]; exact fun y => nomatch y), e2⟩
  · obtain ⟨q, e1, e2⟩ := Option.bind_eq_some_iff.mp h
    obtain ⟨z, e3, e4⟩ := Option.bind_eq_some_iff.mp e1
    refine ⟨z, .inr (.inl q.1) :: st, e3, ?_⟩
    split at e4 <;> cases e4
    rename_i hz
    exact ⟨(by rw [hz]; exact fun y => nomatch y), e2⟩
def lkI (ins : Instr) : Nat := match ins with
  | .new _ => 4
  | .newarray _ => 1
  | .anewarray _ => 1
  | .invokestatic _ => 2
  | .invokevirtual _ => 2
  | .invokespecial _ => 3
  | _ => 0
def lkR (gm : Nat → Bool) (q : av_R) : Bool := match lkI q.2.2.1 with
  | 0 => true
  | 1 => false
  | 2 => gm q.2.2.2.1
  | 4 => !(q.2.2.2.2.2.1 == 0)
  | _ => gm q.2.2.2.1 || q.2.2.2.2.2.1 == 9
theorem lk_pI {h g : av_H} {r : Option Nat} {c k : Nat} {v : Int32} (e : av_pI h r c k v = some g) : g.1 = h.1 := by
  unfold av_pI at e
  split at e <;> cases e
  rfl
theorem lk_pZ {h g : av_H} {r : Option Nat} {c k : Nat} {v : Int32} (e : av_pZ h r c k v = some g) : g.1 = h.1 := by
  unfold av_pZ at e
  split at e <;> cases e
  rfl
theorem lk_pL {h g : av_H} {r : Option Nat} {c k : Nat} {v : Int64} (e : av_pL h r c k v = some g) : g.1 = h.1 := by
  unfold av_pL at e
  split at e <;> cases e
  rfl
theorem lk_pR {h g : av_H} {r : Option Nat} {c k : Nat} {v : Option Nat} (e : av_pR h r c k v = some g) : g.1 = h.1 := by
  unfold av_pR at e
  split at e <;> cases e
  rfl
theorem lk_sI {h g : av_H} {r : Option Nat} {i v : Int32} (e : av_sI h r i v = some g) : g.1 = h.1 := by
  unfold av_sI at e
  split at e <;> cases e
  rfl
theorem lk_sC {h g : av_H} {r : Option Nat} {i v : Int32} (e : av_sC h r i v = some g) : g.1 = h.1 := by
  unfold av_sC at e
  split at e <;> cases e
  rfl
theorem lk_sZ {h g : av_H} {r : Option Nat} {i v : Int32} (e : av_sZ h r i v = some g) : g.1 = h.1 := by
  unfold av_sZ at e
  split at e <;> cases e
  rfl
theorem lk_sL {h g : av_H} {r : Option Nat} {i : Int32} {v : Int64} (e : av_sL h r i v = some g) : g.1 = h.1 := by
  unfold av_sL at e
  split at e <;> cases e
  rfl
theorem lk_sR {h g : av_H} {r : Option Nat} {c d : Nat} {i : Int32} {v : Option Nat} (e : av_sR h r c d i v = some g) : g.1 = h.1 := by
  unfold av_sR at e
  split at e <;> cases e
  rfl
set_option maxHeartbeats 4000000 in
theorem lk_ins {X : av_X} {call : av_C} {rb : Nat} {next : av_B} {ins : Instr} {a b c d : Nat} {zi : Int32} {zl : Int64} {ts : List (Int32 × Nat)} {i : Nat} {ls : av_L} {st : List av_V} {h : av_H} {r : Option (Option av_V) × av_H}
    (r1 : r.1 ≠ none) (hn : ∀ i2 ls2 st2 h2, next i2 ls2 st2 h2 = some r → r.2.1 = h2.1) (n1 : lkI ins ≠ 1) (n4 : lkI ins = 4 → c ≠ 0) (hcall : lkI ins = 2 ∨ (lkI ins = 3 ∧ c ≠ 9) → ∀ as h2 r2, call a as h2 = some r2 → r2.1 ≠ none → r2.2.1 = h2.1)
    (hh : av_ins X call rb next ins a b c d zi zl ts i ls st h = some r) : r.2.1 = h.1 := by
  have bnd : ∀ {α : Type} {o : Option α} {k : α → av_T}, o.bind k = some r → (∀ v, k v = some r → r.2.1 = h.1) → r.2.1 = h.1 := fun e k => by
    obtain ⟨v, -, e2⟩ := Option.bind_eq_some_iff.mp e
    exact k v e2
  have res : (∀ as h2 r2, call a as h2 = some r2 → r2.1 ≠ none → r2.2.1 = h2.1) → ∀ {st2 : List av_V} {as : List av_V}, av_res next c i ls st2 (call a as h) = some r → r.2.1 = h.1 := fun hc {st2 as} e => by
    obtain ⟨q, st3, g1, g0, g2⟩ := lk_res e
    exact (hn _ _ _ _ g2).trans (hc _ _ _ g1 g0)
  unfold av_ins at hh
  split at hh
  all_goals try (exact hn _ _ _ _ hh)
  all_goals try (split at hh <;> first | exact hn _ _ _ _ hh | (cases hh; done) | (split at hh <;> first | exact hn _ _ _ _ hh | (cases hh; done)) | exact bnd hh (fun v e => hn _ _ _ _ e))
  all_goals try (split at hh <;> first | (obtain ⟨q, e⟩ := lk_sw hh; exact hn _ _ _ _ e) | (cases hh; done))
  all_goals try (cases hh; done)
  all_goals try (exact absurd rfl n1)
  · split at hh
    · split at hh <;> exact bnd hh (fun v e => hn _ _ _ _ e)
    · cases hh
  · split at hh <;> split at hh
    all_goals try (cases hh; done)
    · obtain ⟨g, e1, e2⟩ := Option.bind_eq_some_iff.mp hh
      exact (hn _ _ _ _ e2).trans (lk_pI e1)
    · obtain ⟨g, e1, e2⟩ := Option.bind_eq_some_iff.mp hh
      exact (hn _ _ _ _ e2).trans (lk_pL e1)
    · obtain ⟨g, e1, e2⟩ := Option.bind_eq_some_iff.mp hh
      exact (hn _ _ _ _ e2).trans (lk_pR e1)
    · obtain ⟨g, e1, e2⟩ := Option.bind_eq_some_iff.mp hh
      exact (hn _ _ _ _ e2).trans (lk_pZ e1)
  · split at hh
    · obtain ⟨g, e1, e2⟩ := Option.bind_eq_some_iff.mp hh
      exact (hn _ _ _ _ e2).trans (lk_sI e1)
    · cases hh
  · split at hh
    · obtain ⟨g, e1, e2⟩ := Option.bind_eq_some_iff.mp hh
      exact (hn _ _ _ _ e2).trans (lk_sC e1)
    · cases hh
  · split at hh
    · obtain ⟨g, e1, e2⟩ := Option.bind_eq_some_iff.mp hh
      exact (hn _ _ _ _ e2).trans (lk_sZ e1)
    · cases hh
  · split at hh
    · obtain ⟨g, e1, e2⟩ := Option.bind_eq_some_iff.mp hh
      exact (hn _ _ _ _ e2).trans (lk_sL e1)
    · cases hh
  · split at hh
    · obtain ⟨g, e1, e2⟩ := Option.bind_eq_some_iff.mp hh
      exact (hn _ _ _ _ e2).trans (lk_sR e1)
    · cases hh
  · split at hh
    · exact absurd rfl (n4 rfl)
    · cases hok : av_ok8 st with
      | false => rw [hok] at hh; cases hh
      | true =>
        rw [hok] at hh
        cases hh
        exact absurd rfl r1
  · cases hok : (av_ok8 (st.drop b) && Nat.ble b st.length) with
    | false => rw [hok] at hh; cases hh
    | true => rw [hok] at hh; exact res (hcall (Or.inl rfl)) hh
  · split at hh
    · rename_i r0 t hdr
      cases hok : av_ok8 t with
      | false => rw [hok] at hh; cases hh
      | true =>
        rw [hok] at hh
        simp only [cond_true] at hh
        split at hh
        · exact res (hcall (Or.inl rfl)) hh
        · split at hh
          · exact res (hcall (Or.inl rfl)) hh
          · cases hh
    · cases hh
  · split at hh
    · rename_i r0 t hdr
      cases hok : av_ok8 t with
      | false => rw [hok] at hh; cases hh
      | true =>
        rw [hok] at hh
        simp only [cond_true] at hh
        split at hh
        · split at hh
          · exact hn _ _ _ _ hh
          · rename_i c9
            exact res (hcall (Or.inr ⟨rfl, fun q => c9 q⟩)) hh
        · cases hh
    · cases hh
  · split at hh
    · split at hh
      · obtain ⟨g, e1, e2⟩ := Option.bind_eq_some_iff.mp hh
        cases e2
        rfl
      · cases hh
        rfl
    · cases hh
  · split at hh <;> cases hh
    rfl
  · split at hh <;> cases hh
    rfl
theorem lk_seg {X : av_X} {call : av_C} {M : av_M} {back : av_B} {gm : Nat → Bool} {r : Option (Option av_V) × av_H} (r1 : r.1 ≠ none) (hM : ∀ i q, av_row M.2.2.2 i = some q → lkR gm q = true) (hn : ∀ i2 ls2 st2 h2, back i2 ls2 st2 h2 = some r → r.2.1 = h2.1) (hcall : ∀ mi, gm mi = true → ∀ as h2 r2, call mi as h2 = some r2 → r2.1 ≠ none → r2.2.1 = h2.1) : ∀ (k i : Nat) (ls : av_L) (st : List av_V) (h : av_H), av_seg X call M back k i ls st h = some r → r.2.1 = h.1
  | 0, _, _, _, _, hh => by simp [av_seg] at hh
  | k + 1, i, ls, st, h, hh => by
    simp only [av_seg] at hh
    split at hh
    · cases hh
    · rename_i x1 x2 ins a b c d zi zl ts hrow
      have ok := hM _ _ hrow
      refine lk_ins r1 (fun i2 ls2 st2 h2 e => ?_) (fun z => ?_) (fun z => ?_) (fun z => ?_) hh
      · unfold av_jmp at e
        split at e
        · exact lk_seg r1 hM hn hcall k _ _ _ _ e
        · exact hn _ _ _ _ e
      · unfold lkR at ok
        dsimp only at ok
        rw [z] at ok
        cases ok
      · unfold lkR at ok
        dsimp only at ok
        rw [z] at ok
        change (!(c == 0)) = true at ok
        intro c0
        rw [c0] at ok
        cases ok
      · refine hcall a ?_
        unfold lkR at ok
        dsimp only at ok
        rcases z with z | ⟨z, z9⟩
        · rw [z] at ok
          exact ok
        · rw [z] at ok
          change (gm a || c == 9) = true at ok
          rw [Bool.or_eq_true] at ok
          rcases ok with ok | ok
          · exact ok
          · exact absurd (beq_iff_eq.mp ok) z9
/-- a set of methods, closed under calls, none of which makes a cell -/
def lkG (gm : Nat → Bool) : Prop := ∀ mi, gm mi = true → (mi = 9001 ∨ mi = 9002 ∨ mi = 9003) ∨ ∃ M, av_P mi = some M ∧ ∀ i q, av_row M.2.2.2 i = some q → lkR gm q = true
theorem lk_S {call : av_C} {mi : Nat} (hm : mi = 9001 ∨ mi = 9002 ∨ mi = 9003) {as : List av_V} {h : av_H} {r : Option (Option av_V) × av_H} (e : av_S call mi as h = some r) : r.2.1 = h.1 := by
  unfold av_S at e
  split at e
  · split at e
    · obtain ⟨g, e1, e2⟩ := Option.bind_eq_some_iff.mp e
      cases e2
      rfl
    · cases e
  · split at e
    · obtain ⟨g, e1, e2⟩ := Option.bind_eq_some_iff.mp e
      split at e2
      · cases e2
      · obtain ⟨g, e3, e4⟩ := Option.bind_eq_some_iff.mp e2
        cases e4
        rfl
    · cases e
  · split at e
    · obtain ⟨g, e1, e2⟩ := Option.bind_eq_some_iff.mp e
      cases e2
      rfl
    · cases e
  · omega
  · omega
  · omega
  · omega
  · cases e
theorem lk_cal {gm : Nat → Bool} (G : lkG gm) {run : Nat → Nat → av_B} (hr : ∀ d mi, gm mi = true → ∀ i ls st h r, run d mi i ls st h = some r → r.1 ≠ none → r.2.1 = h.1) : ∀ (d mi : Nat), gm mi = true → ∀ (as : List av_V) (h : av_H) (r : Option (Option av_V) × av_H), av_cal av_P av_S run d mi as h = some r → r.1 ≠ none → r.2.1 = h.1
  | 0, _, _, _, _, _, e, _ => by simp [av_cal] at e
  | d + 1, mi, hm, as, h, r, e, r1 => by
    simp only [av_cal] at e
    rcases G mi hm with g | ⟨M, g, _⟩
    · have : av_P mi = none := by rcases g with rfl | rfl | rfl <;> rfl
      rw [this] at e
      exact lk_S g e
    · rw [g] at e
      dsimp only at e
      cases hb : Nat.ble (av_sm as) M.2.1 with
      | false => rw [hb] at e; cases e
      | true => rw [hb] at e; exact hr _ _ hm _ _ _ _ _ e r1
theorem lk_run {gm : Nat → Bool} (G : lkG gm) {X : av_X} : ∀ (n d mi : Nat), gm mi = true → ∀ (i : Nat) (ls : av_L) (st : List av_V) (h : av_H) (r : Option (Option av_V) × av_H), av_run av_P av_S X n d mi i ls st h = some r → r.1 ≠ none → r.2.1 = h.1
  | 0, _, _, _, _, _, _, _, _, e, _ => by simp [av_run] at e
  | n + 1, d, mi, hm, i, ls, st, h, r, e, r1 => by
    rw [av_run] at e
    rcases G mi hm with g | ⟨M, g, gr⟩
    · have : av_P mi = none := by rcases g with rfl | rfl | rfl <;> rfl
      rw [this] at e
      cases e
    · rw [g] at e
      exact lk_seg r1 gr (fun i2 ls2 st2 h2 e2 => lk_run G n d mi hm i2 ls2 st2 h2 r e2 r1) (fun mi2 hm2 as h2 r2 e2 r3 => lk_cal G (fun d mi hm i ls st h r e3 r4 => lk_run G n d mi hm i ls st h r e3 r4) d mi2 hm2 as h2 r2 e2 r3) 3000 i ls st h e
theorem lk_ev {gm : Nat → Bool} (G : lkG gm) {X : av_X} {d mi : Nat} (hm : gm mi = true) {as : List av_V} {h : av_H} {r : Option (Option av_V) × av_H} (e : ev X d mi as h = some r) (r1 : r.1 ≠ none) : r.2.1 = h.1 := by
  obtain ⟨n, e1⟩ := (av_ev_iff av_Sg r).mp e
  exact lk_cal G (fun d mi hm i ls st h r e3 r4 => lk_run G n d mi hm i ls st h r e3 r4) d mi hm as h r e1 r1
/-- all methods but those that make cells -/
def gmB (mi : Nat) : Bool := (Nat.blt mi 384 && !(Nat.beq mi 13 || Nat.beq mi 17 || Nat.beq mi 23 || Nat.beq mi 40 || Nat.beq mi 68 || Nat.beq mi 94 || Nat.beq mi 103 || Nat.beq mi 111 || Nat.beq mi 116 || Nat.beq mi 126 || Nat.beq mi 127 || Nat.beq mi 239)) || (Nat.beq mi 9001 || Nat.beq mi 9002 || Nat.beq mi 9003)
noncomputable def gmC (mi : Nat) : Bool := !(gmB mi) || (match av_P mi with
  | none => false
  | some M => M.2.2.2.all (fun b => b.all (lkR gmB)))
theorem gm_ck : (List.range 384).all gmC = true := by decide +kernel
theorem gm_G : lkG gmB := by
  intro mi hm
  by_cases z : mi < 384
  · right
    have ck := List.all_eq_true.mp gm_ck mi (List.mem_range.mpr z)
    unfold gmC at ck
    rw [hm] at ck
    change (match av_P mi with | none => false | some M => M.2.2.2.all (fun b => b.all (lkR gmB))) = true at ck
    cases hP : av_P mi with
    | none => rw [hP] at ck; cases ck
    | some M =>
      rw [hP] at ck
      refine ⟨M, rfl, fun i q hq => ?_⟩
      unfold av_row at hq
      obtain ⟨b, e1, e2⟩ := Option.bind_eq_some_iff.mp hq
      exact List.all_eq_true.mp (List.all_eq_true.mp ck b (List.mem_of_getElem? e1)) q (List.mem_of_getElem? e2)
  · left
    unfold gmB at hm
    have y : Nat.blt mi 384 = false := by
      cases y : Nat.blt mi 384 with
      | false => rfl
      | true => exact absurd (Nat.le_of_ble_eq_true y) (by omega)
    rw [y, Bool.false_and, Bool.false_or] at hm
    by_cases z1 : mi = 9001
    · exact Or.inl z1
    · by_cases z2 : mi = 9002
      · exact Or.inr (Or.inl z2)
      · by_cases z3 : mi = 9003
        · exact Or.inr (Or.inr z3)
        · have a1 : Nat.beq mi 9001 = false := by cases u : Nat.beq mi 9001 with
            | false => rfl
            | true => exact absurd (Nat.eq_of_beq_eq_true u) z1
          have a2 : Nat.beq mi 9002 = false := by cases u : Nat.beq mi 9002 with
            | false => rfl
            | true => exact absurd (Nat.eq_of_beq_eq_true u) z2
          have a3 : Nat.beq mi 9003 = false := by cases u : Nat.beq mi 9003 with
            | false => rfl
            | true => exact absurd (Nat.eq_of_beq_eq_true u) z3
          rw [a1, a2, a3] at hm
          cases hm
/-- what a method that makes no cell leaves -/
theorem keep {X : av_X} {d mi : Nat} (hm : gmB mi = true) {as : List av_V} {h h' : av_H} {v : Option av_V} (e : ev X d mi as h = some (some v, h')) : h'.1 = h.1 := lk_ev gm_G hm e (fun y => by cases y)
