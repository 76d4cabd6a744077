/-! one instruction -/
theorem av_ok_sum {f : Nat → Nat} {st : List av_V} (h : av_ok8 st = true) : ((st.map (av_vl f)).map fun v => v.category).sum ≤ 8 := by
  have h1 := Nat.le_of_ble_eq_true h
  have e : ((st.map (av_vl f)).map fun v => v.category) = st.map av_cat := by
    rw [List.map_map]
    exact List.map_congr_left fun v _ => av_vl_cat f v
  rw [e]
  exact h1
section
variable {p : Program} {l : Launch} {e : Env} {R : Room} {s : State} {m : MethodId} {args : Array Value} {below : List Frame} {meth : Method} {cd : Code} {Q : State → Prop}
variable {D : va_G} {cl : List vw_C} {kA : Nat → ClassId} {f : Nat → Nat} {B nL n0 z0 : Nat} {cc : ByteArray} {tb : List Cond} {ty : Nat → Nat → FieldType} {ON : Nat → String} {K : av_KT} {X : av_X} {o mi0 : Nat} {pcOf : Nat → Nat}
set_option maxHeartbeats 8000000 in
theorem av_ins_ok (hx : p.tables.exec = Jvm.exec) (hb : cd.code = cc) (hml : cd.maxLocals = nL) (hown : s.vm.findClass (ON o) = some m.cls) (hts : ∀ w ∈ tb, w.before args s = true) (hK : va_K D cl (av_tys kA (ON)) s) (hKF : av_KF tb cl ty ON K) (hXF : av_XF K ON f B X tb s)
    (hf : ∀ a, a < 1000000 → f a = B + a) (hs0 : s.heap.size = B + n0) (hmi : mi0 = 1 → meth.name = "<init>") (hkA : ∀ (k : Nat) (q : ClassId × FieldType), (av_tys kA ON)[k]? = some q → s.vm.findClass ("[" ++ q.2.toString) = some q.1)
    (hcl : cl.length = 12) (hRf : 1 ≤ R.frames) (hRl : 20 ≤ R.locals)
    {call : av_C} {rb : Nat} {next : av_B} {ins : Instr} {a b c d : Nat} {zi : Int32} {zl : Int64} {ts : List (Int32 × Nat)} {i pc len : Nat} {ls : av_L} {st : List av_V} {h : av_H} {r : Option (Option av_V) × av_H}
    (hd : decode cc pc = .ok (ins, len)) (hpc : pcOf i = pc) (hc : av_ck2 K o mi0 rb nL pcOf i pc len ins a b c d zi zl ts = true)
    (hn : ∀ i2 ls2 st2 h2, next i2 ls2 st2 h2 = some r → av_AT (fun H locs n z g => W p l e R s m args below meth cd H locs n z Q g) (av_RH D cl kA f B) (av_sz cl) s.heap B nL n0 z0 f m pcOf i2 ls2 st2 h2)
    (hm : ∀ i2 ls2 st2 h2, next i2 ls2 st2 h2 = some r → h2.1.length ≤ n0 + R.cells ∧ h2.1.length ≤ 1000000 ∧ av_sz cl h2 ≤ z0 + R.slots)
    (hinv : ∀ (ix mi nb rc op dc : Nat) (as : List av_V) (rest : List av_V) (h2 : av_H) (ov : Option av_V) (h3 : av_H) (H : Heap) (locs : List Loc) (sl : Array Slot) (n1 z1 : Nat), (o, ix, mi, op, nb, rc, dc) ∈ K.2.2.2.2.2.2.2.2 → call mi as h2 = some (some ov, h3) → av_ok8 rest = true →
      (op = 0 → decode cc pc = .ok (.invokestatic ix, 3) ∧ as.length = nb) → (op = 1 → decode cc pc = .ok (.invokevirtual ix, 3) ∧ as.length = nb + 1 ∧ ∃ a, as[0]? = some (.inr (.inr a)) ∧ (dc ≠ 9000 → av_is h2 a dc = true)) → (op = 2 → decode cc pc = .ok (.invokespecial ix, 3) ∧ as.length = nb + 1 ∧ ∃ a, as[0]? = some (.inr (.inr a)) ∧ av_is h2 a dc = true) →
      n0 + n1 = h2.1.length → z0 + z1 = av_sz cl h2 → av_RH D cl kA f B h2 H → va_S (fun q => B ≤ q) s.heap H locs → sl.size = nL → (h3.1.length ≤ n0 + R.cells ∧ h3.1.length ≤ 1000000 ∧ av_sz cl h3 ≤ z0 + R.slots) →
      (∀ (H1 : Heap) (locs1 : List Loc) (n2 z2 : Nat), n0 + n2 = h3.1.length → z0 + z2 = av_sz cl h3 → av_RH D cl kA f B h3 H1 → va_S (fun q => B ≤ q) s.heap H1 locs1 → W p l e R s m args below meth cd H1 locs1 n2 z2 Q (F0 m (pc + 3) sl ((ov.toList ++ rest).map (av_vl f)))) →
      W p l e R s m args below meth cd H locs n1 z1 Q (F0 m pc sl ((as.reverse ++ rest).map (av_vl f))))
    (hEI : ∀ v, r = (some (some (.inl v)), h) → (rb = 1 ∨ rb = 4) → (rb = 4 → v = 0 ∨ v = 1) → decode cc pc = .ok (.ireturn, 1) → ∀ (H : Heap) (locs : List Loc) (sl : Array Slot) (n1 z1 : Nat), n0 + n1 = h.1.length → z0 + z1 = av_sz cl h → av_RH D cl kA f B h H → va_S (fun q => B ≤ q) s.heap H locs → W p l e R s m args below meth cd H locs n1 z1 Q (F0 m pc sl [.int v]))
    (hEL : ∀ v, r = (some (some (.inr (.inl v))), h) → rb = 2 → decode cc pc = .ok (.lreturn, 1) → ∀ (H : Heap) (locs : List Loc) (sl : Array Slot) (n1 z1 : Nat), n0 + n1 = h.1.length → z0 + z1 = av_sz cl h → av_RH D cl kA f B h H → va_S (fun q => B ≤ q) s.heap H locs → W p l e R s m args below meth cd H locs n1 z1 Q (F0 m pc sl [.long v]))
    (hEV : r = (some none, h) → rb = 0 → decode cc pc = .ok (.return_, 1) → ∀ (H : Heap) (locs : List Loc) (sl : Array Slot) (n1 z1 : Nat), n0 + n1 = h.1.length → z0 + z1 = av_sz cl h → av_RH D cl kA f B h H → va_S (fun q => B ≤ q) s.heap H locs → W p l e R s m args below meth cd H locs n1 z1 Q (F0 m pc sl []))
    (hEX : ∀ ix, ins = .new ix → c ≠ 0 → av_ok8 st = true → r = (none, av_new h a 0) → ∀ (H : Heap) (locs : List Loc) (sl : Array Slot) (n1 z1 : Nat), n0 + n1 = h.1.length → z0 + z1 = av_sz cl h → av_RH D cl kA f B h H → va_S (fun q => B ≤ q) s.heap H locs → sl.size = nL → W p l e R s m args below meth cd H locs n1 z1 Q (F0 m pc sl (st.map (av_vl f))))
    (hh : av_ins X call rb next ins a b c d zi zl ts i ls st h = some r) : av_AT (fun H locs n z g => W p l e R s m args below meth cd H locs n z Q g) (av_RH D cl kA f B) (av_sz cl) s.heap B nL n0 z0 f m pcOf i ls st h := by
  intro H locs sl n1 z1 e1 e2 hR hS hl
  show W p l e R s m args below meth cd H locs n1 z1 Q (F0 m (pcOf i) sl (st.map (av_vl f)))
  rw [hpc]
  unfold av_ins at hh
  split at hh
  · simp only [av_ck2, Bool.and_eq_true, decide_eq_true_eq] at hc
    obtain ⟨⟨rfl, hnx⟩, hz⟩ := hc
    have k := hn _ _ _ _ hh H locs sl n1 z1 e1 e2 hR hS hl
    rw [hnx] at k
    exact lv_iconst hx hb hd hz k
  · simp only [av_ck2, Bool.and_eq_true, decide_eq_true_eq] at hc
    obtain ⟨⟨rfl, hnx⟩, hz⟩ := hc
    have k := hn _ _ _ _ hh H locs sl n1 z1 e1 e2 hR hS hl
    rw [hnx] at k
    exact lv_bipush hx hb hd hz k
  · simp only [av_ck2, Bool.and_eq_true, decide_eq_true_eq] at hc
    obtain ⟨⟨rfl, hnx⟩, hz⟩ := hc
    have k := hn _ _ _ _ hh H locs sl n1 z1 e1 e2 hR hS hl
    rw [hnx] at k
    exact lv_sipush hx hb hd hz k
  · simp only [av_ck2, Bool.and_eq_true, decide_eq_true_eq] at hc
    obtain ⟨⟨rfl, hnx⟩, hz⟩ := hc
    split at hh
    · have k := hn _ _ _ _ hh H locs sl n1 z1 e1 e2 hR hS hl
      rw [hnx] at k
      exact lv_ldc hx hb hown (hts _ (hKF.2.2.1 _ _ _ (List.contains_iff_mem.mp hz))) hd k
    · have k := hn _ _ _ _ hh H locs sl n1 z1 e1 e2 hR hS hl
      rw [hnx] at k
      rename_i hc0
      cases c with
      | zero => exact absurd rfl hc0
      | succ c =>
        simp only at hz
        obtain ⟨tx, hv⟩ := hXF.2.1 _ _ _ (List.contains_iff_mem.mp hz)
        exact va_ldcS hx hb hown hv hd k
  · simp only [av_ck2, Bool.and_eq_true, decide_eq_true_eq] at hc
    obtain ⟨⟨rfl, hnx⟩, hz⟩ := hc
    have k := hn _ _ _ _ hh H locs sl n1 z1 e1 e2 hR hS hl
    rw [hnx] at k
    exact lv_ldcw hx hb hown (hts _ (hKF.2.2.1 _ _ _ (List.contains_iff_mem.mp hz))) hd k
  · simp only [av_ck2, Bool.and_eq_true, decide_eq_true_eq] at hc
    obtain ⟨⟨rfl, hnx⟩, hz⟩ := hc
    have k := hn _ _ _ _ hh H locs sl n1 z1 e1 e2 hR hS hl
    rw [hnx] at k
    exact lv_lconst hx hb hd hz k
  · simp only [av_ck2, Bool.and_eq_true, decide_eq_true_eq] at hc
    obtain ⟨⟨rfl, hnx⟩, hz⟩ := hc
    have k := hn _ _ _ _ hh H locs sl n1 z1 e1 e2 hR hS hl
    rw [hnx] at k
    exact lv_ldc2 hx hb hown (hts _ (hKF.2.2.2.1 _ _ _ (List.contains_iff_mem.mp hz))) hd k
  · simp only [av_ck2, Bool.and_eq_true, decide_eq_true_eq] at hc
    obtain ⟨⟨rfl, hnx⟩, hz⟩ := hc
    have k := hn _ _ _ _ hh H locs sl n1 z1 e1 e2 hR hS hl
    rw [hnx] at k
    obtain ⟨C, nm, dd, hZ, hw⟩ := hXF.2.2.1 _ _ _ (List.contains_iff_mem.mp hz)
    exact va_gets hx hb hZ hS hown (hts _ hw) (fun _ h => h) hd k
  · simp only [av_ck2, Bool.and_eq_true, decide_eq_true_eq] at hc
    obtain ⟨rfl, hnx⟩ := hc
    split at hh
    · rename_i hg
      have k := hn _ _ _ _ hh H locs sl n1 z1 e1 e2 hR hS hl
      rw [hnx] at k
      exact lv_iload hx hb hd (av_loc hl hg) k
    all_goals cases hh
  · simp only [av_ck2, Bool.and_eq_true, decide_eq_true_eq] at hc
    obtain ⟨rfl, hnx⟩ := hc
    split at hh
    · rename_i hg
      have k := hn _ _ _ _ hh H locs sl n1 z1 e1 e2 hR hS hl
      rw [hnx] at k
      exact lv_iload_n hx hb hd rfl (av_loc hl hg) k
    all_goals cases hh
  · simp only [av_ck2, Bool.and_eq_true, decide_eq_true_eq] at hc
    obtain ⟨rfl, hnx⟩ := hc
    split at hh
    · rename_i hg
      have k := hn _ _ _ _ hh H locs sl n1 z1 e1 e2 hR hS hl
      rw [hnx] at k
      exact lv_lload hx hb hd (av_loc hl hg) k
    all_goals cases hh
  · simp only [av_ck2, Bool.and_eq_true, decide_eq_true_eq] at hc
    obtain ⟨rfl, hnx⟩ := hc
    split at hh
    · rename_i hg
      have k := hn _ _ _ _ hh H locs sl n1 z1 e1 e2 hR hS hl
      rw [hnx] at k
      exact lv_lload_n hx hb hd rfl (av_loc hl hg) k
    all_goals cases hh
  · simp only [av_ck2, Bool.and_eq_true, decide_eq_true_eq] at hc
    obtain ⟨rfl, hnx⟩ := hc
    split at hh
    · rename_i x hg
      have k := hn _ _ _ _ hh H locs sl n1 z1 e1 e2 hR hS hl
      rw [hnx] at k
      cases x with
      | none => exact lv_aloadN hx hb hd (av_loc hl hg) k
      | some x => exact lv_aload hx hb hd (av_loc hl hg) k
    all_goals cases hh
  · simp only [av_ck2, Bool.and_eq_true, decide_eq_true_eq] at hc
    obtain ⟨rfl, hnx⟩ := hc
    split at hh
    · rename_i x hg
      have k := hn _ _ _ _ hh H locs sl n1 z1 e1 e2 hR hS hl
      rw [hnx] at k
      cases x with
      | none => exact lv_aload_nN hx hb hd rfl (av_loc hl hg) k
      | some x => exact lv_aload_n hx hb hd rfl (av_loc hl hg) k
    all_goals cases hh
  · simp only [av_ck2, Bool.and_eq_true, decide_eq_true_eq] at hc
    obtain ⟨⟨rfl, hnx⟩, hz⟩ := hc
    split at hh
    · refine lv_istore hx hb hd hl hz (av_set_lm f ls _ (.inl _)) (fun sl2 hl2 => ?_)
      have k := hn _ _ _ _ hh H locs sl2 n1 z1 e1 e2 hR hS hl2
      rw [hnx] at k
      exact k
    all_goals cases hh
  · simp only [av_ck2, Bool.and_eq_true, decide_eq_true_eq] at hc
    obtain ⟨⟨rfl, hnx⟩, hz⟩ := hc
    split at hh
    · refine lv_istore_n hx hb hd rfl hl hz (av_set_lm f ls _ (.inl _)) (fun sl2 hl2 => ?_)
      have k := hn _ _ _ _ hh H locs sl2 n1 z1 e1 e2 hR hS hl2
      rw [hnx] at k
      exact k
    all_goals cases hh
  · simp only [av_ck2, Bool.and_eq_true, decide_eq_true_eq] at hc
    obtain ⟨⟨rfl, hnx⟩, hz⟩ := hc
    split at hh
    · refine lv_lstore hx hb hd hl hz (av_set2_lm f ls _ (.inr (.inl _))) (fun sl2 hl2 => ?_)
      have k := hn _ _ _ _ hh H locs sl2 n1 z1 e1 e2 hR hS hl2
      rw [hnx] at k
      exact k
    all_goals cases hh
  · simp only [av_ck2, Bool.and_eq_true, decide_eq_true_eq] at hc
    obtain ⟨⟨rfl, hnx⟩, hz⟩ := hc
    split at hh
    · refine lv_lstore_n hx hb hd rfl hl hz (av_set2_lm f ls _ (.inr (.inl _))) (fun sl2 hl2 => ?_)
      have k := hn _ _ _ _ hh H locs sl2 n1 z1 e1 e2 hR hS hl2
      rw [hnx] at k
      exact k
    all_goals cases hh
  · simp only [av_ck2, Bool.and_eq_true, decide_eq_true_eq] at hc
    obtain ⟨⟨rfl, hnx⟩, hz⟩ := hc
    split at hh
    · rename_i x t
      cases x with
      | none =>
        refine lv_astoreN hx hb hd hl hz (av_set_lm f ls _ (.inr (.inr none))) (fun sl2 hl2 => ?_)
        have k := hn _ _ _ _ hh H locs sl2 n1 z1 e1 e2 hR hS hl2
        rw [hnx] at k
        exact k
      | some x =>
        refine lv_astore hx hb hd hl hz (av_set_lm f ls _ (.inr (.inr (some x)))) (fun sl2 hl2 => ?_)
        have k := hn _ _ _ _ hh H locs sl2 n1 z1 e1 e2 hR hS hl2
        rw [hnx] at k
        exact k
    all_goals cases hh
  · simp only [av_ck2, Bool.and_eq_true, decide_eq_true_eq] at hc
    obtain ⟨⟨rfl, hnx⟩, hz⟩ := hc
    split at hh
    · rename_i x t
      cases x with
      | none =>
        refine lv_astore_nN hx hb hd rfl hl hz (av_set_lm f ls _ (.inr (.inr none))) (fun sl2 hl2 => ?_)
        have k := hn _ _ _ _ hh H locs sl2 n1 z1 e1 e2 hR hS hl2
        rw [hnx] at k
        exact k
      | some x =>
        refine lv_astore_n hx hb hd rfl hl hz (av_set_lm f ls _ (.inr (.inr (some x)))) (fun sl2 hl2 => ?_)
        have k := hn _ _ _ _ hh H locs sl2 n1 z1 e1 e2 hR hS hl2
        rw [hnx] at k
        exact k
    all_goals cases hh
  · simp only [av_ck2, Bool.and_eq_true, decide_eq_true_eq] at hc
    obtain ⟨⟨⟨rfl, hnx⟩, hz⟩, hz2⟩ := hc
    split at hh
    · rename_i x hg
      obtain ⟨k0, hk0⟩ := av_locE (f := f) hg
      refine lv_iinc hx hb hd hl hk0 (by rw [hz2]) hz (av_set_lm f ls _ (.inl _)) (fun sl2 hl2 => ?_)
      have k := hn _ _ _ _ hh H locs sl2 n1 z1 e1 e2 hR hS hl2
      rw [hnx] at k
      exact k
    all_goals cases hh
  · simp only [av_ck2, Bool.and_eq_true, decide_eq_true_eq] at hc
    obtain ⟨rfl, hnx⟩ := hc
    split at hh
    · have k := hn _ _ _ _ hh H locs sl n1 z1 e1 e2 hR hS hl
      rw [hnx] at k
      exact lv_iadd hx hb hd k
    all_goals cases hh
  · simp only [av_ck2, Bool.and_eq_true, decide_eq_true_eq] at hc
    obtain ⟨rfl, hnx⟩ := hc
    split at hh
    · have k := hn _ _ _ _ hh H locs sl n1 z1 e1 e2 hR hS hl
      rw [hnx] at k
      exact lv_isub hx hb hd k
    all_goals cases hh
  · simp only [av_ck2, Bool.and_eq_true, decide_eq_true_eq] at hc
    obtain ⟨rfl, hnx⟩ := hc
    split at hh
    · have k := hn _ _ _ _ hh H locs sl n1 z1 e1 e2 hR hS hl
      rw [hnx] at k
      exact lv_imul hx hb hd k
    all_goals cases hh
  · simp only [av_ck2, Bool.and_eq_true, decide_eq_true_eq] at hc
    obtain ⟨rfl, hnx⟩ := hc
    split at hh
    · have k := hn _ _ _ _ hh H locs sl n1 z1 e1 e2 hR hS hl
      rw [hnx] at k
      exact lv_iand hx hb hd k
    all_goals cases hh
  · simp only [av_ck2, Bool.and_eq_true, decide_eq_true_eq] at hc
    obtain ⟨rfl, hnx⟩ := hc
    split at hh
    · have k := hn _ _ _ _ hh H locs sl n1 z1 e1 e2 hR hS hl
      rw [hnx] at k
      exact lv_ior hx hb hd k
    all_goals cases hh
  · simp only [av_ck2, Bool.and_eq_true, decide_eq_true_eq] at hc
    obtain ⟨rfl, hnx⟩ := hc
    split at hh
    · have k := hn _ _ _ _ hh H locs sl n1 z1 e1 e2 hR hS hl
      rw [hnx] at k
      exact lv_ixor hx hb hd k
    all_goals cases hh
  · simp only [av_ck2, Bool.and_eq_true, decide_eq_true_eq] at hc
    obtain ⟨rfl, hnx⟩ := hc
    split at hh
    · have k := hn _ _ _ _ hh H locs sl n1 z1 e1 e2 hR hS hl
      rw [hnx] at k
      exact lv_ishl hx hb hd k
    all_goals cases hh
  · simp only [av_ck2, Bool.and_eq_true, decide_eq_true_eq] at hc
    obtain ⟨rfl, hnx⟩ := hc
    split at hh
    · have k := hn _ _ _ _ hh H locs sl n1 z1 e1 e2 hR hS hl
      rw [hnx] at k
      exact lv_ishr hx hb hd k
    all_goals cases hh
  · simp only [av_ck2, Bool.and_eq_true, decide_eq_true_eq] at hc
    obtain ⟨rfl, hnx⟩ := hc
    split at hh
    · have k := hn _ _ _ _ hh H locs sl n1 z1 e1 e2 hR hS hl
      rw [hnx] at k
      exact lv_iushr hx hb hd rfl k
    all_goals cases hh
  · simp only [av_ck2, Bool.and_eq_true, decide_eq_true_eq] at hc
    obtain ⟨rfl, hnx⟩ := hc
    split at hh
    · split at hh
      · cases hh
      · rename_i hne
        have k := hn _ _ _ _ hh H locs sl n1 z1 e1 e2 hR hS hl
        rw [hnx] at k
        exact lv_idiv hx hb hd hne k
    all_goals cases hh
  · simp only [av_ck2, Bool.and_eq_true, decide_eq_true_eq] at hc
    obtain ⟨rfl, hnx⟩ := hc
    split at hh
    · split at hh
      · cases hh
      · rename_i hne
        have k := hn _ _ _ _ hh H locs sl n1 z1 e1 e2 hR hS hl
        rw [hnx] at k
        exact lv_irem hx hb hd hne k
    all_goals cases hh
  · simp only [av_ck2, Bool.and_eq_true, decide_eq_true_eq] at hc
    obtain ⟨rfl, hnx⟩ := hc
    split at hh
    · have k := hn _ _ _ _ hh H locs sl n1 z1 e1 e2 hR hS hl
      rw [hnx] at k
      exact lv_ineg hx hb hd k
    all_goals cases hh
  · simp only [av_ck2, Bool.and_eq_true, decide_eq_true_eq] at hc
    obtain ⟨rfl, hnx⟩ := hc
    split at hh
    · have k := hn _ _ _ _ hh H locs sl n1 z1 e1 e2 hR hS hl
      rw [hnx] at k
      exact lv_ladd hx hb hd k
    all_goals cases hh
  · simp only [av_ck2, Bool.and_eq_true, decide_eq_true_eq] at hc
    obtain ⟨rfl, hnx⟩ := hc
    split at hh
    · have k := hn _ _ _ _ hh H locs sl n1 z1 e1 e2 hR hS hl
      rw [hnx] at k
      exact lv_lsub hx hb hd k
    all_goals cases hh
  · simp only [av_ck2, Bool.and_eq_true, decide_eq_true_eq] at hc
    obtain ⟨rfl, hnx⟩ := hc
    split at hh
    · have k := hn _ _ _ _ hh H locs sl n1 z1 e1 e2 hR hS hl
      rw [hnx] at k
      exact lv_lmul hx hb hd k
    all_goals cases hh
  · simp only [av_ck2, Bool.and_eq_true, decide_eq_true_eq] at hc
    obtain ⟨rfl, hnx⟩ := hc
    split at hh
    · have k := hn _ _ _ _ hh H locs sl n1 z1 e1 e2 hR hS hl
      rw [hnx] at k
      exact lv_land hx hb hd k
    all_goals cases hh
  · simp only [av_ck2, Bool.and_eq_true, decide_eq_true_eq] at hc
    obtain ⟨rfl, hnx⟩ := hc
    split at hh
    · have k := hn _ _ _ _ hh H locs sl n1 z1 e1 e2 hR hS hl
      rw [hnx] at k
      exact lv_lor hx hb hd k
    all_goals cases hh
  · simp only [av_ck2, Bool.and_eq_true, decide_eq_true_eq] at hc
    obtain ⟨rfl, hnx⟩ := hc
    split at hh
    · have k := hn _ _ _ _ hh H locs sl n1 z1 e1 e2 hR hS hl
      rw [hnx] at k
      exact lv_lxor hx hb hd k
    all_goals cases hh
  · simp only [av_ck2, Bool.and_eq_true, decide_eq_true_eq] at hc
    obtain ⟨rfl, hnx⟩ := hc
    split at hh
    · split at hh
      · cases hh
      · rename_i hne
        have k := hn _ _ _ _ hh H locs sl n1 z1 e1 e2 hR hS hl
        rw [hnx] at k
        exact lv_ldiv hx hb hd hne k
    all_goals cases hh
  · simp only [av_ck2, Bool.and_eq_true, decide_eq_true_eq] at hc
    obtain ⟨rfl, hnx⟩ := hc
    split at hh
    · split at hh
      · cases hh
      · rename_i hne
        have k := hn _ _ _ _ hh H locs sl n1 z1 e1 e2 hR hS hl
        rw [hnx] at k
        exact lv_lrem hx hb hd hne k
    all_goals cases hh
  · simp only [av_ck2, Bool.and_eq_true, decide_eq_true_eq] at hc
    obtain ⟨rfl, hnx⟩ := hc
    split at hh
    · have k := hn _ _ _ _ hh H locs sl n1 z1 e1 e2 hR hS hl
      rw [hnx] at k
      exact lv_lshl hx hb hd rfl k
    all_goals cases hh
  · simp only [av_ck2, Bool.and_eq_true, decide_eq_true_eq] at hc
    obtain ⟨rfl, hnx⟩ := hc
    split at hh
    · have k := hn _ _ _ _ hh H locs sl n1 z1 e1 e2 hR hS hl
      rw [hnx] at k
      exact lv_lshr hx hb hd rfl k
    all_goals cases hh
  · simp only [av_ck2, Bool.and_eq_true, decide_eq_true_eq] at hc
    obtain ⟨rfl, hnx⟩ := hc
    split at hh
    · have k := hn _ _ _ _ hh H locs sl n1 z1 e1 e2 hR hS hl
      rw [hnx] at k
      exact lv_lushr hx hb hd rfl k
    all_goals cases hh
  · simp only [av_ck2, Bool.and_eq_true, decide_eq_true_eq] at hc
    obtain ⟨rfl, hnx⟩ := hc
    split at hh
    · have k := hn _ _ _ _ hh H locs sl n1 z1 e1 e2 hR hS hl
      rw [hnx] at k
      exact W.lcmp hx hb hd k
    all_goals cases hh
  · simp only [av_ck2, Bool.and_eq_true, decide_eq_true_eq] at hc
    obtain ⟨rfl, hnx⟩ := hc
    split at hh
    · have k := hn _ _ _ _ hh H locs sl n1 z1 e1 e2 hR hS hl
      rw [hnx] at k
      exact lv_i2l hx hb hd rfl k
    all_goals cases hh
  · simp only [av_ck2, Bool.and_eq_true, decide_eq_true_eq] at hc
    obtain ⟨rfl, hnx⟩ := hc
    split at hh
    · have k := hn _ _ _ _ hh H locs sl n1 z1 e1 e2 hR hS hl
      rw [hnx] at k
      exact lv_l2i hx hb hd rfl k
    all_goals cases hh
  · simp only [av_ck2, Bool.and_eq_true, decide_eq_true_eq] at hc
    obtain ⟨rfl, hnx⟩ := hc
    split at hh
    · have k := hn _ _ _ _ hh H locs sl n1 z1 e1 e2 hR hS hl
      rw [hnx] at k
      exact lv_i2c hx hb hd rfl k
    all_goals cases hh
  · simp only [av_ck2, Bool.and_eq_true, decide_eq_true_eq] at hc
    obtain ⟨rfl, hnx⟩ := hc
    split at hh
    · have k := hn _ _ _ _ hh H locs sl n1 z1 e1 e2 hR hS hl
      rw [hnx] at k
      exact lv_dup hx hb hd rfl k
    · have k := hn _ _ _ _ hh H locs sl n1 z1 e1 e2 hR hS hl
      rw [hnx] at k
      exact lv_dup hx hb hd (av_rf_cat _) k
    all_goals cases hh
  · simp only [av_ck2, Bool.and_eq_true, decide_eq_true_eq] at hc
    obtain ⟨rfl, hnx⟩ := hc
    split at hh
    · have k := hn _ _ _ _ hh H locs sl n1 z1 e1 e2 hR hS hl
      rw [hnx] at k
      exact lv_dup2_11 hx hb hd rfl (av_rf_cat _) k
    all_goals cases hh
  · simp only [av_ck2, Bool.and_eq_true, decide_eq_true_eq] at hc
    obtain ⟨rfl, hnx⟩ := hc
    split at hh
    · have k := hn _ _ _ _ hh H locs sl n1 z1 e1 e2 hR hS hl
      rw [hnx] at k
      exact lv_pop hx hb hd rfl k
    · have k := hn _ _ _ _ hh H locs sl n1 z1 e1 e2 hR hS hl
      rw [hnx] at k
      exact lv_pop hx hb hd (av_rf_cat _) k
    all_goals cases hh
  · simp only [av_ck2, Bool.and_eq_true, decide_eq_true_eq] at hc
    obtain ⟨⟨rfl, hnx⟩, hz⟩ := hc
    split at hh
    · refine lv_if_eq hx hb hd hz (fun q => ?_) (fun q => ?_)
      · rw [if_pos (q)] at hh
        have k := hn _ _ _ _ hh H locs sl n1 z1 e1 e2 hR hS hl
        exact k
      · rw [if_neg (q)] at hh
        have k := hn _ _ _ _ hh H locs sl n1 z1 e1 e2 hR hS hl
        rw [hnx] at k
        exact k
    all_goals cases hh
  · simp only [av_ck2, Bool.and_eq_true, decide_eq_true_eq] at hc
    obtain ⟨⟨rfl, hnx⟩, hz⟩ := hc
    split at hh
    · refine lv_if_ne hx hb hd hz (fun q => ?_) (fun q => ?_)
      · rw [if_neg (q)] at hh
        have k := hn _ _ _ _ hh H locs sl n1 z1 e1 e2 hR hS hl
        exact k
      · rw [if_pos (q)] at hh
        have k := hn _ _ _ _ hh H locs sl n1 z1 e1 e2 hR hS hl
        rw [hnx] at k
        exact k
    all_goals cases hh
  · simp only [av_ck2, Bool.and_eq_true, decide_eq_true_eq] at hc
    obtain ⟨⟨rfl, hnx⟩, hz⟩ := hc
    split at hh
    · refine lv_if_lt hx hb hd hz (fun q => ?_) (fun q => ?_)
      · rw [if_pos (q)] at hh
        have k := hn _ _ _ _ hh H locs sl n1 z1 e1 e2 hR hS hl
        exact k
      · rw [if_neg (q)] at hh
        have k := hn _ _ _ _ hh H locs sl n1 z1 e1 e2 hR hS hl
        rw [hnx] at k
        exact k
    all_goals cases hh
  · simp only [av_ck2, Bool.and_eq_true, decide_eq_true_eq] at hc
    obtain ⟨⟨rfl, hnx⟩, hz⟩ := hc
    split at hh
    · refine lv_if_ge hx hb hd hz (fun q => ?_) (fun q => ?_)
      · rw [if_neg (Int32.not_lt.mpr q)] at hh
        have k := hn _ _ _ _ hh H locs sl n1 z1 e1 e2 hR hS hl
        exact k
      · rw [if_pos (Int32.not_le.mp q)] at hh
        have k := hn _ _ _ _ hh H locs sl n1 z1 e1 e2 hR hS hl
        rw [hnx] at k
        exact k
    all_goals cases hh
  · simp only [av_ck2, Bool.and_eq_true, decide_eq_true_eq] at hc
    obtain ⟨⟨rfl, hnx⟩, hz⟩ := hc
    split at hh
    · refine lv_if_gt hx hb hd hz (fun q => ?_) (fun q => ?_)
      · rw [if_pos (q)] at hh
        have k := hn _ _ _ _ hh H locs sl n1 z1 e1 e2 hR hS hl
        exact k
      · rw [if_neg (q)] at hh
        have k := hn _ _ _ _ hh H locs sl n1 z1 e1 e2 hR hS hl
        rw [hnx] at k
        exact k
    all_goals cases hh
  · simp only [av_ck2, Bool.and_eq_true, decide_eq_true_eq] at hc
    obtain ⟨⟨rfl, hnx⟩, hz⟩ := hc
    split at hh
    · refine lv_if_le hx hb hd hz (fun q => ?_) (fun q => ?_)
      · rw [if_neg (Int32.not_lt.mpr q)] at hh
        have k := hn _ _ _ _ hh H locs sl n1 z1 e1 e2 hR hS hl
        exact k
      · rw [if_pos (Int32.not_le.mp q)] at hh
        have k := hn _ _ _ _ hh H locs sl n1 z1 e1 e2 hR hS hl
        rw [hnx] at k
        exact k
    all_goals cases hh
  · simp only [av_ck2, Bool.and_eq_true, decide_eq_true_eq] at hc
    obtain ⟨⟨rfl, hnx⟩, hz⟩ := hc
    split at hh
    · refine lv_icmp_eq hx hb hd hz (fun q => ?_) (fun q => ?_)
      · rw [if_pos (q)] at hh
        have k := hn _ _ _ _ hh H locs sl n1 z1 e1 e2 hR hS hl
        exact k
      · rw [if_neg (q)] at hh
        have k := hn _ _ _ _ hh H locs sl n1 z1 e1 e2 hR hS hl
        rw [hnx] at k
        exact k
    all_goals cases hh
  · simp only [av_ck2, Bool.and_eq_true, decide_eq_true_eq] at hc
    obtain ⟨⟨rfl, hnx⟩, hz⟩ := hc
    split at hh
    · refine lv_icmp_ne hx hb hd hz (fun q => ?_) (fun q => ?_)
      · rw [if_neg (q)] at hh
        have k := hn _ _ _ _ hh H locs sl n1 z1 e1 e2 hR hS hl
        exact k
      · rw [if_pos (q)] at hh
        have k := hn _ _ _ _ hh H locs sl n1 z1 e1 e2 hR hS hl
        rw [hnx] at k
        exact k
    all_goals cases hh
  · simp only [av_ck2, Bool.and_eq_true, decide_eq_true_eq] at hc
    obtain ⟨⟨rfl, hnx⟩, hz⟩ := hc
    split at hh
    · refine lv_icmp_lt hx hb hd hz (fun q => ?_) (fun q => ?_)
      · rw [if_pos (q)] at hh
        have k := hn _ _ _ _ hh H locs sl n1 z1 e1 e2 hR hS hl
        exact k
      · rw [if_neg (q)] at hh
        have k := hn _ _ _ _ hh H locs sl n1 z1 e1 e2 hR hS hl
        rw [hnx] at k
        exact k
    all_goals cases hh
  · simp only [av_ck2, Bool.and_eq_true, decide_eq_true_eq] at hc
    obtain ⟨⟨rfl, hnx⟩, hz⟩ := hc
    split at hh
    · refine lv_icmp_ge hx hb hd hz (fun q => ?_) (fun q => ?_)
      · rw [if_neg (Int32.not_lt.mpr q)] at hh
        have k := hn _ _ _ _ hh H locs sl n1 z1 e1 e2 hR hS hl
        exact k
      · rw [if_pos (Int32.not_le.mp q)] at hh
        have k := hn _ _ _ _ hh H locs sl n1 z1 e1 e2 hR hS hl
        rw [hnx] at k
        exact k
    all_goals cases hh
  · simp only [av_ck2, Bool.and_eq_true, decide_eq_true_eq] at hc
    obtain ⟨⟨rfl, hnx⟩, hz⟩ := hc
    split at hh
    · refine lv_icmp_gt hx hb hd hz (fun q => ?_) (fun q => ?_)
      · rw [if_pos (q)] at hh
        have k := hn _ _ _ _ hh H locs sl n1 z1 e1 e2 hR hS hl
        exact k
      · rw [if_neg (q)] at hh
        have k := hn _ _ _ _ hh H locs sl n1 z1 e1 e2 hR hS hl
        rw [hnx] at k
        exact k
    all_goals cases hh
  · simp only [av_ck2, Bool.and_eq_true, decide_eq_true_eq] at hc
    obtain ⟨⟨rfl, hnx⟩, hz⟩ := hc
    split at hh
    · refine lv_icmp_le hx hb hd hz (fun q => ?_) (fun q => ?_)
      · rw [if_neg (Int32.not_lt.mpr q)] at hh
        have k := hn _ _ _ _ hh H locs sl n1 z1 e1 e2 hR hS hl
        exact k
      · rw [if_pos (Int32.not_le.mp q)] at hh
        have k := hn _ _ _ _ hh H locs sl n1 z1 e1 e2 hR hS hl
        rw [hnx] at k
        exact k
    all_goals cases hh
  · simp only [av_ck2, Bool.and_eq_true, decide_eq_true_eq] at hc
    obtain ⟨⟨rfl, hnx⟩, hz⟩ := hc
    split at hh
    · rename_i x t
      cases x with
      | none =>
        simp only [Option.isNone] at hh
        have k := hn _ _ _ _ (by simpa using hh) H locs sl n1 z1 e1 e2 hR hS hl
        exact lv_ifnullN hx hb hd hz k
      | some x =>
        simp only [Option.isNone] at hh
        have k := hn _ _ _ _ (by simpa using hh) H locs sl n1 z1 e1 e2 hR hS hl
        rw [hnx] at k
        exact lv_ifnull hx hb hd k
    all_goals cases hh
  · simp only [av_ck2, Bool.and_eq_true, decide_eq_true_eq] at hc
    obtain ⟨⟨rfl, hnx⟩, hz⟩ := hc
    split at hh
    · rename_i x t
      cases x with
      | none =>
        simp only [Option.isNone] at hh
        have k := hn _ _ _ _ (by simpa using hh) H locs sl n1 z1 e1 e2 hR hS hl
        rw [hnx] at k
        exact lv_ifnonnullN hx hb hd k
      | some x =>
        simp only [Option.isNone] at hh
        have k := hn _ _ _ _ (by simpa using hh) H locs sl n1 z1 e1 e2 hR hS hl
        exact lv_ifnonnull hx hb hd hz k
    all_goals cases hh
  · simp only [av_ck2, Bool.and_eq_true, decide_eq_true_eq] at hc
    obtain ⟨rfl, hz⟩ := hc
    have k := hn _ _ _ _ hh H locs sl n1 z1 e1 e2 hR hS hl
    exact lv_goto hx hb hd hz k
  · simp only [av_ck2, Bool.and_eq_true, decide_eq_true_eq] at hc
    obtain ⟨⟨hz, hz2⟩, hz3⟩ := hc
    split at hh
    · rcases av_sw_some hh with ⟨q, hq, hxq, hk⟩ | ⟨hq, hk⟩
      · have k := hn _ _ _ _ hk H locs sl n1 z1 e1 e2 hR hS hl
        obtain ⟨j, off, g1, g2, g3, g4⟩ := av_swk_in hz3 q hq
        rw [Array.length_toList] at g4
        rw [Array.getElem?_toList] at g2
        refine lv_tableIn (off := off) hx hb hd (by rw [hxq, g1]; omega) (by rw [hxq, g1, hz2]; omega) (by rw [hxq, g1]; rw [show (_ + (j : Int) - _ : Int).toNat = j by omega]; exact g2) g3 k
      · have k := hn _ _ _ _ hk H locs sl n1 z1 e1 e2 hR hS hl
        refine lv_tableOut hx hb hd ?_ hz k
        rw [hz2]
        have := av_swk_all hz3 hq
        rw [Array.length_toList] at this
        exact this
    all_goals cases hh
  · simp only [av_ck2, Bool.and_eq_true, decide_eq_true_eq] at hc
    obtain ⟨⟨hz, hz2⟩, hz3⟩ := hc
    split at hh
    · obtain ⟨t2, hk, ht⟩ := av_lwk_sw hz hz3 hh
      have k := hn _ _ _ _ hk H locs sl n1 z1 e1 e2 hR hS hl
      exact lv_lookup hx hb hd hz2 rfl ht k
    all_goals cases hh
  · simp only [av_ck2, Bool.and_eq_true, decide_eq_true_eq] at hc
    obtain ⟨⟨rfl, hnx⟩, hzA⟩ := hc
    obtain ⟨q, hq, hz⟩ := List.any_eq_true.mp hzA
    clear hzA
    obtain ⟨qo, qn, qa, qb, kc, fi⟩ := q
    simp only [Bool.and_eq_true, Bool.or_eq_true, decide_eq_true_eq] at hz
    obtain ⟨⟨⟨⟨rfl, rfl⟩, rfl⟩, rfl⟩, rfl⟩ := hz
    obtain ⟨C, T, N, hC, hk, hw, hkc, hfi⟩ := hKF.2.1 _ _ _ _ _ _ hq
    obtain ⟨hc12, hin, hty, hnm, -, -, hON, hT⟩ := hKF.1 _ C T N hC
    split at hh
    · rename_i r0 t
      have hkd : av_kd (T qb).2.2.1 = (if kc = 3 then 0 else kc) := by
        rcases hkc with ⟨rfl, w, -⟩ | ⟨rfl, w, -⟩ | ⟨rfl, w, -⟩ | ⟨rfl, w, -⟩
        · rw [w]; rfl
        · rw [w]; rfl
        · rw [w]; rfl
        · rw [w]; rfl
      generalize hcc : (if kc = 3 then 0 else kc) = c at hh hkd
      split at hh
      · unfold av_gL at hh
        obtain ⟨v, g1, g2⟩ := Option.bind_eq_some_iff.mp hh
        split at g1
        · rename_i his
          cases g1
          obtain ⟨x, n, rfl, hx1⟩ := av_is_some his
          have hx2 : x < h.1.length := (List.getElem?_eq_some_iff.mp hx1).1
          have hfx : f x = B + x := hf x (by have := hR.2.1; omega)
          obtain ⟨ws, q0, hP, hD, he, -, hset⟩ := hR.at hx1 (by omega)
          rw [av_ce_obj hx1 hC, ← hfx] at he
          have k := hn _ _ _ _ g2 H locs sl n1 z1 e1 e2 hR hS hl
          rw [hnx] at k
          exact va_get hx hb hts hin hown hK hP q0 he hC _ hk (hts _ hw) (fun y hy => by rw [← (hT _ hk).1]; exact hy) (by rw [av_fv_get hk]; simp only [av_fv, hkd]; rfl) hd k
        · cases g1
      · unfold av_gR at hh
        obtain ⟨v, g1, g2⟩ := Option.bind_eq_some_iff.mp hh
        split at g1
        · rename_i his
          cases g1
          obtain ⟨x, n, rfl, hx1⟩ := av_is_some his
          have hx2 : x < h.1.length := (List.getElem?_eq_some_iff.mp hx1).1
          have hfx : f x = B + x := hf x (by have := hR.2.1; omega)
          obtain ⟨ws, q0, hP, hD, he, -, hset⟩ := hR.at hx1 (by omega)
          rw [av_ce_obj hx1 hC, ← hfx] at he
          have k := hn _ _ _ _ g2 H locs sl n1 z1 e1 e2 hR hS hl
          rw [hnx] at k
          exact va_get hx hb hts hin hown hK hP q0 he hC _ hk (hts _ hw) (fun y hy => by rw [← (hT _ hk).1]; exact hy) (by rw [av_fv_get hk]; simp only [av_fv, hkd]; rfl) hd k
        · cases g1
      · have hkd0 : av_kd (T qb).2.2.1 = 0 := by
          rename_i n1 n2
          rcases hkc with ⟨rfl, -⟩ | ⟨rfl, -⟩ | ⟨rfl, -⟩ | ⟨rfl, -⟩ <;> simp at hcc <;> subst hcc
          · exact hkd
          · exact absurd rfl n1
          · exact absurd rfl n2
          · exact hkd
        unfold av_gI at hh
        obtain ⟨v, g1, g2⟩ := Option.bind_eq_some_iff.mp hh
        split at g1
        · rename_i his
          cases g1
          obtain ⟨x, n, rfl, hx1⟩ := av_is_some his
          have hx2 : x < h.1.length := (List.getElem?_eq_some_iff.mp hx1).1
          have hfx : f x = B + x := hf x (by have := hR.2.1; omega)
          obtain ⟨ws, q0, hP, hD, he, -, hset⟩ := hR.at hx1 (by omega)
          rw [av_ce_obj hx1 hC, ← hfx] at he
          have k := hn _ _ _ _ g2 H locs sl n1 z1 e1 e2 hR hS hl
          rw [hnx] at k
          exact va_get hx hb hts hin hown hK hP q0 he hC _ hk (hts _ hw) (fun y hy => by rw [← (hT _ hk).1]; exact hy) (by rw [av_fv_get hk]; simp only [av_fv, hkd0]; rfl) hd k
        · cases g1
    all_goals cases hh
  · simp only [av_ck2, Bool.and_eq_true, decide_eq_true_eq] at hc
    obtain ⟨⟨rfl, hnx⟩, hzA⟩ := hc
    obtain ⟨q, hq, hz⟩ := List.any_eq_true.mp hzA
    clear hzA
    obtain ⟨qo, qn, qa, qb, kc, fi⟩ := q
    simp only [Bool.and_eq_true, Bool.or_eq_true, decide_eq_true_eq] at hz
    obtain ⟨⟨⟨⟨⟨rfl, rfl⟩, rfl⟩, rfl⟩, hz0⟩, hz1⟩ := hz
    obtain ⟨C, T, N, hC, hk, hw, hkc, hfi⟩ := hKF.2.1 _ _ _ _ _ _ hq
    obtain ⟨hc12, hin, hty, hnm, -, -, hON, hT⟩ := hKF.1 _ C T N hC
    split at hh
    · split at hh
      · rename_i v r0 t
        unfold av_pI at hh
        obtain ⟨g9, g1, g2⟩ := Option.bind_eq_some_iff.mp hh
        split at g1
        · rename_i his
          cases g1
          have hkk : av_kd (T qb).2.2.1 = 0 ∧ ty qa qb = .int := by
            rcases hkc with ⟨w0, w, w2⟩ | ⟨w0, w, w2⟩ | ⟨w0, w, w2⟩ | ⟨w0, w, w2⟩ <;> first | exact ⟨by rw [w]; rfl, w2⟩ | omega
          obtain ⟨x, n, rfl, hx1⟩ := av_is_some his
          have hx2 : x < h.1.length := (List.getElem?_eq_some_iff.mp hx1).1
          have hfx : f x = B + x := hf x (by have := hR.2.1; omega)
          obtain ⟨ws, q0, hP, hD, he, -, hset⟩ := hR.at hx1 (by omega)
          rw [av_ce_obj hx1 hC, ← hfx] at he
          rcases hz1 with hz | hz
          · have hff : (T qb).2.2.2 = false := by rw [hfi, hz]; rfl
            refine va_put (H0 := H) hx hb hts hin (ty qa) hty hnm hown hK hP hD (av_S_self hS) q0 he hC qb hk (hts _ hw) (fun y hy => by rw [← (hT _ hk).1]; exact hy) hff (hty _ hk) (v := .int v) (by rw [hkk.2]; rfl) (by rw [hkk.2]; rfl) (by simp [hk]) hd (fun H1 locs1 hP1 hD1 hS1 => ?_)
            have hcE : av_ce cl kA f (av_uI h x qb v) x = .inr (qa, (List.range N).map (av_fv f T (av_uI h x qb v) x)) := av_ce_obj hx1 hC
            rw [hfx, av_fv_set (g := av_uI h x qb v) hk (by simp only [av_fv, hkk.1, av_uI]; simp [va_up, upd]) (fun j hj => by simp only [av_fv, av_uI]; simp [va_up, upd, hj]), ← hcE] at hP1 hD1
            have hR1 := hset (av_uI h x qb v) H1 rfl (fun y hy => av_uI_ce hy) hS1.1 hP1 hD1
            have k := hn _ _ _ _ g2 H1 locs1 sl n1 z1 e1 e2 hR1 (av_S_trans hS hS1) hl
            rw [hnx] at k
            exact k
          · by_cases hz0 : fi = 0
            · have hff : (T qb).2.2.2 = false := by rw [hfi, hz0]; rfl
              refine va_put (H0 := H) hx hb hts hin (ty qa) hty hnm hown hK hP hD (av_S_self hS) q0 he hC qb hk (hts _ hw) (fun y hy => by rw [← (hT _ hk).1]; exact hy) hff (hty _ hk) (v := .int v) (by rw [hkk.2]; rfl) (by rw [hkk.2]; rfl) (by simp [hk]) hd (fun H1 locs1 hP1 hD1 hS1 => ?_)
              have hcE : av_ce cl kA f (av_uI h x qb v) x = .inr (qa, (List.range N).map (av_fv f T (av_uI h x qb v) x)) := av_ce_obj hx1 hC
              rw [hfx, av_fv_set (g := av_uI h x qb v) hk (by simp only [av_fv, hkk.1, av_uI]; simp [va_up, upd]) (fun j hj => by simp only [av_fv, av_uI]; simp [va_up, upd, hj]), ← hcE] at hP1 hD1
              have hR1 := hset (av_uI h x qb v) H1 rfl (fun y hy => av_uI_ce hy) hS1.1 hP1 hD1
              have k := hn _ _ _ _ g2 H1 locs1 sl n1 z1 e1 e2 hR1 (av_S_trans hS hS1) hl
              rw [hnx] at k
              exact k
            · have hff : (T qb).2.2.2 = true := by rw [hfi]; simp [hz0]
              have hdecl : (T qb).1 = ON qo := by rw [(hT _ hk).1, ← hON, hz.2]
              refine va_putF (H0 := H) hx hb hts hin (ty qa) hty hnm hown hK hP hD (av_S_self hS) q0 he hC qb hk (hts _ hw) (fun y hy => by rw [← (hT _ hk).1]; exact hy) hff (hmi hz.1) hdecl (hty _ hk) (v := .int v) (by rw [hkk.2]; rfl) (by rw [hkk.2]; rfl) (by simp [hk]) hd (fun H1 locs1 hP1 hD1 hS1 => ?_)
              have hcE : av_ce cl kA f (av_uI h x qb v) x = .inr (qa, (List.range N).map (av_fv f T (av_uI h x qb v) x)) := av_ce_obj hx1 hC
              rw [hfx, av_fv_set (g := av_uI h x qb v) hk (by simp only [av_fv, hkk.1, av_uI]; simp [va_up, upd]) (fun j hj => by simp only [av_fv, av_uI]; simp [va_up, upd, hj]), ← hcE] at hP1 hD1
              have hR1 := hset (av_uI h x qb v) H1 rfl (fun y hy => av_uI_ce hy) hS1.1 hP1 hD1
              have k := hn _ _ _ _ g2 H1 locs1 sl n1 z1 e1 e2 hR1 (av_S_trans hS hS1) hl
              rw [hnx] at k
              exact k
        · cases g1
      all_goals cases hh
    · split at hh
      · rename_i v r0 t
        unfold av_pL at hh
        obtain ⟨g9, g1, g2⟩ := Option.bind_eq_some_iff.mp hh
        split at g1
        · rename_i his
          cases g1
          have hkk : av_kd (T qb).2.2.1 = 1 ∧ ty qa qb = .long := by
            rcases hkc with ⟨w0, w, w2⟩ | ⟨w0, w, w2⟩ | ⟨w0, w, w2⟩ | ⟨w0, w, w2⟩ <;> first | exact ⟨by rw [w]; rfl, w2⟩ | omega
          obtain ⟨x, n, rfl, hx1⟩ := av_is_some his
          have hx2 : x < h.1.length := (List.getElem?_eq_some_iff.mp hx1).1
          have hfx : f x = B + x := hf x (by have := hR.2.1; omega)
          obtain ⟨ws, q0, hP, hD, he, -, hset⟩ := hR.at hx1 (by omega)
          rw [av_ce_obj hx1 hC, ← hfx] at he
          rcases hz1 with hz | hz
          · have hff : (T qb).2.2.2 = false := by rw [hfi, hz]; rfl
            refine va_put (H0 := H) hx hb hts hin (ty qa) hty hnm hown hK hP hD (av_S_self hS) q0 he hC qb hk (hts _ hw) (fun y hy => by rw [← (hT _ hk).1]; exact hy) hff (hty _ hk) (v := .long v) (by rw [hkk.2]; rfl) (by rw [hkk.2]; rfl) (by simp [hk]) hd (fun H1 locs1 hP1 hD1 hS1 => ?_)
            have hcE : av_ce cl kA f (av_uL h x qb v) x = .inr (qa, (List.range N).map (av_fv f T (av_uL h x qb v) x)) := av_ce_obj hx1 hC
            rw [hfx, av_fv_set (g := av_uL h x qb v) hk (by simp only [av_fv, hkk.1, av_uL]; simp [va_up, vp_updL]) (fun j hj => by simp only [av_fv, av_uL]; simp [va_up, vp_updL, hj]), ← hcE] at hP1 hD1
            have hR1 := hset (av_uL h x qb v) H1 rfl (fun y hy => av_uL_ce hy) hS1.1 hP1 hD1
            have k := hn _ _ _ _ g2 H1 locs1 sl n1 z1 e1 e2 hR1 (av_S_trans hS hS1) hl
            rw [hnx] at k
            exact k
          · by_cases hz0 : fi = 0
            · have hff : (T qb).2.2.2 = false := by rw [hfi, hz0]; rfl
              refine va_put (H0 := H) hx hb hts hin (ty qa) hty hnm hown hK hP hD (av_S_self hS) q0 he hC qb hk (hts _ hw) (fun y hy => by rw [← (hT _ hk).1]; exact hy) hff (hty _ hk) (v := .long v) (by rw [hkk.2]; rfl) (by rw [hkk.2]; rfl) (by simp [hk]) hd (fun H1 locs1 hP1 hD1 hS1 => ?_)
              have hcE : av_ce cl kA f (av_uL h x qb v) x = .inr (qa, (List.range N).map (av_fv f T (av_uL h x qb v) x)) := av_ce_obj hx1 hC
              rw [hfx, av_fv_set (g := av_uL h x qb v) hk (by simp only [av_fv, hkk.1, av_uL]; simp [va_up, vp_updL]) (fun j hj => by simp only [av_fv, av_uL]; simp [va_up, vp_updL, hj]), ← hcE] at hP1 hD1
              have hR1 := hset (av_uL h x qb v) H1 rfl (fun y hy => av_uL_ce hy) hS1.1 hP1 hD1
              have k := hn _ _ _ _ g2 H1 locs1 sl n1 z1 e1 e2 hR1 (av_S_trans hS hS1) hl
              rw [hnx] at k
              exact k
            · have hff : (T qb).2.2.2 = true := by rw [hfi]; simp [hz0]
              have hdecl : (T qb).1 = ON qo := by rw [(hT _ hk).1, ← hON, hz.2]
              refine va_putF (H0 := H) hx hb hts hin (ty qa) hty hnm hown hK hP hD (av_S_self hS) q0 he hC qb hk (hts _ hw) (fun y hy => by rw [← (hT _ hk).1]; exact hy) hff (hmi hz.1) hdecl (hty _ hk) (v := .long v) (by rw [hkk.2]; rfl) (by rw [hkk.2]; rfl) (by simp [hk]) hd (fun H1 locs1 hP1 hD1 hS1 => ?_)
              have hcE : av_ce cl kA f (av_uL h x qb v) x = .inr (qa, (List.range N).map (av_fv f T (av_uL h x qb v) x)) := av_ce_obj hx1 hC
              rw [hfx, av_fv_set (g := av_uL h x qb v) hk (by simp only [av_fv, hkk.1, av_uL]; simp [va_up, vp_updL]) (fun j hj => by simp only [av_fv, av_uL]; simp [va_up, vp_updL, hj]), ← hcE] at hP1 hD1
              have hR1 := hset (av_uL h x qb v) H1 rfl (fun y hy => av_uL_ce hy) hS1.1 hP1 hD1
              have k := hn _ _ _ _ g2 H1 locs1 sl n1 z1 e1 e2 hR1 (av_S_trans hS hS1) hl
              rw [hnx] at k
              exact k
        · cases g1
      all_goals cases hh
    · split at hh
      · rename_i v r0 t
        unfold av_pR at hh
        obtain ⟨g9, g1, g2⟩ := Option.bind_eq_some_iff.mp hh
        split at g1
        · rename_i his
          cases g1
          have hkk : av_kd (T qb).2.2.1 = 2 ∧ ((∃ t, ty qa qb = .array t) ∨ ∃ C, ty qa qb = .object C) := by
            rcases hkc with ⟨w0, w, w2⟩ | ⟨w0, w, w2⟩ | ⟨w0, w, w2⟩ | ⟨w0, w, w2⟩ <;> first | exact ⟨w, w2⟩ | omega
          obtain ⟨x, n, rfl, hx1⟩ := av_is_some his
          have hx2 : x < h.1.length := (List.getElem?_eq_some_iff.mp hx1).1
          have hfx : f x = B + x := hf x (by have := hR.2.1; omega)
          obtain ⟨ws, q0, hP, hD, he, -, hset⟩ := hR.at hx1 (by omega)
          rw [av_ce_obj hx1 hC, ← hfx] at he
          rcases hz1 with hz | hz
          · have hff : (T qb).2.2.2 = false := by rw [hfi, hz]; rfl
            refine va_put (H0 := H) hx hb hts hin (ty qa) hty hnm hown hK hP hD (av_S_self hS) q0 he hC qb hk (hts _ hw) (fun y hy => by rw [← (hT _ hk).1]; exact hy) hff (hty _ hk) (v := va_rf (v.map f)) (by rcases hkk.2 with ⟨t, w⟩ | ⟨t, w⟩ <;> rw [w] <;> cases v <;> rfl) (by rcases hkk.2 with ⟨t, w⟩ | ⟨t, w⟩ <;> rw [w] <;> cases v <;> rfl) (by simp [hk]) hd (fun H1 locs1 hP1 hD1 hS1 => ?_)
            have hcE : av_ce cl kA f (av_uR h x qb v) x = .inr (qa, (List.range N).map (av_fv f T (av_uR h x qb v) x)) := av_ce_obj hx1 hC
            rw [hfx, av_fv_set (g := av_uR h x qb v) hk (by simp only [av_fv, hkk.1, av_uR]; simp [va_up]) (fun j hj => by simp only [av_fv, av_uR]; simp [va_up, hj]), ← hcE] at hP1 hD1
            have hR1 := hset (av_uR h x qb v) H1 rfl (fun y hy => av_uR_ce hy) hS1.1 hP1 hD1
            have k := hn _ _ _ _ g2 H1 locs1 sl n1 z1 e1 e2 hR1 (av_S_trans hS hS1) hl
            rw [hnx] at k
            exact k
          · by_cases hz0 : fi = 0
            · have hff : (T qb).2.2.2 = false := by rw [hfi, hz0]; rfl
              refine va_put (H0 := H) hx hb hts hin (ty qa) hty hnm hown hK hP hD (av_S_self hS) q0 he hC qb hk (hts _ hw) (fun y hy => by rw [← (hT _ hk).1]; exact hy) hff (hty _ hk) (v := va_rf (v.map f)) (by rcases hkk.2 with ⟨t, w⟩ | ⟨t, w⟩ <;> rw [w] <;> cases v <;> rfl) (by rcases hkk.2 with ⟨t, w⟩ | ⟨t, w⟩ <;> rw [w] <;> cases v <;> rfl) (by simp [hk]) hd (fun H1 locs1 hP1 hD1 hS1 => ?_)
              have hcE : av_ce cl kA f (av_uR h x qb v) x = .inr (qa, (List.range N).map (av_fv f T (av_uR h x qb v) x)) := av_ce_obj hx1 hC
              rw [hfx, av_fv_set (g := av_uR h x qb v) hk (by simp only [av_fv, hkk.1, av_uR]; simp [va_up]) (fun j hj => by simp only [av_fv, av_uR]; simp [va_up, hj]), ← hcE] at hP1 hD1
              have hR1 := hset (av_uR h x qb v) H1 rfl (fun y hy => av_uR_ce hy) hS1.1 hP1 hD1
              have k := hn _ _ _ _ g2 H1 locs1 sl n1 z1 e1 e2 hR1 (av_S_trans hS hS1) hl
              rw [hnx] at k
              exact k
            · have hff : (T qb).2.2.2 = true := by rw [hfi]; simp [hz0]
              have hdecl : (T qb).1 = ON qo := by rw [(hT _ hk).1, ← hON, hz.2]
              refine va_putF (H0 := H) hx hb hts hin (ty qa) hty hnm hown hK hP hD (av_S_self hS) q0 he hC qb hk (hts _ hw) (fun y hy => by rw [← (hT _ hk).1]; exact hy) hff (hmi hz.1) hdecl (hty _ hk) (v := va_rf (v.map f)) (by rcases hkk.2 with ⟨t, w⟩ | ⟨t, w⟩ <;> rw [w] <;> cases v <;> rfl) (by rcases hkk.2 with ⟨t, w⟩ | ⟨t, w⟩ <;> rw [w] <;> cases v <;> rfl) (by simp [hk]) hd (fun H1 locs1 hP1 hD1 hS1 => ?_)
              have hcE : av_ce cl kA f (av_uR h x qb v) x = .inr (qa, (List.range N).map (av_fv f T (av_uR h x qb v) x)) := av_ce_obj hx1 hC
              rw [hfx, av_fv_set (g := av_uR h x qb v) hk (by simp only [av_fv, hkk.1, av_uR]; simp [va_up]) (fun j hj => by simp only [av_fv, av_uR]; simp [va_up, hj]), ← hcE] at hP1 hD1
              have hR1 := hset (av_uR h x qb v) H1 rfl (fun y hy => av_uR_ce hy) hS1.1 hP1 hD1
              have k := hn _ _ _ _ g2 H1 locs1 sl n1 z1 e1 e2 hR1 (av_S_trans hS hS1) hl
              rw [hnx] at k
              exact k
        · cases g1
      all_goals cases hh
    · have hz0 : kc = 3 := by
        rename_i m0 m1 m2
        rcases hkc with ⟨w0, -⟩ | ⟨w0, -⟩ | ⟨w0, -⟩ | ⟨w0, -⟩
        · exact absurd (hz0 ▸ w0) m0
        · exact absurd (hz0 ▸ w0) m1
        · exact absurd (hz0 ▸ w0) m2
        · exact w0
      · split at hh
        · rename_i v r0 t
          unfold av_pZ at hh
          obtain ⟨g9, g1, g2⟩ := Option.bind_eq_some_iff.mp hh
          split at g1
          · rename_i his
            cases g1
            obtain ⟨his, hv01⟩ := his
            have hkk : av_kd (T qb).2.2.1 = 0 ∧ ty qa qb = .boolean := by
              rcases hkc with ⟨w0, w, w2⟩ | ⟨w0, w, w2⟩ | ⟨w0, w, w2⟩ | ⟨w0, w, w2⟩ <;> first | exact ⟨by rw [w]; rfl, w2⟩ | omega
            obtain ⟨x, n, rfl, hx1⟩ := av_is_some his
            have hx2 : x < h.1.length := (List.getElem?_eq_some_iff.mp hx1).1
            have hfx : f x = B + x := hf x (by have := hR.2.1; omega)
            obtain ⟨ws, q0, hP, hD, he, -, hset⟩ := hR.at hx1 (by omega)
            rw [av_ce_obj hx1 hC, ← hfx] at he
            rcases hz1 with hz | hz
            · have hff : (T qb).2.2.2 = false := by rw [hfi, hz]; rfl
              refine va_put (H0 := H) hx hb hts hin (ty qa) hty hnm hown hK hP hD (av_S_self hS) q0 he hC qb hk (hts _ hw) (fun y hy => by rw [← (hT _ hk).1]; exact hy) hff (hty _ hk) (v := .int v) (by rw [hkk.2]; rcases hv01 with rfl | rfl <;> rfl) (by rw [hkk.2]; rcases hv01 with rfl | rfl <;> rfl) (by simp [hk]) hd (fun H1 locs1 hP1 hD1 hS1 => ?_)
              have hcE : av_ce cl kA f (av_uI h x qb v) x = .inr (qa, (List.range N).map (av_fv f T (av_uI h x qb v) x)) := av_ce_obj hx1 hC
              rw [hfx, av_fv_set (g := av_uI h x qb v) hk (by simp only [av_fv, hkk.1, av_uI]; simp [va_up, upd]) (fun j hj => by simp only [av_fv, av_uI]; simp [va_up, upd, hj]), ← hcE] at hP1 hD1
              have hR1 := hset (av_uI h x qb v) H1 rfl (fun y hy => av_uI_ce hy) hS1.1 hP1 hD1
              have k := hn _ _ _ _ g2 H1 locs1 sl n1 z1 e1 e2 hR1 (av_S_trans hS hS1) hl
              rw [hnx] at k
              exact k
            · by_cases hz0 : fi = 0
              · have hff : (T qb).2.2.2 = false := by rw [hfi, hz0]; rfl
                refine va_put (H0 := H) hx hb hts hin (ty qa) hty hnm hown hK hP hD (av_S_self hS) q0 he hC qb hk (hts _ hw) (fun y hy => by rw [← (hT _ hk).1]; exact hy) hff (hty _ hk) (v := .int v) (by rw [hkk.2]; rcases hv01 with rfl | rfl <;> rfl) (by rw [hkk.2]; rcases hv01 with rfl | rfl <;> rfl) (by simp [hk]) hd (fun H1 locs1 hP1 hD1 hS1 => ?_)
                have hcE : av_ce cl kA f (av_uI h x qb v) x = .inr (qa, (List.range N).map (av_fv f T (av_uI h x qb v) x)) := av_ce_obj hx1 hC
                rw [hfx, av_fv_set (g := av_uI h x qb v) hk (by simp only [av_fv, hkk.1, av_uI]; simp [va_up, upd]) (fun j hj => by simp only [av_fv, av_uI]; simp [va_up, upd, hj]), ← hcE] at hP1 hD1
                have hR1 := hset (av_uI h x qb v) H1 rfl (fun y hy => av_uI_ce hy) hS1.1 hP1 hD1
                have k := hn _ _ _ _ g2 H1 locs1 sl n1 z1 e1 e2 hR1 (av_S_trans hS hS1) hl
                rw [hnx] at k
                exact k
              · have hff : (T qb).2.2.2 = true := by rw [hfi]; simp [hz0]
                have hdecl : (T qb).1 = ON qo := by rw [(hT _ hk).1, ← hON, hz.2]
                refine va_putF (H0 := H) hx hb hts hin (ty qa) hty hnm hown hK hP hD (av_S_self hS) q0 he hC qb hk (hts _ hw) (fun y hy => by rw [← (hT _ hk).1]; exact hy) hff (hmi hz.1) hdecl (hty _ hk) (v := .int v) (by rw [hkk.2]; rcases hv01 with rfl | rfl <;> rfl) (by rw [hkk.2]; rcases hv01 with rfl | rfl <;> rfl) (by simp [hk]) hd (fun H1 locs1 hP1 hD1 hS1 => ?_)
                have hcE : av_ce cl kA f (av_uI h x qb v) x = .inr (qa, (List.range N).map (av_fv f T (av_uI h x qb v) x)) := av_ce_obj hx1 hC
                rw [hfx, av_fv_set (g := av_uI h x qb v) hk (by simp only [av_fv, hkk.1, av_uI]; simp [va_up, upd]) (fun j hj => by simp only [av_fv, av_uI]; simp [va_up, upd, hj]), ← hcE] at hP1 hD1
                have hR1 := hset (av_uI h x qb v) H1 rfl (fun y hy => av_uI_ce hy) hS1.1 hP1 hD1
                have k := hn _ _ _ _ g2 H1 locs1 sl n1 z1 e1 e2 hR1 (av_S_trans hS hS1) hl
                rw [hnx] at k
                exact k
          · cases g1
        all_goals cases hh
  · simp only [av_ck2, Bool.and_eq_true, decide_eq_true_eq] at hc
    obtain ⟨rfl, hnx⟩ := hc
    split at hh
    · obtain ⟨v, g1, g2⟩ := Option.bind_eq_some_iff.mp hh
      unfold av_lI at g1
      have k := hn _ _ _ _ g2 H locs sl n1 z1 e1 e2 hR hS hl
      rw [hnx] at k
      split at g1
      · rename_i his
        cases g1
        obtain ⟨x, n, rfl, hx1, hvi, hlt⟩ := av_at_some his
        have hx2 : x < h.1.length := (List.getElem?_eq_some_iff.mp hx1).1
        have hfx : f x = B + x := hf x (by have := hR.2.1; omega)
        obtain ⟨ws, q0, hP, hD, he, hoth, hset⟩ := hR.at hx1 (by show (_ : Nat) ≠ 12; omega)
        rw [av_ce_arr hx1 (by omega), ← hfx] at he
        exact va_iald hx hb hK hP q0 0 he rfl hvi hd k
      · split at g1
        · cases g1
        · rename_i y
          split at g1
          · cases g1
          · rename_i q hq
            split at g1
            · cases g1
            · rename_i hb2
              cases g1
              obtain ⟨-, hfB, hfs, scr, w1, w2, w3, w4, w5, w6⟩ := hXF.1 _ _ hq
              exact W.iald hx hb (by rw [hS.2.1 _ hfs (by show ¬ (B ≤ _); omega)]; exact w1) w2 w3 (fun z => hb2 (z.imp id (fun z => by omega))) (w6 _ (Nat.not_le.mp fun z => hb2 (Or.inr z))) rfl rfl hd k
    all_goals cases hh
  · simp only [av_ck2, Bool.and_eq_true, decide_eq_true_eq] at hc
    obtain ⟨rfl, hnx⟩ := hc
    split at hh
    · obtain ⟨v, g1, g2⟩ := Option.bind_eq_some_iff.mp hh
      unfold av_lB at g1
      have k := hn _ _ _ _ g2 H locs sl n1 z1 e1 e2 hR hS hl
      rw [hnx] at k
      split at g1
      · rename_i his
        cases g1
        obtain ⟨x, n, rfl, hx1, hvi, hlt⟩ := av_at_some his
        have hx2 : x < h.1.length := (List.getElem?_eq_some_iff.mp hx1).1
        have hfx : f x = B + x := hf x (by have := hR.2.1; omega)
        obtain ⟨ws, q0, hP, hD, he, hoth, hset⟩ := hR.at hx1 (by show (_ : Nat) ≠ 12; omega)
        rw [av_ce_arr hx1 (by omega), ← hfx] at he
        exact va_cald hx hb hK hP q0 2 he rfl hvi hd k
      · cases g1
    all_goals cases hh
  · simp only [av_ck2, Bool.and_eq_true, decide_eq_true_eq] at hc
    obtain ⟨rfl, hnx⟩ := hc
    split at hh
    · obtain ⟨v, g1, g2⟩ := Option.bind_eq_some_iff.mp hh
      unfold av_lB at g1
      have k := hn _ _ _ _ g2 H locs sl n1 z1 e1 e2 hR hS hl
      rw [hnx] at k
      split at g1
      · rename_i his
        cases g1
        obtain ⟨x, n, rfl, hx1, hvi, hlt⟩ := av_at_some his
        have hx2 : x < h.1.length := (List.getElem?_eq_some_iff.mp hx1).1
        have hfx : f x = B + x := hf x (by have := hR.2.1; omega)
        obtain ⟨ws, q0, hP, hD, he, hoth, hset⟩ := hR.at hx1 (by show (_ : Nat) ≠ 12; omega)
        rw [av_ce_arr hx1 (by omega), ← hfx] at he
        exact va_zald hx hb hK hP q0 3 he rfl hvi hd k
      · cases g1
    all_goals cases hh
  · simp only [av_ck2, Bool.and_eq_true, decide_eq_true_eq] at hc
    obtain ⟨rfl, hnx⟩ := hc
    split at hh
    · obtain ⟨v, g1, g2⟩ := Option.bind_eq_some_iff.mp hh
      unfold av_lL at g1
      have k := hn _ _ _ _ g2 H locs sl n1 z1 e1 e2 hR hS hl
      rw [hnx] at k
      split at g1
      · rename_i his
        cases g1
        obtain ⟨x, n, rfl, hx1, hvi, hlt⟩ := av_at_some his
        have hx2 : x < h.1.length := (List.getElem?_eq_some_iff.mp hx1).1
        have hfx : f x = B + x := hf x (by have := hR.2.1; omega)
        obtain ⟨ws, q0, hP, hD, he, hoth, hset⟩ := hR.at hx1 (by show (_ : Nat) ≠ 12; omega)
        rw [av_ce_arr hx1 (by omega), ← hfx] at he
        exact va_lald hx hb hK hP q0 1 he rfl hvi hd k
      · cases g1
    all_goals cases hh
  · simp only [av_ck2, Bool.and_eq_true, decide_eq_true_eq] at hc
    obtain ⟨⟨rfl, hnx⟩, hz⟩ := hc
    split at hh
    · obtain ⟨v, g1, g2⟩ := Option.bind_eq_some_iff.mp hh
      unfold av_lR at g1
      have k := hn _ _ _ _ g2 H locs sl n1 z1 e1 e2 hR hS hl
      rw [hnx] at k
      split at g1
      · rename_i his
        cases g1
        rcases hz with rfl | rfl
        · obtain ⟨x, n, rfl, hx1, hvi, hlt⟩ := av_at_some his
          have hx2 : x < h.1.length := (List.getElem?_eq_some_iff.mp hx1).1
          have hfx : f x = B + x := hf x (by have := hR.2.1; omega)
          obtain ⟨ws, q0, hP, hD, he, hoth, hset⟩ := hR.at hx1 (by show (_ : Nat) ≠ 12; omega)
          rw [av_ce_arr hx1 (by omega), ← hfx] at he
          exact va_aldq hx hb hK hP q0 4 he rfl hvi hd k
        · obtain ⟨x, n, rfl, hx1, hvi, hlt⟩ := av_at_some his
          have hx2 : x < h.1.length := (List.getElem?_eq_some_iff.mp hx1).1
          have hfx : f x = B + x := hf x (by have := hR.2.1; omega)
          obtain ⟨ws, q0, hP, hD, he, hoth, hset⟩ := hR.at hx1 (by show (_ : Nat) ≠ 12; omega)
          rw [av_ce_arr hx1 (by omega), ← hfx] at he
          exact va_aldq hx hb hK hP q0 5 he rfl hvi hd k
      · cases g1
    all_goals cases hh
  · simp only [av_ck2, Bool.and_eq_true, decide_eq_true_eq] at hc
    obtain ⟨rfl, hnx⟩ := hc
    split at hh
    · rename_i v j r0 t
      obtain ⟨g9, g1, g2⟩ := Option.bind_eq_some_iff.mp hh
      unfold av_sI at g1
      split at g1
      · rename_i his
        cases g1
        obtain ⟨x, n, rfl, hx1, hvi, hlt⟩ := av_at_some his
        have hx2 : x < h.1.length := (List.getElem?_eq_some_iff.mp hx1).1
        have hfx : f x = B + x := hf x (by have := hR.2.1; omega)
        obtain ⟨ws, q0, hP, hD, he, hoth, hset⟩ := hR.at hx1 (by show (_ : Nat) ≠ 12; omega)
        rw [av_ce_arr hx1 (by omega), ← hfx] at he
        refine va_iast (H0 := H) hx hb hK hP hD (av_S_self hS) q0 0 he rfl hvi hd (fun H1 locs1 hP1 hD1 hS1 => ?_)
        have hcE : av_ce cl kA f (av_uI h x j.toNatClampNeg v) x = .inl (kA 100, n, av_ac f (av_uI h x j.toNatClampNeg v) x 100) := av_ce_arr hx1 (by omega)
        have hcA : av_ac f (av_uI h x j.toNatClampNeg v) x 100 = .inl (upd (h.2.1 x) j.toNatClampNeg v) := by
          simp [av_ac, av_uI, va_up]
        rw [hcA] at hcE
        rw [hfx] at hP1 hD1
        have hR1 := hset (av_uI h x j.toNatClampNeg v) H1 rfl (fun y hy => av_uI_ce hy) hS1.1 (by rw [hcE]; exact hP1) (by rw [hcE]; exact hD1)
        have k := hn _ _ _ _ g2 H1 locs1 sl n1 z1 e1 e2 hR1 (av_S_trans hS hS1) hl
        rw [hnx] at k
        exact k
      · cases g1
    all_goals cases hh
  · simp only [av_ck2, Bool.and_eq_true, decide_eq_true_eq] at hc
    obtain ⟨rfl, hnx⟩ := hc
    split at hh
    · rename_i v j r0 t
      obtain ⟨g9, g1, g2⟩ := Option.bind_eq_some_iff.mp hh
      unfold av_sC at g1
      split at g1
      · rename_i his
        cases g1
        obtain ⟨x, n, rfl, hx1, hvi, hlt⟩ := av_at_some his
        have hx2 : x < h.1.length := (List.getElem?_eq_some_iff.mp hx1).1
        have hfx : f x = B + x := hf x (by have := hR.2.1; omega)
        obtain ⟨ws, q0, hP, hD, he, hoth, hset⟩ := hR.at hx1 (by show (_ : Nat) ≠ 12; omega)
        rw [av_ce_arr hx1 (by omega), ← hfx] at he
        refine va_cast (H0 := H) hx hb hK hP hD (av_S_self hS) q0 2 he rfl hvi hd (fun H1 locs1 hP1 hD1 hS1 => ?_)
        have hcE : av_ce cl kA f (av_uI h x j.toNatClampNeg (vp_nar .char v)) x = .inl (kA 102, n, av_ac f (av_uI h x j.toNatClampNeg (vp_nar .char v)) x 102) := av_ce_arr hx1 (by omega)
        have hcA : av_ac f (av_uI h x j.toNatClampNeg (vp_nar .char v)) x 102 = .inl (upd (h.2.1 x) j.toNatClampNeg (vp_nar .char v)) := by
          simp [av_ac, av_uI, va_up]
        rw [hcA] at hcE
        rw [hfx] at hP1 hD1
        have hR1 := hset (av_uI h x j.toNatClampNeg (vp_nar .char v)) H1 rfl (fun y hy => av_uI_ce hy) hS1.1 (by rw [hcE]; exact hP1) (by rw [hcE]; exact hD1)
        have k := hn _ _ _ _ g2 H1 locs1 sl n1 z1 e1 e2 hR1 (av_S_trans hS hS1) hl
        rw [hnx] at k
        exact k
      · cases g1
    all_goals cases hh
  · simp only [av_ck2, Bool.and_eq_true, decide_eq_true_eq] at hc
    obtain ⟨rfl, hnx⟩ := hc
    split at hh
    · rename_i v j r0 t
      obtain ⟨g9, g1, g2⟩ := Option.bind_eq_some_iff.mp hh
      unfold av_sZ at g1
      split at g1
      · rename_i his
        cases g1
        obtain ⟨x, n, rfl, hx1, hvi, hlt⟩ := av_at_some his
        have hx2 : x < h.1.length := (List.getElem?_eq_some_iff.mp hx1).1
        have hfx : f x = B + x := hf x (by have := hR.2.1; omega)
        obtain ⟨ws, q0, hP, hD, he, hoth, hset⟩ := hR.at hx1 (by show (_ : Nat) ≠ 12; omega)
        rw [av_ce_arr hx1 (by omega), ← hfx] at he
        refine va_zast (H0 := H) hx hb hK hP hD (av_S_self hS) q0 3 he rfl hvi hd (fun H1 locs1 hP1 hD1 hS1 => ?_)
        have hcE : av_ce cl kA f (av_uI h x j.toNatClampNeg (vp_nar .boolean v)) x = .inl (kA 103, n, av_ac f (av_uI h x j.toNatClampNeg (vp_nar .boolean v)) x 103) := av_ce_arr hx1 (by omega)
        have hcA : av_ac f (av_uI h x j.toNatClampNeg (vp_nar .boolean v)) x 103 = .inl (upd (h.2.1 x) j.toNatClampNeg (vp_nar .boolean v)) := by
          simp [av_ac, av_uI, va_up]
        rw [hcA] at hcE
        rw [hfx] at hP1 hD1
        have hR1 := hset (av_uI h x j.toNatClampNeg (vp_nar .boolean v)) H1 rfl (fun y hy => av_uI_ce hy) hS1.1 (by rw [hcE]; exact hP1) (by rw [hcE]; exact hD1)
        have k := hn _ _ _ _ g2 H1 locs1 sl n1 z1 e1 e2 hR1 (av_S_trans hS hS1) hl
        rw [hnx] at k
        exact k
      · cases g1
    all_goals cases hh
  · simp only [av_ck2, Bool.and_eq_true, decide_eq_true_eq] at hc
    obtain ⟨rfl, hnx⟩ := hc
    split at hh
    · rename_i v j r0 t
      obtain ⟨g9, g1, g2⟩ := Option.bind_eq_some_iff.mp hh
      unfold av_sL at g1
      split at g1
      · rename_i his
        cases g1
        obtain ⟨x, n, rfl, hx1, hvi, hlt⟩ := av_at_some his
        have hx2 : x < h.1.length := (List.getElem?_eq_some_iff.mp hx1).1
        have hfx : f x = B + x := hf x (by have := hR.2.1; omega)
        obtain ⟨ws, q0, hP, hD, he, hoth, hset⟩ := hR.at hx1 (by show (_ : Nat) ≠ 12; omega)
        rw [av_ce_arr hx1 (by omega), ← hfx] at he
        refine va_last (H0 := H) hx hb hK hP hD (av_S_self hS) q0 1 he rfl hvi hd (fun H1 locs1 hP1 hD1 hS1 => ?_)
        have hcE : av_ce cl kA f (av_uL h x j.toNatClampNeg v) x = .inl (kA 101, n, av_ac f (av_uL h x j.toNatClampNeg v) x 101) := av_ce_arr hx1 (by omega)
        have hcA : av_ac f (av_uL h x j.toNatClampNeg v) x 101 = .inr (.inl (vp_updL (h.2.2.1 x) j.toNatClampNeg v)) := by
          simp [av_ac, av_uL, va_up]
        rw [hcA] at hcE
        rw [hfx] at hP1 hD1
        have hR1 := hset (av_uL h x j.toNatClampNeg v) H1 rfl (fun y hy => av_uL_ce hy) hS1.1 (by rw [hcE]; exact hP1) (by rw [hcE]; exact hD1)
        have k := hn _ _ _ _ g2 H1 locs1 sl n1 z1 e1 e2 hR1 (av_S_trans hS hS1) hl
        rw [hnx] at k
        exact k
      · cases g1
    all_goals cases hh
  · simp only [av_ck2, Bool.and_eq_true, decide_eq_true_eq] at hc
    obtain ⟨⟨rfl, hnx⟩, hz⟩ := hc
    split at hh
    · rename_i v j r0 t
      obtain ⟨g9, g1, g2⟩ := Option.bind_eq_some_iff.mp hh
      unfold av_sR at g1
      split at g1
      · rename_i his
        cases g1
        rcases hz with ⟨rfl, rfl⟩ | ⟨rfl, rfl⟩
        · obtain ⟨his, hiv⟩ := his
          obtain ⟨x, n, rfl, hx1, hvi, hlt⟩ := av_at_some his
          have hx2 : x < h.1.length := (List.getElem?_eq_some_iff.mp hx1).1
          have hfx : f x = B + x := hf x (by have := hR.2.1; omega)
          obtain ⟨ws, q0, hP, hD, he, hoth, hset⟩ := hR.at hx1 (by show (_ : Nat) ≠ 12; omega)
          rw [av_ce_arr hx1 (by omega), ← hfx] at he
          obtain ⟨y, ny, rfl, hy1⟩ := av_is_some hiv
          have hy2 : y < h.1.length := (List.getElem?_eq_some_iff.mp hy1).1
          have hfy : f y = B + y := hf y (by have := hR.2.1; omega)
          obtain ⟨qk, hqk⟩ := hoth y _ hy1 (by show (_ : Nat) ≠ 12; omega)
          obtain ⟨r9, hr9⟩ : ∃ r9, cl[9]? = some r9 := ⟨_, List.getElem?_eq_getElem (by omega)⟩
          obtain ⟨C9, T9, N9⟩ := r9
          rw [av_ce_obj hy1 hr9, ← hfy] at hqk
          have hON9 := (hKF.1 _ _ _ _ hr9).2.2.2.2.2.2.1
          refine va_astq (H0 := H) hx hb hK hP hD (av_S_self hS) q0 4 qk 9 (r := (C9, T9, N9)) he (by rw [← hON9]; rfl) hqk hr9 hvi hd (fun H1 locs1 hP1 hD1 hS1 => ?_)
          have hcE : av_ce cl kA f (av_uR h x j.toNatClampNeg (some y)) x = .inl (kA 104, n, av_ac f (av_uR h x j.toNatClampNeg (some y)) x 104) := av_ce_arr hx1 (by omega)
          have hcA : av_ac f (av_uR h x j.toNatClampNeg (some y)) x 104 = .inr (.inr (.inr (.inr (va_up (fun j => (h.2.2.2 x j).map f) j.toNatClampNeg (some (f y)))))) := by
            have e0 : (fun j2 => ((av_uR h x j.toNatClampNeg (some y)).2.2.2 x j2).map f) = va_up (fun j => (h.2.2.2 x j).map f) j.toNatClampNeg (some (f y)) := by
              funext j2
              by_cases hj : j2 = j.toNatClampNeg
              · subst hj; simp [av_uR, va_up]
              · simp [av_uR, va_up, hj]
            rw [← e0]
            rfl
          rw [hcA] at hcE
          rw [hfx] at hP1 hD1
          have hR1 := hset (av_uR h x j.toNatClampNeg (some y)) H1 rfl (fun y hy => av_uR_ce hy) hS1.1 (by rw [hcE]; exact hP1) (by rw [hcE]; exact hD1)
          have k := hn _ _ _ _ g2 H1 locs1 sl n1 z1 e1 e2 hR1 (av_S_trans hS hS1) hl
          rw [hnx] at k
          exact k
        · obtain ⟨his, hiv⟩ := his
          obtain ⟨x, n, rfl, hx1, hvi, hlt⟩ := av_at_some his
          have hx2 : x < h.1.length := (List.getElem?_eq_some_iff.mp hx1).1
          have hfx : f x = B + x := hf x (by have := hR.2.1; omega)
          obtain ⟨ws, q0, hP, hD, he, hoth, hset⟩ := hR.at hx1 (by show (_ : Nat) ≠ 12; omega)
          rw [av_ce_arr hx1 (by omega), ← hfx] at he
          obtain ⟨y, ny, rfl, hy1⟩ := av_is_some hiv
          have hy2 : y < h.1.length := (List.getElem?_eq_some_iff.mp hy1).1
          have hfy : f y = B + y := hf y (by have := hR.2.1; omega)
          obtain ⟨qk, hqk⟩ := hoth y _ hy1 (by show (_ : Nat) ≠ 12; omega)
          obtain ⟨r9, hr9⟩ : ∃ r9, cl[0]? = some r9 := ⟨_, List.getElem?_eq_getElem (by omega)⟩
          obtain ⟨C9, T9, N9⟩ := r9
          rw [av_ce_obj hy1 hr9, ← hfy] at hqk
          have hON9 := (hKF.1 _ _ _ _ hr9).2.2.2.2.2.2.1
          refine va_astq (H0 := H) hx hb hK hP hD (av_S_self hS) q0 5 qk 0 (r := (C9, T9, N9)) he (by rw [← hON9]; rfl) hqk hr9 hvi hd (fun H1 locs1 hP1 hD1 hS1 => ?_)
          have hcE : av_ce cl kA f (av_uR h x j.toNatClampNeg (some y)) x = .inl (kA 105, n, av_ac f (av_uR h x j.toNatClampNeg (some y)) x 105) := av_ce_arr hx1 (by omega)
          have hcA : av_ac f (av_uR h x j.toNatClampNeg (some y)) x 105 = .inr (.inr (.inr (.inr (va_up (fun j => (h.2.2.2 x j).map f) j.toNatClampNeg (some (f y)))))) := by
            have e0 : (fun j2 => ((av_uR h x j.toNatClampNeg (some y)).2.2.2 x j2).map f) = va_up (fun j => (h.2.2.2 x j).map f) j.toNatClampNeg (some (f y)) := by
              funext j2
              by_cases hj : j2 = j.toNatClampNeg
              · subst hj; simp [av_uR, va_up]
              · simp [av_uR, va_up, hj]
            rw [← e0]
            rfl
          rw [hcA] at hcE
          rw [hfx] at hP1 hD1
          have hR1 := hset (av_uR h x j.toNatClampNeg (some y)) H1 rfl (fun y hy => av_uR_ce hy) hS1.1 (by rw [hcE]; exact hP1) (by rw [hcE]; exact hD1)
          have k := hn _ _ _ _ g2 H1 locs1 sl n1 z1 e1 e2 hR1 (av_S_trans hS hS1) hl
          rw [hnx] at k
          exact k
      · cases g1
    all_goals cases hh
  · simp only [av_ck2, Bool.and_eq_true, decide_eq_true_eq] at hc
    obtain ⟨rfl, hnx⟩ := hc
    split at hh
    · obtain ⟨v, g1, g2⟩ := Option.bind_eq_some_iff.mp hh
      have k := hn _ _ _ _ g2 H locs sl n1 z1 e1 e2 hR hS hl
      rw [hnx] at k
      unfold av_len at g1
      split at g1
      · cases g1
      · rename_i x
        split at g1
        · rename_i q hx1
          obtain ⟨qk, qn⟩ := q
          split at g1
          · rename_i hq
            cases g1
            simp only at hq
            have hx2 : x < h.1.length := (List.getElem?_eq_some_iff.mp hx1).1
            have hfx : f x = B + x := hf x (by have := hR.2.1; omega)
            obtain ⟨ws, q0, hP, hD, he, -, -⟩ := hR.at hx1 (by show (_ : Nat) ≠ 12; omega)
            rw [av_ce_arr hx1 (by omega), ← hfx] at he
            obtain ⟨t0, ty0, ht0⟩ : ∃ t0 ty0, (av_tys kA ON)[t0]? = some (kA qk, ty0) := by
              rcases (show qk = 100 ∨ qk = 101 ∨ qk = 102 ∨ qk = 103 ∨ qk = 104 ∨ qk = 105 by omega) with rfl | rfl | rfl | rfl | rfl | rfl
              · exact ⟨0, _, rfl⟩
              · exact ⟨1, _, rfl⟩
              · exact ⟨2, _, rfl⟩
              · exact ⟨3, _, rfl⟩
              · exact ⟨4, _, rfl⟩
              · exact ⟨5, _, rfl⟩
            exact va_alen hx hb hK hP q0 t0 he ht0 rfl hd k
          · cases g1
        · split at g1
          · cases g1
          · rename_i q hq
            cases g1
            obtain ⟨-, hfB, hfs, scr, w1, w2, w3, w4, w5, w6⟩ := hXF.1 _ _ hq
            exact W.alen hx hb (by rw [hS.2.1 _ hfs (by show ¬ (B ≤ _); omega)]; exact w1) w2 w5 rfl rfl hd k
    all_goals cases hh
  · split at hh
    · simp only [av_ck2, Bool.and_eq_true, decide_eq_true_eq] at hc
      obtain ⟨⟨rfl, hnx⟩, hz⟩ := hc
      obtain ⟨C, T, N, hC, hw⟩ := hKF.2.2.2.2.1 _ _ _ (List.contains_iff_mem.mp hz)
      obtain ⟨hc12, hin, hty, hnm, hins, hini, hON, hT⟩ := hKF.1 _ C T N hC
      have hmm := hm _ _ _ _ hh
      rw [av_new_len, av_new_sz] at hmm
      have hsl : av_sl cl (a, 0) = N := by simp only [av_sl, hC]
      rw [hsl] at hmm
      refine av_bound (fun hle => ?_)
      have hz0 : H.size = B + h.1.length := by have := hR.1; omega
      have hKn := hK.1 a _ hC
      refine W.newcK hx hb hown (hts _ hw) (hts _ hins) (hts _ hini) rfl hd (by omega) (by omega) hKn.2.1 rfl (fun H1 kC hkC w1 w2 w3 => ?_)
      have hx1 : (av_new h a 0).1[h.1.length]? = some (a, 0) := by simp [av_new]
      have hR1 : av_RH D cl kA f B (av_new h a 0) H1 := by
        refine hR.push hz0 w2 w3 (by rw [av_new_len]; omega) rfl (fun x hx => av_new_ce hx) ?_
        rw [av_ce_obj hx1 hC, ← hz0]
        refine ⟨_, hC, (u_born (ty a) hts hin hKn hkC w1 hty).to (fun j hj => ?_)⟩
        rw [(hT j hj).2]
        simp only [vp_V, List.getD_eq_getElem?_getD, av_fv_get hj, Option.getD_some, av_fv, av_new, va_up_self]
        cases av_kd (T j).2.2.1 with
        | zero => rfl
        | succ z => cases z <;> rfl
      have k := hn _ _ _ _ hh H1 locs sl (n1 + 1) (z1 + N) (by rw [av_new_len]; omega) (by rw [av_new_sz, hsl]; omega) hR1 ⟨Nat.le_trans hS.1 (by omega), fun q a1 a2 => (w3 q (Nat.lt_of_lt_of_le a1 hS.1)).trans (hS.2.1 q a1 a2), hS.2.2⟩ hl
      rw [hnx] at k
      have hfx : f h.1.length = H.size := by rw [hf _ (by have := hR.2.1; have := hmm.2.1; omega), hz0]
      simp only [List.map_cons, av_vl, Option.map_some, va_rf, hfx] at k
      exact k
    · rename_i hc0
      cases hok : av_ok8 st with
      | false => rw [hok] at hh; cases hh
      | true =>
        rw [hok] at hh
        cases hh
        exact hEX _ rfl hc0 hok rfl H locs sl n1 z1 e1 e2 hR hS hl.1
  · simp only [av_ck2, Bool.and_eq_true, decide_eq_true_eq] at hc
    obtain ⟨⟨rfl, hnx⟩, hz⟩ := hc
    split at hh
    · rename_i nn t
      obtain ⟨g9, g1, g2⟩ := Option.bind_eq_some_iff.mp hh
      unfold av_na at g1
      split at g1
      · cases g1
      · rename_i hnz
        cases g1
        have hnn : ¬ nn < 0 := fun z => hnz (Or.inl z)
        have hn2 : nn.toNatClampNeg ≤ 20000 := Nat.not_lt.mp fun z => hnz (Or.inr z)
        have hsl : ∀ k, 12 ≤ k → k ≠ 12 → av_sl cl (k, nn.toNatClampNeg) = nn.toNatClampNeg := by
          intro k h1 h2
          have : cl[k]? = none := List.getElem?_eq_none_iff.mpr (by omega)
          simp only [av_sl, this]
          rw [if_neg h2]
        have hmm := hm _ _ _ _ g2
        rw [av_new_len, av_new_sz, hsl a (by omega) (by omega)] at hmm
        refine av_bound (fun hle => ?_)
        have hz0 : H.size = B + h.1.length := by have := hR.1; omega
        have hfx : f h.1.length = H.size := by rw [hf _ (by have := hR.2.1; have := hmm.2.1; omega), hz0]
        rcases hz with hz | hz | hz | hz
        · obtain ⟨rfl, rfl⟩ := hz
          refine va_newaK (atype := .int) hx hb (hts _ hKF.2.2.2.2.2.2.2.2.2.1) rfl hd rfl hnn rfl (by simp [componentBytes, newarray.typeOf]; omega) (by omega) (by omega) rfl (fun H1 cA w1 w2 w3 hAr hNm => ?_)
          have hcA : cA = kA 100 := Option.some.inj (hNm.symm.trans (hkA 0 _ rfl))
          subst hcA
          have hx1 : (av_new h 100 nn.toNatClampNeg).1[h.1.length]? = some (100, nn.toNatClampNeg) := by simp [av_new]
          have hR1 : av_RH D cl kA f B (av_new h 100 nn.toNatClampNeg) H1 := by
            refine hR.push hz0 w2 w3 (by rw [av_new_len]; omega) rfl (fun x hx => av_new_ce hx) ?_
            rw [av_ce_arr hx1 (by omega), ← hz0]
            show H1[_]? = some (vp_cell _ _)
            rw [w1]
            simp [av_ac, av_new, va_up, vp_cell, defaultValue, newarray.typeOf]
          have k := hn _ _ _ _ g2 H1 locs sl (n1 + 1) (z1 + nn.toNatClampNeg) (by rw [av_new_len]; omega) (by rw [av_new_sz, hsl 100 (by omega) (by omega)]; omega) hR1 ⟨Nat.le_trans hS.1 (by omega), fun q a1 a2 => (w3 q (Nat.lt_of_lt_of_le a1 hS.1)).trans (hS.2.1 q a1 a2), hS.2.2⟩ hl
          rw [hnx] at k
          simp only [List.map_cons, av_vl, Option.map_some, va_rf, hfx] at k
          exact k
        · obtain ⟨rfl, rfl⟩ := hz
          refine va_newaK (atype := .long) hx hb (hts _ hKF.2.2.2.2.2.2.2.2.2.2.1) rfl hd rfl hnn rfl (by simp [componentBytes, newarray.typeOf]; omega) (by omega) (by omega) rfl (fun H1 cA w1 w2 w3 hAr hNm => ?_)
          have hcA : cA = kA 101 := Option.some.inj (hNm.symm.trans (hkA 1 _ rfl))
          subst hcA
          have hx1 : (av_new h 101 nn.toNatClampNeg).1[h.1.length]? = some (101, nn.toNatClampNeg) := by simp [av_new]
          have hR1 : av_RH D cl kA f B (av_new h 101 nn.toNatClampNeg) H1 := by
            refine hR.push hz0 w2 w3 (by rw [av_new_len]; omega) rfl (fun x hx => av_new_ce hx) ?_
            rw [av_ce_arr hx1 (by omega), ← hz0]
            show H1[_]? = some (vp_cell _ _)
            rw [w1]
            simp [av_ac, av_new, va_up, vp_cell, defaultValue, newarray.typeOf]
          have k := hn _ _ _ _ g2 H1 locs sl (n1 + 1) (z1 + nn.toNatClampNeg) (by rw [av_new_len]; omega) (by rw [av_new_sz, hsl 101 (by omega) (by omega)]; omega) hR1 ⟨Nat.le_trans hS.1 (by omega), fun q a1 a2 => (w3 q (Nat.lt_of_lt_of_le a1 hS.1)).trans (hS.2.1 q a1 a2), hS.2.2⟩ hl
          rw [hnx] at k
          simp only [List.map_cons, av_vl, Option.map_some, va_rf, hfx] at k
          exact k
        · obtain ⟨rfl, rfl⟩ := hz
          refine va_newaK (atype := .char) hx hb (hts _ hKF.2.2.2.2.2.2.2.2.2.2.2.1) rfl hd rfl hnn rfl (by simp [componentBytes, newarray.typeOf]; omega) (by omega) (by omega) rfl (fun H1 cA w1 w2 w3 hAr hNm => ?_)
          have hcA : cA = kA 102 := Option.some.inj (hNm.symm.trans (hkA 2 _ rfl))
          subst hcA
          have hx1 : (av_new h 102 nn.toNatClampNeg).1[h.1.length]? = some (102, nn.toNatClampNeg) := by simp [av_new]
          have hR1 : av_RH D cl kA f B (av_new h 102 nn.toNatClampNeg) H1 := by
            refine hR.push hz0 w2 w3 (by rw [av_new_len]; omega) rfl (fun x hx => av_new_ce hx) ?_
            rw [av_ce_arr hx1 (by omega), ← hz0]
            show H1[_]? = some (vp_cell _ _)
            rw [w1]
            simp [av_ac, av_new, va_up, vp_cell, defaultValue, newarray.typeOf]
          have k := hn _ _ _ _ g2 H1 locs sl (n1 + 1) (z1 + nn.toNatClampNeg) (by rw [av_new_len]; omega) (by rw [av_new_sz, hsl 102 (by omega) (by omega)]; omega) hR1 ⟨Nat.le_trans hS.1 (by omega), fun q a1 a2 => (w3 q (Nat.lt_of_lt_of_le a1 hS.1)).trans (hS.2.1 q a1 a2), hS.2.2⟩ hl
          rw [hnx] at k
          simp only [List.map_cons, av_vl, Option.map_some, va_rf, hfx] at k
          exact k
        · obtain ⟨rfl, rfl⟩ := hz
          refine va_newaK (atype := .boolean) hx hb (hts _ hKF.2.2.2.2.2.2.2.2.2.2.2.2) rfl hd rfl hnn rfl (by simp [componentBytes, newarray.typeOf]; omega) (by omega) (by omega) rfl (fun H1 cA w1 w2 w3 hAr hNm => ?_)
          have hcA : cA = kA 103 := Option.some.inj (hNm.symm.trans (hkA 3 _ rfl))
          subst hcA
          have hx1 : (av_new h 103 nn.toNatClampNeg).1[h.1.length]? = some (103, nn.toNatClampNeg) := by simp [av_new]
          have hR1 : av_RH D cl kA f B (av_new h 103 nn.toNatClampNeg) H1 := by
            refine hR.push hz0 w2 w3 (by rw [av_new_len]; omega) rfl (fun x hx => av_new_ce hx) ?_
            rw [av_ce_arr hx1 (by omega), ← hz0]
            show H1[_]? = some (vp_cell _ _)
            rw [w1]
            simp [av_ac, av_new, va_up, vp_cell, defaultValue, newarray.typeOf]
          have k := hn _ _ _ _ g2 H1 locs sl (n1 + 1) (z1 + nn.toNatClampNeg) (by rw [av_new_len]; omega) (by rw [av_new_sz, hsl 103 (by omega) (by omega)]; omega) hR1 ⟨Nat.le_trans hS.1 (by omega), fun q a1 a2 => (w3 q (Nat.lt_of_lt_of_le a1 hS.1)).trans (hS.2.1 q a1 a2), hS.2.2⟩ hl
          rw [hnx] at k
          simp only [List.map_cons, av_vl, Option.map_some, va_rf, hfx] at k
          exact k
    all_goals cases hh
  · simp only [av_ck2, Bool.and_eq_true, decide_eq_true_eq] at hc
    obtain ⟨⟨rfl, hnx⟩, hz⟩ := hc
    obtain ⟨C, hz, hw⟩ := hKF.2.2.2.2.2.1 _ _ _ (List.contains_iff_mem.mp hz)
    split at hh
    · rename_i nn t
      obtain ⟨g9, g1, g2⟩ := Option.bind_eq_some_iff.mp hh
      unfold av_na at g1
      split at g1
      · cases g1
      · rename_i hnz
        cases g1
        have hnn : ¬ nn < 0 := fun z => hnz (Or.inl z)
        have hn2 : nn.toNatClampNeg ≤ 20000 := Nat.not_lt.mp fun z => hnz (Or.inr z)
        have hsl : ∀ k, 12 ≤ k → k ≠ 12 → av_sl cl (k, nn.toNatClampNeg) = nn.toNatClampNeg := by
          intro k h1 h2
          have : cl[k]? = none := List.getElem?_eq_none_iff.mpr (by omega)
          simp only [av_sl, this]
          rw [if_neg h2]
        have hmm := hm _ _ _ _ g2
        rw [av_new_len, av_new_sz, hsl a (by omega) (by omega)] at hmm
        refine av_bound (fun hle => ?_)
        have hz0 : H.size = B + h.1.length := by have := hR.1; omega
        have hfx : f h.1.length = H.size := by rw [hf _ (by have := hR.2.1; have := hmm.2.1; omega), hz0]
        rcases hz with hz | hz
        · obtain ⟨rfl, rfl⟩ := hz
          refine W.anew hx hb hown (hts _ hw) (va_AO.use hXF.2.2.2.1) rfl hd rfl hnn (by omega) (by omega) (by omega) (fun cA kA9 comp w1 w2 w3 w4 => ?_)
          have hcA : cA = kA 104 := Option.some.inj (w1.symm.trans (hkA 4 _ rfl))
          subst hcA
          generalize hH1 : H.push ({ cls := kA 104, slots := Array.replicate nn.toNatClampNeg .null, vm := .none } : Cell) = H1
          have y1 : H1.size = H.size + 1 := by rw [← hH1, Array.size_push]
          have y2 : H1[H.size]? = some (arrV (kA 104) nn.toNatClampNeg (fun _ => .null)) := by rw [← hH1, Array.getElem?_push_size, ← arrV_new]
          have y3 : ∀ q : Nat, q < H.size → H1[q]? = H[q]? := fun q hq => by rw [← hH1, Array.getElem?_push, if_neg (Nat.ne_of_lt hq)]
          have hx1 : (av_new h 104 nn.toNatClampNeg).1[h.1.length]? = some (104, nn.toNatClampNeg) := by simp [av_new]
          have hR1 : av_RH D cl kA f B (av_new h 104 nn.toNatClampNeg) H1 := by
            refine hR.push hz0 y1 y3 (by rw [av_new_len]; omega) rfl (fun x hx => av_new_ce hx) ?_
            rw [av_ce_arr hx1 (by omega), ← hz0]
            show H1[_]? = some (vp_cell _ _)
            rw [y2]
            simp [av_ac, av_new, va_up, vp_cell, va_rf]
          have k := hn _ _ _ _ g2 H1 locs sl (n1 + 1) (z1 + nn.toNatClampNeg) (by rw [av_new_len]; omega) (by rw [av_new_sz, hsl 104 (by omega) (by omega)]; omega) hR1 ⟨Nat.le_trans hS.1 (by omega), fun q a1 a2 => (y3 q (Nat.lt_of_lt_of_le a1 hS.1)).trans (hS.2.1 q a1 a2), hS.2.2⟩ hl
          rw [hnx] at k
          simp only [List.map_cons, av_vl, Option.map_some, va_rf, hfx] at k
          exact k
        · obtain ⟨rfl, rfl⟩ := hz
          refine W.anew hx hb hown (hts _ hw) (va_AO.use hXF.2.2.2.2) rfl hd rfl hnn (by omega) (by omega) (by omega) (fun cA kA9 comp w1 w2 w3 w4 => ?_)
          have hcA : cA = kA 105 := Option.some.inj (w1.symm.trans (hkA 5 _ rfl))
          subst hcA
          generalize hH1 : H.push ({ cls := kA 105, slots := Array.replicate nn.toNatClampNeg .null, vm := .none } : Cell) = H1
          have y1 : H1.size = H.size + 1 := by rw [← hH1, Array.size_push]
          have y2 : H1[H.size]? = some (arrV (kA 105) nn.toNatClampNeg (fun _ => .null)) := by rw [← hH1, Array.getElem?_push_size, ← arrV_new]
          have y3 : ∀ q : Nat, q < H.size → H1[q]? = H[q]? := fun q hq => by rw [← hH1, Array.getElem?_push, if_neg (Nat.ne_of_lt hq)]
          have hx1 : (av_new h 105 nn.toNatClampNeg).1[h.1.length]? = some (105, nn.toNatClampNeg) := by simp [av_new]
          have hR1 : av_RH D cl kA f B (av_new h 105 nn.toNatClampNeg) H1 := by
            refine hR.push hz0 y1 y3 (by rw [av_new_len]; omega) rfl (fun x hx => av_new_ce hx) ?_
            rw [av_ce_arr hx1 (by omega), ← hz0]
            show H1[_]? = some (vp_cell _ _)
            rw [y2]
            simp [av_ac, av_new, va_up, vp_cell, va_rf]
          have k := hn _ _ _ _ g2 H1 locs sl (n1 + 1) (z1 + nn.toNatClampNeg) (by rw [av_new_len]; omega) (by rw [av_new_sz, hsl 105 (by omega) (by omega)]; omega) hR1 ⟨Nat.le_trans hS.1 (by omega), fun q a1 a2 => (y3 q (Nat.lt_of_lt_of_le a1 hS.1)).trans (hS.2.1 q a1 a2), hS.2.2⟩ hl
          rw [hnx] at k
          simp only [List.map_cons, av_vl, Option.map_some, va_rf, hfx] at k
          exact k
    all_goals cases hh
  · simp only [av_ck2, Bool.and_eq_true, decide_eq_true_eq] at hc
    obtain ⟨⟨rfl, hnx⟩, hz⟩ := hc
    cases hok : (av_ok8 (st.drop b) && Nat.ble b st.length) with
    | false => rw [hok] at hh; cases hh
    | true =>
      rw [hok] at hh
      simp only [Bool.and_eq_true] at hok
      obtain ⟨ov, h3, g1, g2⟩ := av_res_some hh
      have hlen : b ≤ st.length := Nat.le_of_ble_eq_true hok.2
      have k := hinv _ a b c 0 0 (st.take b).reverse (st.drop b) h ov h3 H locs sl n1 z1 (List.contains_iff_mem.mp hz) g1 hok.1 (fun _ => ⟨hd, by simp; omega⟩) (fun z => absurd z (by decide)) (fun z => absurd z (by decide)) e1 e2 hR hS hl.1 (hm _ _ _ _ g2) (fun H1 locs1 n2 z2 y1 y2 hR1 hS1 => by
        have k := hn _ _ _ _ g2 H1 locs1 sl n2 z2 y1 y2 hR1 hS1 hl
        rw [hnx] at k
        exact k)
      rw [List.reverse_reverse, List.take_append_drop] at k
      exact k
  · simp only [av_ck2, Bool.and_eq_true, decide_eq_true_eq] at hc
    obtain ⟨⟨rfl, hnx⟩, hz⟩ := hc
    split at hh
    · rename_i r0 t hdr
      cases hok : av_ok8 t with
      | false => rw [hok] at hh; cases hh
      | true =>
        rw [hok] at hh
        simp only [cond_true] at hh
        have hlen : b < st.length := by
          have := congrArg List.length hdr
          simp at this
          omega
        have fin : ∀ (hq : d ≠ 9000 → av_is h r0 d = true), av_res next c i ls t (call a (.inr (.inr r0) :: (st.take b).reverse) h) = some r → W p l e R s m args below meth cd H locs n1 z1 Q (F0 m pc sl (st.map (av_vl f))) := by
          intro hq hh
          obtain ⟨ov, h3, g1, g2⟩ := av_res_some hh
          have k := hinv _ a b c 1 d (.inr (.inr r0) :: (st.take b).reverse) t h ov h3 H locs sl n1 z1 (List.contains_iff_mem.mp hz) g1 hok (fun z => absurd z (by decide)) (fun _ => ⟨hd, by simp; omega, r0, rfl, hq⟩) (fun z => absurd z (by decide)) e1 e2 hR hS hl.1 (hm _ _ _ _ g2) (fun H1 locs1 n2 z2 y1 y2 hR1 hS1 => by
            have k := hn _ _ _ _ g2 H1 locs1 sl n2 z2 y1 y2 hR1 hS1 hl
            rw [hnx] at k
            exact k)
          rw [List.reverse_cons, List.reverse_reverse, List.append_assoc, List.singleton_append, ← hdr, List.take_append_drop] at k
          exact k
        split at hh
        · exact fin (fun z => absurd rfl z) hh
        · split at hh
          · rename_i his
            exact fin (fun _ => his) hh
          · cases hh
    all_goals cases hh
  · simp only [av_ck2, Bool.and_eq_true, decide_eq_true_eq] at hc
    obtain ⟨⟨rfl, hnx⟩, hz⟩ := hc
    split at hh
    · rename_i r0 t hdr
      cases hok : av_ok8 t with
      | false => rw [hok] at hh; cases hh
      | true =>
        rw [hok] at hh
        simp only [cond_true] at hh
        split at hh
        · rename_i his
          have hlen : b < st.length := by
            have := congrArg List.length hdr
            simp at this
            omega
          split at hh
          · simp only [Bool.and_eq_true, decide_eq_true_eq] at hz
            obtain ⟨rfl, hz⟩ := hz
            obtain ⟨x, n, rfl, hx1⟩ := av_is_some his
            simp only [List.drop_zero] at hdr
            subst hdr
            have k := hn _ _ _ _ hh H locs sl n1 z1 e1 e2 hR hS hl
            rw [hnx] at k
            have h8 := Nat.le_of_ble_eq_true hok
            refine W.objInit hx hb hown (hts _ (hKF.2.2.2.2.2.2.1 _ _ (List.contains_iff_mem.mp hz))) (hts _ hKF.2.2.2.2.2.2.2.1) (hts _ hKF.2.2.2.2.2.2.2.2.1) rfl (hl.1.trans hml.symm) rfl hd hRf ?_ k
            have h9 := av_ok_sum (f := f) hok
            show 2 * 0 + _ + 12 ≤ _
            omega
          · rename_i hc9
            split at hz
            · exact absurd rfl hc9
            · obtain ⟨ov, h3, g1, g2⟩ := av_res_some hh
              have k := hinv _ a b c 2 d (.inr (.inr r0) :: (st.take b).reverse) t h ov h3 H locs sl n1 z1 (List.contains_iff_mem.mp hz) g1 hok (fun z => absurd z (by decide)) (fun z => absurd z (by decide)) (fun _ => ⟨hd, by simp; omega, r0, rfl, his⟩) e1 e2 hR hS hl.1 (hm _ _ _ _ g2) (fun H1 locs1 n2 z2 y1 y2 hR1 hS1 => by
                have k := hn _ _ _ _ g2 H1 locs1 sl n2 z2 y1 y2 hR1 hS1 hl
                rw [hnx] at k
                exact k)
              rw [List.reverse_cons, List.reverse_reverse, List.append_assoc, List.singleton_append, ← hdr, List.take_append_drop] at k
              exact k
        · cases hh
    all_goals cases hh
  · simp only [av_ck2, Bool.and_eq_true, decide_eq_true_eq] at hc
    obtain ⟨rfl, hrb⟩ := hc
    split at hh
    · rename_i v
      split at hh
      · obtain ⟨z, g1, g2⟩ := Option.bind_eq_some_iff.mp hh
        unfold av_bz at g1
        split at g1
        · rename_i hv
          cases g1
          cases g2
          exact hEI _ rfl hrb (fun _ => hv) hd H locs sl n1 z1 e1 e2 hR hS
        · cases g1
      · rename_i h4
        cases hh
        exact hEI _ rfl hrb (fun z => absurd z h4) hd H locs sl n1 z1 e1 e2 hR hS
    all_goals cases hh
  · simp only [av_ck2, Bool.and_eq_true, decide_eq_true_eq] at hc
    obtain ⟨rfl, hrb⟩ := hc
    split at hh
    · cases hh
      exact hEL _ rfl hrb hd H locs sl n1 z1 e1 e2 hR hS
    all_goals cases hh
  · simp only [av_ck2, Bool.and_eq_true, decide_eq_true_eq] at hc
    obtain ⟨rfl, hrb⟩ := hc
    split at hh
    · cases hh
      exact hEV rfl hrb hd H locs sl n1 z1 e1 e2 hR hS
    all_goals cases hh
  · cases hh
end
