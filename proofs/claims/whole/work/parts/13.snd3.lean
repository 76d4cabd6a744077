/-! one instruction -/
section
variable {p : Program} {l : Launch} {e : Env} {R : Room} {s : State} {m : MethodId} {args : Array Value} {below : List Frame} {meth : Method} {cd : Code} {Q : State → Prop}
variable {D : va_G} {cl : List vw_C} {kA : Nat → ClassId} {f : Nat → Nat} {B nL n0 z0 : Nat} {cc : ByteArray} {tb : List Cond} {ty : Nat → Nat → FieldType} {ON : Nat → String} {K : av_KT} {X : av_X} {o mi0 : Nat} {pcOf : Nat → Nat}
set_option maxHeartbeats 8000000 in
theorem av_ins_ok (hx : p.tables.exec = Jvm.exec) (hb : cd.code = cc) (hml : cd.maxLocals = nL) (hown : s.vm.findClass (ON o) = some m.cls) (hts : ∀ w ∈ tb, w.before args s = true) (hK : va_K D cl (av_tys kA (ON)) s) (hKF : av_KF tb cl ty ON K) (hXF : av_XF K ON f B X tb s)
    (hf : ∀ a, a < 1000000 → f a = B + a) (hs0 : s.heap.size = B + n0) (hmi : mi0 = 1 → meth.name = "<init>") (hkA : ∀ (k : Nat) (q : ClassId × FieldType), (av_tys kA ON)[k]? = some q → s.vm.findClass ("[" ++ q.2.toString) = some q.1)
    (hcl : cl.length = 12) (hRf : 1 ≤ R.frames) (hRl : 20 ≤ R.locals)
    {call : av_C} {rb : Nat} {next : av_B} {ins : Instr} {a b c d : Nat} {zi : Int32} {zl : Int64} {ts : List (Int32 × Nat)} {i pc len : Nat} {ls : av_L} {st : List av_V} {h : av_H} {r : Option (Option av_V) × av_H}
    (hd : decode cc pc = .ok (ins, len)) (hpc : pcOf i = pc) (hc : av_ck2 K o mi0 nL pcOf i pc len ins a b c d zi zl ts = true)
    (hn : ∀ i2 ls2 st2 h2, next i2 ls2 st2 h2 = some r → av_AT (fun H locs n z g => W p l e R s m args below meth cd H locs n z Q g) (av_RH D cl kA f B) (av_sz cl) s.heap B nL n0 z0 f m pcOf i2 ls2 st2 h2)
    (hm : ∀ i2 ls2 st2 h2, next i2 ls2 st2 h2 = some r → h2.1.length ≤ n0 + R.cells ∧ h2.1.length ≤ 1000000 ∧ av_sz cl h2 ≤ z0 + R.slots)
    (hinv : ∀ (ix mi nb rc op dc : Nat) (as : List av_V) (rest : List av_V) (h2 : av_H) (ov : Option av_V) (h3 : av_H) (H : Heap) (locs : List Loc) (sl : Array Slot) (n1 z1 : Nat), (o, ix, mi, op, nb, rc, dc) ∈ K.2.2.2.2.2.2.2.2 → call mi as h2 = some (some ov, h3) → av_ok8 rest = true →
      (op = 0 → decode cc pc = .ok (.invokestatic ix, 3) ∧ as.length = nb) → (op = 1 → decode cc pc = .ok (.invokevirtual ix, 3) ∧ as.length = nb + 1 ∧ ∃ a, as[0]? = some (.inr (.inr a)) ∧ av_is h2 a dc = true) → (op = 2 → decode cc pc = .ok (.invokespecial ix, 3) ∧ as.length = nb + 1 ∧ ∃ a, as[0]? = some (.inr (.inr a)) ∧ av_is h2 a dc = true) →
      n0 + n1 = h2.1.length → z0 + z1 = av_sz cl h2 → av_RH D cl kA f B h2 H → va_S (fun q => B ≤ q) s.heap H locs → sl.size = nL →
      (∀ (H1 : Heap) (locs1 : List Loc) (n2 z2 : Nat), n0 + n2 = h3.1.length → z0 + z2 = av_sz cl h3 → av_RH D cl kA f B h3 H1 → va_S (fun q => B ≤ q) s.heap H1 locs1 → W p l e R s m args below meth cd H1 locs1 n2 z2 Q (F0 m (pc + 3) sl ((ov.toList ++ rest).map (av_vl f)))) →
      W p l e R s m args below meth cd H locs n1 z1 Q (F0 m pc sl ((as.reverse ++ rest).map (av_vl f))))
    (hEI : ∀ v, r = (some (some (.inl v)), h) → (rb = 4 → v = 0 ∨ v = 1) → decode cc pc = .ok (.ireturn, 1) → ∀ (H : Heap) (locs : List Loc) (sl : Array Slot) (n1 z1 : Nat), n0 + n1 = h.1.length → z0 + z1 = av_sz cl h → av_RH D cl kA f B h H → va_S (fun q => B ≤ q) s.heap H locs → W p l e R s m args below meth cd H locs n1 z1 Q (F0 m pc sl [.int v]))
    (hEL : ∀ v, r = (some (some (.inr (.inl v))), h) → decode cc pc = .ok (.lreturn, 1) → ∀ (H : Heap) (locs : List Loc) (sl : Array Slot) (n1 z1 : Nat), n0 + n1 = h.1.length → z0 + z1 = av_sz cl h → av_RH D cl kA f B h H → va_S (fun q => B ≤ q) s.heap H locs → W p l e R s m args below meth cd H locs n1 z1 Q (F0 m pc sl [.long v]))
    (hEV : r = (some none, h) → decode cc pc = .ok (.return_, 1) → ∀ (H : Heap) (locs : List Loc) (sl : Array Slot) (n1 z1 : Nat), n0 + n1 = h.1.length → z0 + z1 = av_sz cl h → av_RH D cl kA f B h H → va_S (fun q => B ≤ q) s.heap H locs → W p l e R s m args below meth cd H locs n1 z1 Q (F0 m pc sl []))
    (hEX : ∀ ix, ins = .new ix → c ≠ 0 → r = (none, av_new h a 0) → ∀ (H : Heap) (locs : List Loc) (sl : Array Slot) (n1 z1 : Nat), n0 + n1 = h.1.length → z0 + z1 = av_sz cl h → av_RH D cl kA f B h H → va_S (fun q => B ≤ q) s.heap H locs → sl.size = nL → W p l e R s m args below meth cd H locs n1 z1 Q (F0 m pc sl (st.map (av_vl f))))
    (hh : av_ins X call rb next ins a b c d zi zl ts i ls st h = some r) : av_AT (fun H locs n z g => W p l e R s m args below meth cd H locs n z Q g) (av_RH D cl kA f B) (av_sz cl) s.heap B nL n0 z0 f m pcOf i ls st h := by
  intro H locs sl n1 z1 e1 e2 hR hS hl
  show W p l e R s m args below meth cd H locs n1 z1 Q (F0 m (pcOf i) sl (st.map (av_vl f)))
  rw [hpc]
  unfold av_ins at hh
  split at hh
  · simp only [av_ck2, Bool.and_eq_true, decide_eq_true_eq] at hc
    obtain ⟨⟨rfl, hnx⟩, hz⟩ := hc
    have k := hn _ _ _ _ hh H locs sl n1 z1 e1 e2 hR hS hl
    rw [hnx] at k
    exact lv_iconst hx hb hd hz k
  · simp only [av_ck2, Bool.and_eq_true, decide_eq_true_eq] at hc
    obtain ⟨⟨rfl, hnx⟩, hz⟩ := hc
    have k := hn _ _ _ _ hh H locs sl n1 z1 e1 e2 hR hS hl
    rw [hnx] at k
    exact lv_bipush hx hb hd hz k
  · simp only [av_ck2, Bool.and_eq_true, decide_eq_true_eq] at hc
    obtain ⟨⟨rfl, hnx⟩, hz⟩ := hc
    have k := hn _ _ _ _ hh H locs sl n1 z1 e1 e2 hR hS hl
    rw [hnx] at k
    exact lv_sipush hx hb hd hz k
  · simp only [av_ck2, Bool.and_eq_true, decide_eq_true_eq] at hc
    obtain ⟨⟨rfl, hnx⟩, hz⟩ := hc
    split at hh
    · have k := hn _ _ _ _ hh H locs sl n1 z1 e1 e2 hR hS hl
      rw [hnx] at k
      exact lv_ldc hx hb hown (hts _ (hKF.2.2.1 _ _ _ (List.contains_iff_mem.mp hz))) hd k
    · have k := hn _ _ _ _ hh H locs sl n1 z1 e1 e2 hR hS hl
      rw [hnx] at k
      rename_i hc0
      cases c with
      | zero => exact absurd rfl hc0
      | succ c =>
        simp only at hz
        obtain ⟨tx, hv⟩ := hXF.2.1 _ _ _ (List.contains_iff_mem.mp hz)
        exact va_ldcS hx hb hown hv hd k
  · simp only [av_ck2, Bool.and_eq_true, decide_eq_true_eq] at hc
    obtain ⟨⟨rfl, hnx⟩, hz⟩ := hc
    have k := hn _ _ _ _ hh H locs sl n1 z1 e1 e2 hR hS hl
    rw [hnx] at k
    exact lv_ldcw hx hb hown (hts _ (hKF.2.2.1 _ _ _ (List.contains_iff_mem.mp hz))) hd k
  · simp only [av_ck2, Bool.and_eq_true, decide_eq_true_eq] at hc
    obtain ⟨⟨rfl, hnx⟩, hz⟩ := hc
    have k := hn _ _ _ _ hh H locs sl n1 z1 e1 e2 hR hS hl
    rw [hnx] at k
    exact lv_lconst hx hb hd hz k
  · simp only [av_ck2, Bool.and_eq_true, decide_eq_true_eq] at hc
    obtain ⟨⟨rfl, hnx⟩, hz⟩ := hc
    have k := hn _ _ _ _ hh H locs sl n1 z1 e1 e2 hR hS hl
    rw [hnx] at k
    exact lv_ldc2 hx hb hown (hts _ (hKF.2.2.2.1 _ _ _ (List.contains_iff_mem.mp hz))) hd k
  · simp only [av_ck2, Bool.and_eq_true, decide_eq_true_eq] at hc
    obtain ⟨⟨rfl, hnx⟩, hz⟩ := hc
    have k := hn _ _ _ _ hh H locs sl n1 z1 e1 e2 hR hS hl
    rw [hnx] at k
    obtain ⟨C, nm, dd, hZ, hw⟩ := hXF.2.2 _ _ _ (List.contains_iff_mem.mp hz)
    exact va_gets hx hb hZ hS hown (hts _ hw) (fun _ h => h) hd k
  · simp only [av_ck2, Bool.and_eq_true, decide_eq_true_eq] at hc
    obtain ⟨rfl, hnx⟩ := hc
    split at hh
    · rename_i hg
      have k := hn _ _ _ _ hh H locs sl n1 z1 e1 e2 hR hS hl
      rw [hnx] at k
      exact lv_iload hx hb hd (av_loc hl hg) k
    all_goals cases hh
  · simp only [av_ck2, Bool.and_eq_true, decide_eq_true_eq] at hc
    obtain ⟨rfl, hnx⟩ := hc
    split at hh
    · rename_i hg
      have k := hn _ _ _ _ hh H locs sl n1 z1 e1 e2 hR hS hl
      rw [hnx] at k
      exact lv_iload_n hx hb hd rfl (av_loc hl hg) k
    all_goals cases hh
  · simp only [av_ck2, Bool.and_eq_true, decide_eq_true_eq] at hc
    obtain ⟨rfl, hnx⟩ := hc
    split at hh
    · rename_i hg
      have k := hn _ _ _ _ hh H locs sl n1 z1 e1 e2 hR hS hl
      rw [hnx] at k
      exact lv_lload hx hb hd (av_loc hl hg) k
    all_goals cases hh
  · simp only [av_ck2, Bool.and_eq_true, decide_eq_true_eq] at hc
    obtain ⟨rfl, hnx⟩ := hc
    split at hh
    · rename_i hg
      have k := hn _ _ _ _ hh H locs sl n1 z1 e1 e2 hR hS hl
      rw [hnx] at k
      exact lv_lload_n hx hb hd rfl (av_loc hl hg) k
    all_goals cases hh
  · simp only [av_ck2, Bool.and_eq_true, decide_eq_true_eq] at hc
    obtain ⟨rfl, hnx⟩ := hc
    split at hh
    · rename_i x hg
      have k := hn _ _ _ _ hh H locs sl n1 z1 e1 e2 hR hS hl
      rw [hnx] at k
      cases x with
      | none => exact lv_aloadN hx hb hd (av_loc hl hg) k
      | some x => exact lv_aload hx hb hd (av_loc hl hg) k
    all_goals cases hh
  · simp only [av_ck2, Bool.and_eq_true, decide_eq_true_eq] at hc
    obtain ⟨rfl, hnx⟩ := hc
    split at hh
    · rename_i x hg
      have k := hn _ _ _ _ hh H locs sl n1 z1 e1 e2 hR hS hl
      rw [hnx] at k
      cases x with
      | none => exact lv_aload_nN hx hb hd rfl (av_loc hl hg) k
      | some x => exact lv_aload_n hx hb hd rfl (av_loc hl hg) k
    all_goals cases hh
  · simp only [av_ck2, Bool.and_eq_true, decide_eq_true_eq] at hc
    obtain ⟨⟨rfl, hnx⟩, hz⟩ := hc
    split at hh
    · refine lv_istore hx hb hd hl hz (av_set_lm f ls _ (.inl _)) (fun sl2 hl2 => ?_)
      have k := hn _ _ _ _ hh H locs sl2 n1 z1 e1 e2 hR hS hl2
      rw [hnx] at k
      exact k
    all_goals cases hh
  · simp only [av_ck2, Bool.and_eq_true, decide_eq_true_eq] at hc
    obtain ⟨⟨rfl, hnx⟩, hz⟩ := hc
    split at hh
    · refine lv_istore_n hx hb hd rfl hl hz (av_set_lm f ls _ (.inl _)) (fun sl2 hl2 => ?_)
      have k := hn _ _ _ _ hh H locs sl2 n1 z1 e1 e2 hR hS hl2
      rw [hnx] at k
      exact k
    all_goals cases hh
  · simp only [av_ck2, Bool.and_eq_true, decide_eq_true_eq] at hc
    obtain ⟨⟨rfl, hnx⟩, hz⟩ := hc
    split at hh
    · refine lv_lstore hx hb hd hl hz (av_set2_lm f ls _ (.inr (.inl _))) (fun sl2 hl2 => ?_)
      have k := hn _ _ _ _ hh H locs sl2 n1 z1 e1 e2 hR hS hl2
      rw [hnx] at k
      exact k
    all_goals cases hh
  · simp only [av_ck2, Bool.and_eq_true, decide_eq_true_eq] at hc
    obtain ⟨⟨rfl, hnx⟩, hz⟩ := hc
    split at hh
    · refine lv_lstore_n hx hb hd rfl hl hz (av_set2_lm f ls _ (.inr (.inl _))) (fun sl2 hl2 => ?_)
      have k := hn _ _ _ _ hh H locs sl2 n1 z1 e1 e2 hR hS hl2
      rw [hnx] at k
      exact k
    all_goals cases hh
  · simp only [av_ck2, Bool.and_eq_true, decide_eq_true_eq] at hc
    obtain ⟨⟨rfl, hnx⟩, hz⟩ := hc
    split at hh
    · rename_i x t
      cases x with
      | none =>
        refine lv_astoreN hx hb hd hl hz (av_set_lm f ls _ (.inr (.inr none))) (fun sl2 hl2 => ?_)
        have k := hn _ _ _ _ hh H locs sl2 n1 z1 e1 e2 hR hS hl2
        rw [hnx] at k
        exact k
      | some x =>
        refine lv_astore hx hb hd hl hz (av_set_lm f ls _ (.inr (.inr (some x)))) (fun sl2 hl2 => ?_)
        have k := hn _ _ _ _ hh H locs sl2 n1 z1 e1 e2 hR hS hl2
        rw [hnx] at k
        exact k
    all_goals cases hh
  · simp only [av_ck2, Bool.and_eq_true, decide_eq_true_eq] at hc
    obtain ⟨⟨rfl, hnx⟩, hz⟩ := hc
    split at hh
    · rename_i x t
      cases x with
      | none =>
        refine lv_astore_nN hx hb hd rfl hl hz (av_set_lm f ls _ (.inr (.inr none))) (fun sl2 hl2 => ?_)
        have k := hn _ _ _ _ hh H locs sl2 n1 z1 e1 e2 hR hS hl2
        rw [hnx] at k
        exact k
      | some x =>
        refine lv_astore_n hx hb hd rfl hl hz (av_set_lm f ls _ (.inr (.inr (some x)))) (fun sl2 hl2 => ?_)
        have k := hn _ _ _ _ hh H locs sl2 n1 z1 e1 e2 hR hS hl2
        rw [hnx] at k
        exact k
    all_goals cases hh
  · simp only [av_ck2, Bool.and_eq_true, decide_eq_true_eq] at hc
    obtain ⟨⟨⟨rfl, hnx⟩, hz⟩, hz2⟩ := hc
    split at hh
    · rename_i x hg
      obtain ⟨k0, hk0⟩ := av_locE (f := f) hg
      refine lv_iinc hx hb hd hl hk0 (by rw [hz2]) hz (av_set_lm f ls _ (.inl _)) (fun sl2 hl2 => ?_)
      have k := hn _ _ _ _ hh H locs sl2 n1 z1 e1 e2 hR hS hl2
      rw [hnx] at k
      exact k
    all_goals cases hh
  · simp only [av_ck2, Bool.and_eq_true, decide_eq_true_eq] at hc
    obtain ⟨rfl, hnx⟩ := hc
    split at hh
    · have k := hn _ _ _ _ hh H locs sl n1 z1 e1 e2 hR hS hl
      rw [hnx] at k
      exact lv_iadd hx hb hd k
    all_goals cases hh
  · simp only [av_ck2, Bool.and_eq_true, decide_eq_true_eq] at hc
    obtain ⟨rfl, hnx⟩ := hc
    split at hh
    · have k := hn _ _ _ _ hh H locs sl n1 z1 e1 e2 hR hS hl
      rw [hnx] at k
      exact lv_isub hx hb hd k
    all_goals cases hh
  · simp only [av_ck2, Bool.and_eq_true, decide_eq_true_eq] at hc
    obtain ⟨rfl, hnx⟩ := hc
    split at hh
    · have k := hn _ _ _ _ hh H locs sl n1 z1 e1 e2 hR hS hl
      rw [hnx] at k
      exact lv_imul hx hb hd k
    all_goals cases hh
  · simp only [av_ck2, Bool.and_eq_true, decide_eq_true_eq] at hc
    obtain ⟨rfl, hnx⟩ := hc
    split at hh
    · have k := hn _ _ _ _ hh H locs sl n1 z1 e1 e2 hR hS hl
      rw [hnx] at k
      exact lv_iand hx hb hd k
    all_goals cases hh
  · simp only [av_ck2, Bool.and_eq_true, decide_eq_true_eq] at hc
    obtain ⟨rfl, hnx⟩ := hc
    split at hh
    · have k := hn _ _ _ _ hh H locs sl n1 z1 e1 e2 hR hS hl
      rw [hnx] at k
      exact lv_ior hx hb hd k
    all_goals cases hh
  · simp only [av_ck2, Bool.and_eq_true, decide_eq_true_eq] at hc
    obtain ⟨rfl, hnx⟩ := hc
    split at hh
    · have k := hn _ _ _ _ hh H locs sl n1 z1 e1 e2 hR hS hl
      rw [hnx] at k
      exact lv_ixor hx hb hd k
    all_goals cases hh
  · simp only [av_ck2, Bool.and_eq_true, decide_eq_true_eq] at hc
    obtain ⟨rfl, hnx⟩ := hc
    split at hh
    · have k := hn _ _ _ _ hh H locs sl n1 z1 e1 e2 hR hS hl
      rw [hnx] at k
      exact lv_ishl hx hb hd k
    all_goals cases hh
  · simp only [av_ck2, Bool.and_eq_true, decide_eq_true_eq] at hc
    obtain ⟨rfl, hnx⟩ := hc
    split at hh
    · have k := hn _ _ _ _ hh H locs sl n1 z1 e1 e2 hR hS hl
      rw [hnx] at k
      exact lv_ishr hx hb hd k
    all_goals cases hh
  · simp only [av_ck2, Bool.and_eq_true, decide_eq_true_eq] at hc
    obtain ⟨rfl, hnx⟩ := hc
    split at hh
    · have k := hn _ _ _ _ hh H locs sl n1 z1 e1 e2 hR hS hl
      rw [hnx] at k
      exact lv_iushr hx hb hd rfl k
    all_goals cases hh
  · simp only [av_ck2, Bool.and_eq_true, decide_eq_true_eq] at hc
    obtain ⟨rfl, hnx⟩ := hc
    split at hh
    · split at hh
      · cases hh
      · rename_i hne
        have k := hn _ _ _ _ hh H locs sl n1 z1 e1 e2 hR hS hl
        rw [hnx] at k
        exact lv_idiv hx hb hd hne k
    all_goals cases hh
  · simp only [av_ck2, Bool.and_eq_true, decide_eq_true_eq] at hc
    obtain ⟨rfl, hnx⟩ := hc
    split at hh
    · split at hh
      · cases hh
      · rename_i hne
        have k := hn _ _ _ _ hh H locs sl n1 z1 e1 e2 hR hS hl
        rw [hnx] at k
        exact lv_irem hx hb hd hne k
    all_goals cases hh
  · simp only [av_ck2, Bool.and_eq_true, decide_eq_true_eq] at hc
    obtain ⟨rfl, hnx⟩ := hc
    split at hh
    · have k := hn _ _ _ _ hh H locs sl n1 z1 e1 e2 hR hS hl
      rw [hnx] at k
      exact lv_ineg hx hb hd k
    all_goals cases hh
  · simp only [av_ck2, Bool.and_eq_true, decide_eq_true_eq] at hc
    obtain ⟨rfl, hnx⟩ := hc
    split at hh
    · have k := hn _ _ _ _ hh H locs sl n1 z1 e1 e2 hR hS hl
      rw [hnx] at k
      exact lv_ladd hx hb hd k
    all_goals cases hh
  · simp only [av_ck2, Bool.and_eq_true, decide_eq_true_eq] at hc
    obtain ⟨rfl, hnx⟩ := hc
    split at hh
    · have k := hn _ _ _ _ hh H locs sl n1 z1 e1 e2 hR hS hl
      rw [hnx] at k
      exact lv_lsub hx hb hd k
    all_goals cases hh
  · simp only [av_ck2, Bool.and_eq_true, decide_eq_true_eq] at hc
    obtain ⟨rfl, hnx⟩ := hc
    split at hh
    · have k := hn _ _ _ _ hh H locs sl n1 z1 e1 e2 hR hS hl
      rw [hnx] at k
      exact lv_lmul hx hb hd k
    all_goals cases hh
  · simp only [av_ck2, Bool.and_eq_true, decide_eq_true_eq] at hc
    obtain ⟨rfl, hnx⟩ := hc
    split at hh
    · have k := hn _ _ _ _ hh H locs sl n1 z1 e1 e2 hR hS hl
      rw [hnx] at k
      exact lv_land hx hb hd k
    all_goals cases hh
  · simp only [av_ck2, Bool.and_eq_true, decide_eq_true_eq] at hc
    obtain ⟨rfl, hnx⟩ := hc
    split at hh
    · have k := hn _ _ _ _ hh H locs sl n1 z1 e1 e2 hR hS hl
      rw [hnx] at k
      exact lv_lor hx hb hd k
    all_goals cases hh
  · simp only [av_ck2, Bool.and_eq_true, decide_eq_true_eq] at hc
    obtain ⟨rfl, hnx⟩ := hc
    split at hh
    · have k := hn _ _ _ _ hh H locs sl n1 z1 e1 e2 hR hS hl
      rw [hnx] at k
      exact lv_lxor hx hb hd k
    all_goals cases hh
  · simp only [av_ck2, Bool.and_eq_true, decide_eq_true_eq] at hc
    obtain ⟨rfl, hnx⟩ := hc
    split at hh
    · split at hh
      · cases hh
      · rename_i hne
        have k := hn _ _ _ _ hh H locs sl n1 z1 e1 e2 hR hS hl
        rw [hnx] at k
        exact lv_ldiv hx hb hd hne k
    all_goals cases hh
  · simp only [av_ck2, Bool.and_eq_true, decide_eq_true_eq] at hc
    obtain ⟨rfl, hnx⟩ := hc
    split at hh
    · split at hh
      · cases hh
      · rename_i hne
        have k := hn _ _ _ _ hh H locs sl n1 z1 e1 e2 hR hS hl
        rw [hnx] at k
        exact lv_lrem hx hb hd hne k
    all_goals cases hh
  · simp only [av_ck2, Bool.and_eq_true, decide_eq_true_eq] at hc
    obtain ⟨rfl, hnx⟩ := hc
    split at hh
    · have k := hn _ _ _ _ hh H locs sl n1 z1 e1 e2 hR hS hl
      rw [hnx] at k
      exact lv_lshl hx hb hd rfl k
    all_goals cases hh
  · simp only [av_ck2, Bool.and_eq_true, decide_eq_true_eq] at hc
    obtain ⟨rfl, hnx⟩ := hc
    split at hh
    · have k := hn _ _ _ _ hh H locs sl n1 z1 e1 e2 hR hS hl
      rw [hnx] at k
      exact lv_lshr hx hb hd rfl k
    all_goals cases hh
  · simp only [av_ck2, Bool.and_eq_true, decide_eq_true_eq] at hc
    obtain ⟨rfl, hnx⟩ := hc
    split at hh
    · have k := hn _ _ _ _ hh H locs sl n1 z1 e1 e2 hR hS hl
      rw [hnx] at k
      exact lv_lushr hx hb hd rfl k
    all_goals cases hh
  · simp only [av_ck2, Bool.and_eq_true, decide_eq_true_eq] at hc
    obtain ⟨rfl, hnx⟩ := hc
    split at hh
    · have k := hn _ _ _ _ hh H locs sl n1 z1 e1 e2 hR hS hl
      rw [hnx] at k
      exact W.lcmp hx hb hd k
    all_goals cases hh
  · simp only [av_ck2, Bool.and_eq_true, decide_eq_true_eq] at hc
    obtain ⟨rfl, hnx⟩ := hc
    split at hh
    · have k := hn _ _ _ _ hh H locs sl n1 z1 e1 e2 hR hS hl
      rw [hnx] at k
      exact lv_i2l hx hb hd rfl k
    all_goals cases hh
  · simp only [av_ck2, Bool.and_eq_true, decide_eq_true_eq] at hc
    obtain ⟨rfl, hnx⟩ := hc
    split at hh
    · have k := hn _ _ _ _ hh H locs sl n1 z1 e1 e2 hR hS hl
      rw [hnx] at k
      exact lv_l2i hx hb hd rfl k
    all_goals cases hh
  · simp only [av_ck2, Bool.and_eq_true, decide_eq_true_eq] at hc
    obtain ⟨rfl, hnx⟩ := hc
    split at hh
    · have k := hn _ _ _ _ hh H locs sl n1 z1 e1 e2 hR hS hl
      rw [hnx] at k
      exact lv_i2c hx hb hd rfl k
    all_goals cases hh
  · simp only [av_ck2, Bool.and_eq_true, decide_eq_true_eq] at hc
    obtain ⟨rfl, hnx⟩ := hc
    split at hh
    · have k := hn _ _ _ _ hh H locs sl n1 z1 e1 e2 hR hS hl
      rw [hnx] at k
      exact lv_dup hx hb hd rfl k
    · have k := hn _ _ _ _ hh H locs sl n1 z1 e1 e2 hR hS hl
      rw [hnx] at k
      exact lv_dup hx hb hd (av_rf_cat _) k
    all_goals cases hh
  · simp only [av_ck2, Bool.and_eq_true, decide_eq_true_eq] at hc
    obtain ⟨rfl, hnx⟩ := hc
    split at hh
    · have k := hn _ _ _ _ hh H locs sl n1 z1 e1 e2 hR hS hl
      rw [hnx] at k
      exact lv_dup2_11 hx hb hd rfl (av_rf_cat _) k
    all_goals cases hh
  · simp only [av_ck2, Bool.and_eq_true, decide_eq_true_eq] at hc
    obtain ⟨rfl, hnx⟩ := hc
    split at hh
    · have k := hn _ _ _ _ hh H locs sl n1 z1 e1 e2 hR hS hl
      rw [hnx] at k
      exact lv_pop hx hb hd rfl k
    · have k := hn _ _ _ _ hh H locs sl n1 z1 e1 e2 hR hS hl
      rw [hnx] at k
      exact lv_pop hx hb hd (av_rf_cat _) k
    all_goals cases hh
  · simp only [av_ck2, Bool.and_eq_true, decide_eq_true_eq] at hc
    obtain ⟨⟨rfl, hnx⟩, hz⟩ := hc
    split at hh
    · refine lv_if_eq hx hb hd hz (fun q => ?_) (fun q => ?_)
      · rw [if_pos (q)] at hh
        have k := hn _ _ _ _ hh H locs sl n1 z1 e1 e2 hR hS hl
        exact k
      · rw [if_neg (q)] at hh
        have k := hn _ _ _ _ hh H locs sl n1 z1 e1 e2 hR hS hl
        rw [hnx] at k
        exact k
    all_goals cases hh
  · simp only [av_ck2, Bool.and_eq_true, decide_eq_true_eq] at hc
    obtain ⟨⟨rfl, hnx⟩, hz⟩ := hc
    split at hh
    · refine lv_if_ne hx hb hd hz (fun q => ?_) (fun q => ?_)
      · rw [if_neg (q)] at hh
        have k := hn _ _ _ _ hh H locs sl n1 z1 e1 e2 hR hS hl
        exact k
      · rw [if_pos (q)] at hh
        have k := hn _ _ _ _ hh H locs sl n1 z1 e1 e2 hR hS hl
        rw [hnx] at k
        exact k
    all_goals cases hh
  · simp only [av_ck2, Bool.and_eq_true, decide_eq_true_eq] at hc
    obtain ⟨⟨rfl, hnx⟩, hz⟩ := hc
    split at hh
    · refine lv_if_lt hx hb hd hz (fun q => ?_) (fun q => ?_)
      · rw [if_pos (q)] at hh
        have k := hn _ _ _ _ hh H locs sl n1 z1 e1 e2 hR hS hl
        exact k
      · rw [if_neg (q)] at hh
        have k := hn _ _ _ _ hh H locs sl n1 z1 e1 e2 hR hS hl
        rw [hnx] at k
        exact k
    all_goals cases hh
  · simp only [av_ck2, Bool.and_eq_true, decide_eq_true_eq] at hc
    obtain ⟨⟨rfl, hnx⟩, hz⟩ := hc
    split at hh
    · refine lv_if_ge hx hb hd hz (fun q => ?_) (fun q => ?_)
      · rw [if_neg (Int32.not_lt.mpr q)] at hh
        have k := hn _ _ _ _ hh H locs sl n1 z1 e1 e2 hR hS hl
        exact k
      · rw [if_pos (Int32.not_le.mp q)] at hh
        have k := hn _ _ _ _ hh H locs sl n1 z1 e1 e2 hR hS hl
        rw [hnx] at k
        exact k
    all_goals cases hh
  · simp only [av_ck2, Bool.and_eq_true, decide_eq_true_eq] at hc
    obtain ⟨⟨rfl, hnx⟩, hz⟩ := hc
    split at hh
    · refine lv_if_gt hx hb hd hz (fun q => ?_) (fun q => ?_)
      · rw [if_pos (q)] at hh
        have k := hn _ _ _ _ hh H locs sl n1 z1 e1 e2 hR hS hl
        exact k
      · rw [if_neg (q)] at hh
        have k := hn _ _ _ _ hh H locs sl n1 z1 e1 e2 hR hS hl
        rw [hnx] at k
        exact k
    all_goals cases hh
  · simp only [av_ck2, Bool.and_eq_true, decide_eq_true_eq] at hc
    obtain ⟨⟨rfl, hnx⟩, hz⟩ := hc
    split at hh
    · refine lv_if_le hx hb hd hz (fun q => ?_) (fun q => ?_)
      · rw [if_neg (Int32.not_lt.mpr q)] at hh
        have k := hn _ _ _ _ hh H locs sl n1 z1 e1 e2 hR hS hl
        exact k
      · rw [if_pos (Int32.not_le.mp q)] at hh
        have k := hn _ _ _ _ hh H locs sl n1 z1 e1 e2 hR hS hl
        rw [hnx] at k
        exact k
    all_goals cases hh
  · simp only [av_ck2, Bool.and_eq_true, decide_eq_true_eq] at hc
    obtain ⟨⟨rfl, hnx⟩, hz⟩ := hc
    split at hh
    · refine lv_icmp_eq hx hb hd hz (fun q => ?_) (fun q => ?_)
      · rw [if_pos (q)] at hh
        have k := hn _ _ _ _ hh H locs sl n1 z1 e1 e2 hR hS hl
        exact k
      · rw [if_neg (q)] at hh
        have k := hn _ _ _ _ hh H locs sl n1 z1 e1 e2 hR hS hl
        rw [hnx] at k
        exact k
    all_goals cases hh
  · simp only [av_ck2, Bool.and_eq_true, decide_eq_true_eq] at hc
    obtain ⟨⟨rfl, hnx⟩, hz⟩ := hc
    split at hh
    · refine lv_icmp_ne hx hb hd hz (fun q => ?_) (fun q => ?_)
      · rw [if_neg (q)] at hh
        have k := hn _ _ _ _ hh H locs sl n1 z1 e1 e2 hR hS hl
        exact k
      · rw [if_pos (q)] at hh
        have k := hn _ _ _ _ hh H locs sl n1 z1 e1 e2 hR hS hl
        rw [hnx] at k
        exact k
    all_goals cases hh
  · simp only [av_ck2, Bool.and_eq_true, decide_eq_true_eq] at hc
    obtain ⟨⟨rfl, hnx⟩, hz⟩ := hc
    split at hh
    · refine lv_icmp_lt hx hb hd hz (fun q => ?_) (fun q => ?_)
      · rw [if_pos (q)] at hh
        have k := hn _ _ _ _ hh H locs sl n1 z1 e1 e2 hR hS hl
        exact k
      · rw [if_neg (q)] at hh
        have k := hn _ _ _ _ hh H locs sl n1 z1 e1 e2 hR hS hl
        rw [hnx] at k
        exact k
    all_goals cases hh
  · simp only [av_ck2, Bool.and_eq_true, decide_eq_true_eq] at hc
    obtain ⟨⟨rfl, hnx⟩, hz⟩ := hc
    split at hh
    · refine lv_icmp_ge hx hb hd hz (fun q => ?_) (fun q => ?_)
      · rw [if_neg (Int32.not_lt.mpr q)] at hh
        have k := hn _ _ _ _ hh H locs sl n1 z1 e1 e2 hR hS hl
        exact k
      · rw [if_pos (Int32.not_le.mp q)] at hh
        have k := hn _ _ _ _ hh H locs sl n1 z1 e1 e2 hR hS hl
        rw [hnx] at k
        exact k
    all_goals cases hh
  · simp only [av_ck2, Bool.and_eq_true, decide_eq_true_eq] at hc
    obtain ⟨⟨rfl, hnx⟩, hz⟩ := hc
    split at hh
    · refine lv_icmp_gt hx hb hd hz (fun q => ?_) (fun q => ?_)
      · rw [if_pos (q)] at hh
        have k := hn _ _ _ _ hh H locs sl n1 z1 e1 e2 hR hS hl
        exact k
      · rw [if_neg (q)] at hh
        have k := hn _ _ _ _ hh H locs sl n1 z1 e1 e2 hR hS hl
        rw [hnx] at k
        exact k
    all_goals cases hh
  · simp only [av_ck2, Bool.and_eq_true, decide_eq_true_eq] at hc
    obtain ⟨⟨rfl, hnx⟩, hz⟩ := hc
    split at hh
    · refine lv_icmp_le hx hb hd hz (fun q => ?_) (fun q => ?_)
      · rw [if_neg (Int32.not_lt.mpr q)] at hh
        have k := hn _ _ _ _ hh H locs sl n1 z1 e1 e2 hR hS hl
        exact k
      · rw [if_pos (Int32.not_le.mp q)] at hh
        have k := hn _ _ _ _ hh H locs sl n1 z1 e1 e2 hR hS hl
        rw [hnx] at k
        exact k
    all_goals cases hh
  · simp only [av_ck2, Bool.and_eq_true, decide_eq_true_eq] at hc
    obtain ⟨⟨rfl, hnx⟩, hz⟩ := hc
    split at hh
    · rename_i x t
      cases x with
      | none =>
        simp only [Option.isNone] at hh
        have k := hn _ _ _ _ (by simpa using hh) H locs sl n1 z1 e1 e2 hR hS hl
        exact lv_ifnullN hx hb hd hz k
      | some x =>
        simp only [Option.isNone] at hh
        have k := hn _ _ _ _ (by simpa using hh) H locs sl n1 z1 e1 e2 hR hS hl
        rw [hnx] at k
        exact lv_ifnull hx hb hd k
    all_goals cases hh
  · simp only [av_ck2, Bool.and_eq_true, decide_eq_true_eq] at hc
    obtain ⟨⟨rfl, hnx⟩, hz⟩ := hc
    split at hh
    · rename_i x t
      cases x with
      | none =>
        simp only [Option.isNone] at hh
        have k := hn _ _ _ _ (by simpa using hh) H locs sl n1 z1 e1 e2 hR hS hl
        rw [hnx] at k
        exact lv_ifnonnullN hx hb hd k
      | some x =>
        simp only [Option.isNone] at hh
        have k := hn _ _ _ _ (by simpa using hh) H locs sl n1 z1 e1 e2 hR hS hl
        exact lv_ifnonnull hx hb hd hz k
    all_goals cases hh
  · simp only [av_ck2, Bool.and_eq_true, decide_eq_true_eq] at hc
    obtain ⟨rfl, hz⟩ := hc
    have k := hn _ _ _ _ hh H locs sl n1 z1 e1 e2 hR hS hl
    exact lv_goto hx hb hd hz k
  · simp only [av_ck2, Bool.and_eq_true, decide_eq_true_eq] at hc
    obtain ⟨⟨hz, hz2⟩, hz3⟩ := hc
    split at hh
    · rcases av_sw_some hh with ⟨q, hq, hxq, hk⟩ | ⟨hq, hk⟩
      · have k := hn _ _ _ _ hk H locs sl n1 z1 e1 e2 hR hS hl
        obtain ⟨j, off, g1, g2, g3, g4⟩ := av_swk_in hz3 q hq
        rw [Array.length_toList] at g4
        rw [Array.getElem?_toList] at g2
        refine lv_tableIn (off := off) hx hb hd (by rw [hxq, g1]; omega) (by rw [hxq, g1, hz2]; omega) (by rw [hxq, g1]; rw [show (_ + (j : Int) - _ : Int).toNat = j by omega]; exact g2) g3 k
      · have k := hn _ _ _ _ hk H locs sl n1 z1 e1 e2 hR hS hl
        refine lv_tableOut hx hb hd ?_ hz k
        rw [hz2]
        have := av_swk_all hz3 hq
        rw [Array.length_toList] at this
        exact this
    all_goals cases hh
  · simp only [av_ck2, Bool.and_eq_true, decide_eq_true_eq] at hc
    obtain ⟨⟨hz, hz2⟩, hz3⟩ := hc
    split at hh
    · obtain ⟨t2, hk, ht⟩ := av_lwk_sw hz hz3 hh
      have k := hn _ _ _ _ hk H locs sl n1 z1 e1 e2 hR hS hl
      exact lv_lookup hx hb hd hz2 rfl ht k
    all_goals cases hh
  · simp only [av_ck2, Bool.and_eq_true, decide_eq_true_eq] at hc
    obtain ⟨⟨rfl, hnx⟩, hzA⟩ := hc
    obtain ⟨q, hq, hz⟩ := List.any_eq_true.mp hzA
    clear hzA
    obtain ⟨qo, qn, qa, qb, kc, fi⟩ := q
    simp only [Bool.and_eq_true, Bool.or_eq_true, decide_eq_true_eq] at hz
    obtain ⟨⟨⟨⟨rfl, rfl⟩, rfl⟩, rfl⟩, rfl⟩ := hz
    obtain ⟨C, T, N, hC, hk, hw, hkc, hfi⟩ := hKF.2.1 _ _ _ _ _ _ hq
    obtain ⟨hc12, hin, hty, hnm, -, -, hON, hT⟩ := hKF.1 _ C T N hC
    split at hh
    · rename_i r0 t
      have hkd : av_kd (T qb).2.2.1 = (if kc = 3 then 0 else kc) := by
        rcases hkc with ⟨rfl, w, -⟩ | ⟨rfl, w, -⟩ | ⟨rfl, w, -⟩ | ⟨rfl, w, -⟩
        · rw [w]; rfl
        · rw [w]; rfl
        · rw [w]; rfl
        · rw [w]; rfl
      generalize hcc : (if kc = 3 then 0 else kc) = c at hh hkd
      split at hh
      · unfold av_gL at hh
        obtain ⟨v, g1, g2⟩ := Option.bind_eq_some_iff.mp hh
        split at g1
        · rename_i his
          cases g1
          obtain ⟨x, n, rfl, hx1⟩ := av_is_some his
          have hx2 : x < h.1.length := (List.getElem?_eq_some_iff.mp hx1).1
          have hfx : f x = B + x := hf x (by have := hR.2.1; omega)
          obtain ⟨ws, q0, hP, hD, he, -, hset⟩ := hR.at hx1 (by omega)
          rw [av_ce_obj hx1 hC, ← hfx] at he
          have k := hn _ _ _ _ g2 H locs sl n1 z1 e1 e2 hR hS hl
          rw [hnx] at k
          exact va_get hx hb hts hin hown hK hP q0 he hC _ hk (hts _ hw) (fun y hy => by rw [← (hT _ hk).1]; exact hy) (by rw [av_fv_get hk]; simp only [av_fv, hkd]; rfl) hd k
        · cases g1
      · unfold av_gR at hh
        obtain ⟨v, g1, g2⟩ := Option.bind_eq_some_iff.mp hh
        split at g1
        · rename_i his
          cases g1
          obtain ⟨x, n, rfl, hx1⟩ := av_is_some his
          have hx2 : x < h.1.length := (List.getElem?_eq_some_iff.mp hx1).1
          have hfx : f x = B + x := hf x (by have := hR.2.1; omega)
          obtain ⟨ws, q0, hP, hD, he, -, hset⟩ := hR.at hx1 (by omega)
          rw [av_ce_obj hx1 hC, ← hfx] at he
          have k := hn _ _ _ _ g2 H locs sl n1 z1 e1 e2 hR hS hl
          rw [hnx] at k
          exact va_get hx hb hts hin hown hK hP q0 he hC _ hk (hts _ hw) (fun y hy => by rw [← (hT _ hk).1]; exact hy) (by rw [av_fv_get hk]; simp only [av_fv, hkd]; rfl) hd k
        · cases g1
      · have hkd0 : av_kd (T qb).2.2.1 = 0 := by
          rename_i n1 n2
          rcases hkc with ⟨rfl, -⟩ | ⟨rfl, -⟩ | ⟨rfl, -⟩ | ⟨rfl, -⟩ <;> simp at hcc <;> subst hcc
          · exact hkd
          · exact absurd rfl n1
          · exact absurd rfl n2
          · exact hkd
        unfold av_gI at hh
        obtain ⟨v, g1, g2⟩ := Option.bind_eq_some_iff.mp hh
        split at g1
        · rename_i his
          cases g1
          obtain ⟨x, n, rfl, hx1⟩ := av_is_some his
          have hx2 : x < h.1.length := (List.getElem?_eq_some_iff.mp hx1).1
          have hfx : f x = B + x := hf x (by have := hR.2.1; omega)
          obtain ⟨ws, q0, hP, hD, he, -, hset⟩ := hR.at hx1 (by omega)
          rw [av_ce_obj hx1 hC, ← hfx] at he
          have k := hn _ _ _ _ g2 H locs sl n1 z1 e1 e2 hR hS hl
          rw [hnx] at k
          exact va_get hx hb hts hin hown hK hP q0 he hC _ hk (hts _ hw) (fun y hy => by rw [← (hT _ hk).1]; exact hy) (by rw [av_fv_get hk]; simp only [av_fv, hkd0]; rfl) hd k
        · cases g1
    all_goals cases hh
  · simp only [av_ck2, Bool.and_eq_true, decide_eq_true_eq] at hc
    obtain ⟨⟨rfl, hnx⟩, hzA⟩ := hc
    obtain ⟨q, hq, hz⟩ := List.any_eq_true.mp hzA
    clear hzA
    obtain ⟨qo, qn, qa, qb, kc, fi⟩ := q
    simp only [Bool.and_eq_true, Bool.or_eq_true, decide_eq_true_eq] at hz
    obtain ⟨⟨⟨⟨⟨rfl, rfl⟩, rfl⟩, rfl⟩, hz0⟩, hz1⟩ := hz
    obtain ⟨C, T, N, hC, hk, hw, hkc, hfi⟩ := hKF.2.1 _ _ _ _ _ _ hq
    obtain ⟨hc12, hin, hty, hnm, -, -, hON, hT⟩ := hKF.1 _ C T N hC
    split at hh
    · split at hh
      · rename_i v r0 t
        unfold av_pI at hh
        obtain ⟨g9, g1, g2⟩ := Option.bind_eq_some_iff.mp hh
        split at g1
        · rename_i his
          cases g1
          have hkk : av_kd (T qb).2.2.1 = 0 ∧ ty qa qb = .int := by
            rcases hkc with ⟨w0, w, w2⟩ | ⟨w0, w, w2⟩ | ⟨w0, w, w2⟩ | ⟨w0, w, w2⟩ <;> first | exact ⟨by rw [w]; rfl, w2⟩ | omega
          obtain ⟨x, n, rfl, hx1⟩ := av_is_some his
          have hx2 : x < h.1.length := (List.getElem?_eq_some_iff.mp hx1).1
          have hfx : f x = B + x := hf x (by have := hR.2.1; omega)
          obtain ⟨ws, q0, hP, hD, he, -, hset⟩ := hR.at hx1 (by omega)
          rw [av_ce_obj hx1 hC, ← hfx] at he
          rcases hz1 with hz | hz
          · have hff : (T qb).2.2.2 = false := by rw [hfi, hz]; rfl
            refine va_put (H0 := H) hx hb hts hin (ty qa) hty hnm hown hK hP hD (av_S_self hS) q0 he hC qb hk (hts _ hw) (fun y hy => by rw [← (hT _ hk).1]; exact hy) hff (hty _ hk) (v := .int v) (by rw [hkk.2]; rfl) (by rw [hkk.2]; rfl) (by simp [hk]) hd (fun H1 locs1 hP1 hD1 hS1 => ?_)
            have hcE : av_ce cl kA f (av_uI h x qb v) x = .inr (qa, (List.range N).map (av_fv f T (av_uI h x qb v) x)) := av_ce_obj hx1 hC
            rw [hfx, av_fv_set (g := av_uI h x qb v) hk (by simp only [av_fv, hkk.1, av_uI]; simp [va_up, upd]) (fun j hj => by simp only [av_fv, av_uI]; simp [va_up, upd, hj]), ← hcE] at hP1 hD1
            have hR1 := hset (av_uI h x qb v) H1 rfl (fun y hy => av_uI_ce hy) hS1.1 hP1 hD1
            have k := hn _ _ _ _ g2 H1 locs1 sl n1 z1 e1 e2 hR1 (av_S_trans hS hS1) hl
            rw [hnx] at k
            exact k
          · by_cases hz0 : fi = 0
            · have hff : (T qb).2.2.2 = false := by rw [hfi, hz0]; rfl
              refine va_put (H0 := H) hx hb hts hin (ty qa) hty hnm hown hK hP hD (av_S_self hS) q0 he hC qb hk (hts _ hw) (fun y hy => by rw [← (hT _ hk).1]; exact hy) hff (hty _ hk) (v := .int v) (by rw [hkk.2]; rfl) (by rw [hkk.2]; rfl) (by simp [hk]) hd (fun H1 locs1 hP1 hD1 hS1 => ?_)
              have hcE : av_ce cl kA f (av_uI h x qb v) x = .inr (qa, (List.range N).map (av_fv f T (av_uI h x qb v) x)) := av_ce_obj hx1 hC
              rw [hfx, av_fv_set (g := av_uI h x qb v) hk (by simp only [av_fv, hkk.1, av_uI]; simp [va_up, upd]) (fun j hj => by simp only [av_fv, av_uI]; simp [va_up, upd, hj]), ← hcE] at hP1 hD1
              have hR1 := hset (av_uI h x qb v) H1 rfl (fun y hy => av_uI_ce hy) hS1.1 hP1 hD1
              have k := hn _ _ _ _ g2 H1 locs1 sl n1 z1 e1 e2 hR1 (av_S_trans hS hS1) hl
              rw [hnx] at k
              exact k
            · have hff : (T qb).2.2.2 = true := by rw [hfi]; simp [hz0]
              have hdecl : (T qb).1 = ON qo := by rw [(hT _ hk).1, ← hON, hz.2]
              refine va_putF (H0 := H) hx hb hts hin (ty qa) hty hnm hown hK hP hD (av_S_self hS) q0 he hC qb hk (hts _ hw) (fun y hy => by rw [← (hT _ hk).1]; exact hy) hff (hmi hz.1) hdecl (hty _ hk) (v := .int v) (by rw [hkk.2]; rfl) (by rw [hkk.2]; rfl) (by simp [hk]) hd (fun H1 locs1 hP1 hD1 hS1 => ?_)
              have hcE : av_ce cl kA f (av_uI h x qb v) x = .inr (qa, (List.range N).map (av_fv f T (av_uI h x qb v) x)) := av_ce_obj hx1 hC
              rw [hfx, av_fv_set (g := av_uI h x qb v) hk (by simp only [av_fv, hkk.1, av_uI]; simp [va_up, upd]) (fun j hj => by simp only [av_fv, av_uI]; simp [va_up, upd, hj]), ← hcE] at hP1 hD1
              have hR1 := hset (av_uI h x qb v) H1 rfl (fun y hy => av_uI_ce hy) hS1.1 hP1 hD1
              have k := hn _ _ _ _ g2 H1 locs1 sl n1 z1 e1 e2 hR1 (av_S_trans hS hS1) hl
              rw [hnx] at k
              exact k
        · cases g1
      all_goals cases hh
    · split at hh
      · rename_i v r0 t
        unfold av_pL at hh
        obtain ⟨g9, g1, g2⟩ := Option.bind_eq_some_iff.mp hh
        split at g1
        · rename_i his
          cases g1
          have hkk : av_kd (T qb).2.2.1 = 1 ∧ ty qa qb = .long := by
            rcases hkc with ⟨w0, w, w2⟩ | ⟨w0, w, w2⟩ | ⟨w0, w, w2⟩ | ⟨w0, w, w2⟩ <;> first | exact ⟨by rw [w]; rfl, w2⟩ | omega
          obtain ⟨x, n, rfl, hx1⟩ := av_is_some his
          have hx2 : x < h.1.length := (List.getElem?_eq_some_iff.mp hx1).1
          have hfx : f x = B + x := hf x (by have := hR.2.1; omega)
          obtain ⟨ws, q0, hP, hD, he, -, hset⟩ := hR.at hx1 (by omega)
          rw [av_ce_obj hx1 hC, ← hfx] at he
          rcases hz1 with hz | hz
          · have hff : (T qb).2.2.2 = false := by rw [hfi, hz]; rfl
            refine va_put (H0 := H) hx hb hts hin (ty qa) hty hnm hown hK hP hD (av_S_self hS) q0 he hC qb hk (hts _ hw) (fun y hy => by rw [← (hT _ hk).1]; exact hy) hff (hty _ hk) (v := .long v) (by rw [hkk.2]; rfl) (by rw [hkk.2]; rfl) (by simp [hk]) hd (fun H1 locs1 hP1 hD1 hS1 => ?_)
            have hcE : av_ce cl kA f (av_uL h x qb v) x = .inr (qa, (List.range N).map (av_fv f T (av_uL h x qb v) x)) := av_ce_obj hx1 hC
            rw [hfx, av_fv_set (g := av_uL h x qb v) hk (by simp only [av_fv, hkk.1, av_uL]; simp [va_up, vp_updL]) (fun j hj => by simp only [av_fv, av_uL]; simp [va_up, vp_updL, hj]), ← hcE] at hP1 hD1
            have hR1 := hset (av_uL h x qb v) H1 rfl (fun y hy => av_uL_ce hy) hS1.1 hP1 hD1
            have k := hn _ _ _ _ g2 H1 locs1 sl n1 z1 e1 e2 hR1 (av_S_trans hS hS1) hl
            rw [hnx] at k
            exact k
          · by_cases hz0 : fi = 0
            · have hff : (T qb).2.2.2 = false := by rw [hfi, hz0]; rfl
              refine va_put (H0 := H) hx hb hts hin (ty qa) hty hnm hown hK hP hD (av_S_self hS) q0 he hC qb hk (hts _ hw) (fun y hy => by rw [← (hT _ hk).1]; exact hy) hff (hty _ hk) (v := .long v) (by rw [hkk.2]; rfl) (by rw [hkk.2]; rfl) (by simp [hk]) hd (fun H1 locs1 hP1 hD1 hS1 => ?_)
              have hcE : av_ce cl kA f (av_uL h x qb v) x = .inr (qa, (List.range N).map (av_fv f T (av_uL h x qb v) x)) := av_ce_obj hx1 hC
              rw [hfx, av_fv_set (g := av_uL h x qb v) hk (by simp only [av_fv, hkk.1, av_uL]; simp [va_up, vp_updL]) (fun j hj => by simp only [av_fv, av_uL]; simp [va_up, vp_updL, hj]), ← hcE] at hP1 hD1
              have hR1 := hset (av_uL h x qb v) H1 rfl (fun y hy => av_uL_ce hy) hS1.1 hP1 hD1
              have k := hn _ _ _ _ g2 H1 locs1 sl n1 z1 e1 e2 hR1 (av_S_trans hS hS1) hl
              rw [hnx] at k
              exact k
            · have hff : (T qb).2.2.2 = true := by rw [hfi]; simp [hz0]
              have hdecl : (T qb).1 = ON qo := by rw [(hT _ hk).1, ← hON, hz.2]
              refine va_putF (H0 := H) hx hb hts hin (ty qa) hty hnm hown hK hP hD (av_S_self hS) q0 he hC qb hk (hts _ hw) (fun y hy => by rw [← (hT _ hk).1]; exact hy) hff (hmi hz.1) hdecl (hty _ hk) (v := .long v) (by rw [hkk.2]; rfl) (by rw [hkk.2]; rfl) (by simp [hk]) hd (fun H1 locs1 hP1 hD1 hS1 => ?_)
              have hcE : av_ce cl kA f (av_uL h x qb v) x = .inr (qa, (List.range N).map (av_fv f T (av_uL h x qb v) x)) := av_ce_obj hx1 hC
              rw [hfx, av_fv_set (g := av_uL h x qb v) hk (by simp only [av_fv, hkk.1, av_uL]; simp [va_up, vp_updL]) (fun j hj => by simp only [av_fv, av_uL]; simp [va_up, vp_updL, hj]), ← hcE] at hP1 hD1
              have hR1 := hset (av_uL h x qb v) H1 rfl (fun y hy => av_uL_ce hy) hS1.1 hP1 hD1
              have k := hn _ _ _ _ g2 H1 locs1 sl n1 z1 e1 e2 hR1 (av_S_trans hS hS1) hl
              rw [hnx] at k
              exact k
        · cases g1
      all_goals cases hh
    · split at hh
      · rename_i v r0 t
        unfold av_pR at hh
        obtain ⟨g9, g1, g2⟩ := Option.bind_eq_some_iff.mp hh
        split at g1
        · rename_i his
          cases g1
          have hkk : av_kd (T qb).2.2.1 = 2 ∧ ((∃ t, ty qa qb = .array t) ∨ ∃ C, ty qa qb = .object C) := by
            rcases hkc with ⟨w0, w, w2⟩ | ⟨w0, w, w2⟩ | ⟨w0, w, w2⟩ | ⟨w0, w, w2⟩ <;> first | exact ⟨w, w2⟩ | omega
          obtain ⟨x, n, rfl, hx1⟩ := av_is_some his
          have hx2 : x < h.1.length := (List.getElem?_eq_some_iff.mp hx1).1
          have hfx : f x = B + x := hf x (by have := hR.2.1; omega)
          obtain ⟨ws, q0, hP, hD, he, -, hset⟩ := hR.at hx1 (by omega)
          rw [av_ce_obj hx1 hC, ← hfx] at he
          rcases hz1 with hz | hz
          · have hff : (T qb).2.2.2 = false := by rw [hfi, hz]; rfl
            refine va_put (H0 := H) hx hb hts hin (ty qa) hty hnm hown hK hP hD (av_S_self hS) q0 he hC qb hk (hts _ hw) (fun y hy => by rw [← (hT _ hk).1]; exact hy) hff (hty _ hk) (v := va_rf (v.map f)) (by rcases hkk.2 with ⟨t, w⟩ | ⟨t, w⟩ <;> rw [w] <;> cases v <;> rfl) (by rcases hkk.2 with ⟨t, w⟩ | ⟨t, w⟩ <;> rw [w] <;> cases v <;> rfl) (by simp [hk]) hd (fun H1 locs1 hP1 hD1 hS1 => ?_)
            have hcE : av_ce cl kA f (av_uR h x qb v) x = .inr (qa, (List.range N).map (av_fv f T (av_uR h x qb v) x)) := av_ce_obj hx1 hC
            rw [hfx, av_fv_set (g := av_uR h x qb v) hk (by simp only [av_fv, hkk.1, av_uR]; simp [va_up]) (fun j hj => by simp only [av_fv, av_uR]; simp [va_up, hj]), ← hcE] at hP1 hD1
            have hR1 := hset (av_uR h x qb v) H1 rfl (fun y hy => av_uR_ce hy) hS1.1 hP1 hD1
            have k := hn _ _ _ _ g2 H1 locs1 sl n1 z1 e1 e2 hR1 (av_S_trans hS hS1) hl
            rw [hnx] at k
            exact k
          · by_cases hz0 : fi = 0
            · have hff : (T qb).2.2.2 = false := by rw [hfi, hz0]; rfl
              refine va_put (H0 := H) hx hb hts hin (ty qa) hty hnm hown hK hP hD (av_S_self hS) q0 he hC qb hk (hts _ hw) (fun y hy => by rw [← (hT _ hk).1]; exact hy) hff (hty _ hk) (v := va_rf (v.map f)) (by rcases hkk.2 with ⟨t, w⟩ | ⟨t, w⟩ <;> rw [w] <;> cases v <;> rfl) (by rcases hkk.2 with ⟨t, w⟩ | ⟨t, w⟩ <;> rw [w] <;> cases v <;> rfl) (by simp [hk]) hd (fun H1 locs1 hP1 hD1 hS1 => ?_)
              have hcE : av_ce cl kA f (av_uR h x qb v) x = .inr (qa, (List.range N).map (av_fv f T (av_uR h x qb v) x)) := av_ce_obj hx1 hC
              rw [hfx, av_fv_set (g := av_uR h x qb v) hk (by simp only [av_fv, hkk.1, av_uR]; simp [va_up]) (fun j hj => by simp only [av_fv, av_uR]; simp [va_up, hj]), ← hcE] at hP1 hD1
              have hR1 := hset (av_uR h x qb v) H1 rfl (fun y hy => av_uR_ce hy) hS1.1 hP1 hD1
              have k := hn _ _ _ _ g2 H1 locs1 sl n1 z1 e1 e2 hR1 (av_S_trans hS hS1) hl
              rw [hnx] at k
              exact k
            · have hff : (T qb).2.2.2 = true := by rw [hfi]; simp [hz0]
              have hdecl : (T qb).1 = ON qo := by rw [(hT _ hk).1, ← hON, hz.2]
              refine va_putF (H0 := H) hx hb hts hin (ty qa) hty hnm hown hK hP hD (av_S_self hS) q0 he hC qb hk (hts _ hw) (fun y hy => by rw [← (hT _ hk).1]; exact hy) hff (hmi hz.1) hdecl (hty _ hk) (v := va_rf (v.map f)) (by rcases hkk.2 with ⟨t, w⟩ | ⟨t, w⟩ <;> rw [w] <;> cases v <;> rfl) (by rcases hkk.2 with ⟨t, w⟩ | ⟨t, w⟩ <;> rw [w] <;> cases v <;> rfl) (by simp [hk]) hd (fun H1 locs1 hP1 hD1 hS1 => ?_)
              have hcE : av_ce cl kA f (av_uR h x qb v) x = .inr (qa, (List.range N).map (av_fv f T (av_uR h x qb v) x)) := av_ce_obj hx1 hC
              rw [hfx, av_fv_set (g := av_uR h x qb v) hk (by simp only [av_fv, hkk.1, av_uR]; simp [va_up]) (fun j hj => by simp only [av_fv, av_uR]; simp [va_up, hj]), ← hcE] at hP1 hD1
              have hR1 := hset (av_uR h x qb v) H1 rfl (fun y hy => av_uR_ce hy) hS1.1 hP1 hD1
              have k := hn _ _ _ _ g2 H1 locs1 sl n1 z1 e1 e2 hR1 (av_S_trans hS hS1) hl
              rw [hnx] at k
              exact k
        · cases g1
      all_goals cases hh
    · have hz0 : kc = 3 := by
        rename_i m0 m1 m2
        rcases hkc with ⟨w0, -⟩ | ⟨w0, -⟩ | ⟨w0, -⟩ | ⟨w0, -⟩
        · exact absurd (hz0 ▸ w0) m0
        · exact absurd (hz0 ▸ w0) m1
        · exact absurd (hz0 ▸ w0) m2
        · exact w0
      · split at hh
        · rename_i v r0 t
          unfold av_pZ at hh
          obtain ⟨g9, g1, g2⟩ := Option.bind_eq_some_iff.mp hh
          split at g1
          · rename_i his
            cases g1
            obtain ⟨his, hv01⟩ := his
            have hkk : av_kd (T qb).2.2.1 = 0 ∧ ty qa qb = .boolean := by
              rcases hkc with ⟨w0, w, w2⟩ | ⟨w0, w, w2⟩ | ⟨w0, w, w2⟩ | ⟨w0, w, w2⟩ <;> first | exact ⟨by rw [w]; rfl, w2⟩ | omega
            obtain ⟨x, n, rfl, hx1⟩ := av_is_some his
            have hx2 : x < h.1.length := (List.getElem?_eq_some_iff.mp hx1).1
            have hfx : f x = B + x := hf x (by have := hR.2.1; omega)
            obtain ⟨ws, q0, hP, hD, he, -, hset⟩ := hR.at hx1 (by omega)
            rw [av_ce_obj hx1 hC, ← hfx] at he
            rcases hz1 with hz | hz
            · have hff : (T qb).2.2.2 = false := by rw [hfi, hz]; rfl
              refine va_put (H0 := H) hx hb hts hin (ty qa) hty hnm hown hK hP hD (av_S_self hS) q0 he hC qb hk (hts _ hw) (fun y hy => by rw [← (hT _ hk).1]; exact hy) hff (hty _ hk) (v := .int v) (by rw [hkk.2]; rcases hv01 with rfl | rfl <;> rfl) (by rw [hkk.2]; rcases hv01 with rfl | rfl <;> rfl) (by simp [hk]) hd (fun H1 locs1 hP1 hD1 hS1 => ?_)
              have hcE : av_ce cl kA f (av_uI h x qb v) x = .inr (qa, (List.range N).map (av_fv f T (av_uI h x qb v) x)) := av_ce_obj hx1 hC
              rw [hfx, av_fv_set (g := av_uI h x qb v) hk (by simp only [av_fv, hkk.1, av_uI]; simp [va_up, upd]) (fun j hj => by simp only [av_fv, av_uI]; simp [va_up, upd, hj]), ← hcE] at hP1 hD1
              have hR1 := hset (av_uI h x qb v) H1 rfl (fun y hy => av_uI_ce hy) hS1.1 hP1 hD1
              have k := hn _ _ _ _ g2 H1 locs1 sl n1 z1 e1 e2 hR1 (av_S_trans hS hS1) hl
              rw [hnx] at k
              exact k
            · by_cases hz0 : fi = 0
              · have hff : (T qb).2.2.2 = false := by rw [hfi, hz0]; rfl
                refine va_put (H0 := H) hx hb hts hin (ty qa) hty hnm hown hK hP hD (av_S_self hS) q0 he hC qb hk (hts _ hw) (fun y hy => by rw [← (hT _ hk).1]; exact hy) hff (hty _ hk) (v := .int v) (by rw [hkk.2]; rcases hv01 with rfl | rfl <;> rfl) (by rw [hkk.2]; rcases hv01 with rfl | rfl <;> rfl) (by simp [hk]) hd (fun H1 locs1 hP1 hD1 hS1 => ?_)
                have hcE : av_ce cl kA f (av_uI h x qb v) x = .inr (qa, (List.range N).map (av_fv f T (av_uI h x qb v) x)) := av_ce_obj hx1 hC
                rw [hfx, av_fv_set (g := av_uI h x qb v) hk (by simp only [av_fv, hkk.1, av_uI]; simp [va_up, upd]) (fun j hj => by simp only [av_fv, av_uI]; simp [va_up, upd, hj]), ← hcE] at hP1 hD1
                have hR1 := hset (av_uI h x qb v) H1 rfl (fun y hy => av_uI_ce hy) hS1.1 hP1 hD1
                have k := hn _ _ _ _ g2 H1 locs1 sl n1 z1 e1 e2 hR1 (av_S_trans hS hS1) hl
                rw [hnx] at k
                exact k
              · have hff : (T qb).2.2.2 = true := by rw [hfi]; simp [hz0]
                have hdecl : (T qb).1 = ON qo := by rw [(hT _ hk).1, ← hON, hz.2]
                refine va_putF (H0 := H) hx hb hts hin (ty qa) hty hnm hown hK hP hD (av_S_self hS) q0 he hC qb hk (hts _ hw) (fun y hy => by rw [← (hT _ hk).1]; exact hy) hff (hmi hz.1) hdecl (hty _ hk) (v := .int v) (by rw [hkk.2]; rcases hv01 with rfl | rfl <;> rfl) (by rw [hkk.2]; rcases hv01 with rfl | rfl <;> rfl) (by simp [hk]) hd (fun H1 locs1 hP1 hD1 hS1 => ?_)
                have hcE : av_ce cl kA f (av_uI h x qb v) x = .inr (qa, (List.range N).map (av_fv f T (av_uI h x qb v) x)) := av_ce_obj hx1 hC
                rw [hfx, av_fv_set (g := av_uI h x qb v) hk (by simp only [av_fv, hkk.1, av_uI]; simp [va_up, upd]) (fun j hj => by simp only [av_fv, av_uI]; simp [va_up, upd, hj]), ← hcE] at hP1 hD1
                have hR1 := hset (av_uI h x qb v) H1 rfl (fun y hy => av_uI_ce hy) hS1.1 hP1 hD1
                have k := hn _ _ _ _ g2 H1 locs1 sl n1 z1 e1 e2 hR1 (av_S_trans hS hS1) hl
                rw [hnx] at k
                exact k
          · cases g1
        all_goals cases hh
  · sorry
  · sorry
  · sorry
  · sorry
  · sorry
  · sorry
  · sorry
  · sorry
  · sorry
  · sorry
  · sorry
  · sorry
  · sorry
  · sorry
  · sorry
  · sorry
  · sorry
  · sorry
  · sorry
  · sorry
  · sorry
end
