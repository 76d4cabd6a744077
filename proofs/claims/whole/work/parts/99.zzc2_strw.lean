/-! the String's methods that Reader calls, walked on the three constants -/
abbrev ks_N : Nat → Prop := fun _ => False
def ks_len : List Nat := [96, 88, 8]
def ks_E (adK adV : Nat → Nat) (U : State) : Prop :=
  vk_S 3 ks_len av_tx adK adV ks_N U U.heap ∧ va_Z "java/lang/String" "COMPACT_STRINGS" "Z" (.int 1) ks_N U U.heap ∧ va_Zq "jdk/internal/util/Preconditions" "SIOOBE_FORMATTER" "Ljava/util/function/BiFunction;" ks_N U U.heap
theorem ks_E.to {adK adV : Nat → Nat} {s U : State} {H : Heap} {locs : List Loc} (h : ks_E adK adV s) (hS : va_S ks_N s.heap H locs) (hU : U.heap = H) (hW : s.vm.Alike U.vm) : ks_E adK adV U := by
  obtain ⟨h1, h2, h3⟩ := h
  have hq : ∀ a : Nat, a < s.heap.size → ¬ ks_N a → U.heap[a]? = s.heap[a]? := fun a q1 q2 => by rw [hU]; exact hS.2.1 a q1 q2
  exact ⟨vk_S.moved hW (h1.kept hq), va_Z.moved hW (h2.kept hq), va_Zq.moved hW (h3.kept hq)⟩
def ks_rm (k : Nat) : Room := { frames := k, cells := 0, slots := 0, locals := 40 * k }
abbrev ks_Q (v : Int32) : Array Value → State → Outcome → State → Prop := va_Qi (S := Unit) (fun r _ => r = v) (fun _ _ => True) ks_N
abbrev ks_Qv : Array Value → State → Outcome → State → Prop := va_Qv (S := Unit) (fun _ => True) (fun _ _ => True) ks_N
def ks_M (l : Launch) (adK adV : Nat → Nat) (y : MethodName) (cc : ByteArray) (L : Nat) (ret : Option FieldType) (k : Nat) (As : List Value) (Qc : Array Value → State → Outcome → State → Prop) : Prop :=
  Met l y (Cond.code y cc L ret :: kTB) (ks_rm k) (va_Pc As (ks_E adK adV)) Qc 0 0 ks_N
theorem ks_met {l : Launch} {adK adV : Nat → Nat} {y : MethodName} {cc : ByteArray} {L : Nat} {ret : Option FieldType} {k : Nat} {As : List Value} {Qc : Array Value → State → Outcome → State → Prop} (hpl : plainName y.cls = true) (hsl : (lg_sl As).length ≤ L)
    (hw : ∀ (p : Program) (e : Env) (s : State) (m : MethodId) (below : List Frame) (meth : Method) (c : Code) (ls : Array Slot), p.tables.exec = Jvm.exec → c.code = cc → meth.sig.returnType = ret → c.maxLocals = L → s.vm.findClass y.cls = some m.cls → (∀ w ∈ kTB, w.before As.toArray s = true) → meth.locks = false → ks_E adK adV s → lv_has ls L (lv_args 0 As) →
      W p l e (ks_rm k) s m As.toArray below meth c s.heap [] 0 0 (MQ below Qc As.toArray s 0 0 ks_N) (F0 m 0 ls [])) : ks_M l adK adV y cc L ret k As Qc := by
  refine Met.ofW (cc := cc) (maxL := L) (ret := ret) hpl rfl ?_
  intro p e s m args below meth c s₁ Bd hml hv
  obtain ⟨rfl, hE⟩ := hv
  have hts0 := atoms_spec (ws := Cond.code y cc L ret :: kTB) Bd.pre
  have hl := lv_entry As (n := L) hsl
  rw [lg_entry_eq]
  generalize (lg_sl As ++ List.replicate (L - (lg_sl As).length) Slot.unset).toArray = sl at hl ⊢
  exact hw p e s m below meth c sl Bd.exec Bd.bytes Bd.returns hml (findClass_of_methodNamed Bd.named) (fun w hw => hts0 w (List.mem_cons_of_mem _ hw)) Bd.notSynchronized hE hl
section
variable {p : Program} {l : Launch} {e : Env} {R : Room} {s : State} {m : MethodId} {args : Array Value} {below : List Frame} {meth : Method} {c : Code} {H : Heap} {locs : List Loc} {cells slots : Nat} {Q : State → Prop}
variable {adK adV : Nat → Nat} {own : String} {cc : ByteArray} {nL k2 : Nat} {y : MethodName} {c2 : ByteArray} {L : Nat} {ret : Option FieldType} {ix n pc : Nat} {ls : Array Slot} {st0 rest As : List Value} {A0 : Nat → Prop} {Qc : Array Value → State → Outcome → State → Prop}
theorem ks_bl : FrameBlind (va_Pc As (ks_E adK adV)) := fun a U g mk q => ⟨q.1, q.2.to (U := U.calling g mk a) (locs := []) va_S.rf rfl (Vm.Alike.refl U.vm)⟩
theorem ks_runS (hx : p.tables.exec = Jvm.exec) (hb : c.code = cc) (hml : c.maxLocals = nL) (hown : s.vm.findClass own = some m.cls) (hts : ∀ w ∈ kTB, w.before args s = true) (hU : ∀ U : State, U.heap = H → s.WarmedH U.vm → ks_E adK adV U) (hM : ks_M l adK adV y c2 L ret k2 As Qc) (hw : Cond.methodLink own ix y ∈ kTB ∧ Cond.static y ∈ kTB ∧ Cond.initialized y.cls ∈ kTB ∧ Cond.code y c2 L ret ∈ kTB)
    (hd : y.cls ≠ "java/lang/invoke/MethodHandle" ∧ y.cls ≠ "java/lang/invoke/VarHandle" ∧ (parseMethodDescriptor y.desc).map (fun d => d.parameters.length) = some n) (hn : As.length = n) (hR : k2 + 1 ≤ R.frames ∧ 8 + (L + 11) + 40 * k2 ≤ R.locals) (hls : ls.size = nL) (hr : (rest.map fun v => v.category).sum ≤ 8) (hf : cells ≤ R.cells ∧ slots ≤ R.slots) (hst : st0 = As.reverse ++ rest) (hdg : decode cc pc = .ok (.invokestatic ix, 3)) :
    va_Run p l e R s m args below meth c H locs cells slots 0 0 (F0 m pc ls st0) rest (Qc As.toArray) ks_N := by
  have hws : ∀ w ∈ Cond.code y c2 L ret :: kTB, w ∈ kTB := fun w h => (List.mem_cons.mp h).elim (fun z => by rw [z]; exact hw.2.2.2) id
  have cw := va_cwS (R := R) (own := own) (index := ix) n hts (av_good kTB_good (ws := va_wsS own ix y (Cond.code y c2 L ret :: kTB)) (fun w h => by
    rcases List.mem_append.mp h with h | h
    · simp only [List.mem_cons, List.not_mem_nil, or_false] at h
      rcases h with rfl | rfl | rfl
      · exact hw.1
      · exact hw.2.1
      · exact hw.2.2.1
    · exact hws w h)) rfl (rm := ks_rm k2) rfl rfl hd hR
  exact va_runS (As := As) ⟨hx, hb, hml, hown, hts⟩ hM cw ⟨ks_bl, fun U h1 h2 => ⟨rfl, hU U h1 h2⟩⟩ rfl hn hls hst (lv_room hr) hdg hf
theorem ks_runV {b : Nat} (hx : p.tables.exec = Jvm.exec) (hb : c.code = cc) (hml : c.maxLocals = nL) (hown : s.vm.findClass own = some m.cls) (hts : ∀ w ∈ kTB, w.before args s = true) (hU : ∀ U : State, U.heap = H → s.WarmedH U.vm → ks_E adK adV U) (hM : ks_M l adK adV y c2 L ret k2 (.ref b :: As) Qc) (hw : Cond.methodLink own ix y ∈ kTB ∧ Cond.instanceMethod y ∈ kTB ∧ Cond.selects y.cls y y ∈ kTB ∧ Cond.initialized y.cls ∈ kTB ∧ Cond.code y c2 L ret ∈ kTB)
    (hrc : ∃ cell : Cell, H[b]? = some cell ∧ cell.vm.isStatics = false ∧ s.vm.findClass y.cls = some cell.cls)
    (hd : y.cls ≠ "java/lang/invoke/MethodHandle" ∧ y.cls ≠ "java/lang/invoke/VarHandle" ∧ (parseMethodDescriptor y.desc).map (fun d => d.parameters.length) = some n) (hn : As.length = n) (hR : k2 + 1 ≤ R.frames ∧ 8 + (L + 11) + 40 * k2 ≤ R.locals) (hls : ls.size = nL) (hr : (rest.map fun v => v.category).sum ≤ 8) (hf : cells ≤ R.cells ∧ slots ≤ R.slots) (hst : st0 = As.reverse ++ .ref b :: rest) (hdg : decode cc pc = .ok (.invokevirtual ix, 3)) :
    va_Run p l e R s m args below meth c H locs cells slots 0 0 (F0 m pc ls st0) rest (Qc (Value.ref b :: As).toArray) ks_N := by
  have hws : ∀ w ∈ Cond.code y c2 L ret :: kTB, w ∈ kTB := fun w h => (List.mem_cons.mp h).elim (fun z => by rw [z]; exact hw.2.2.2.2) id
  have cw := cwV (R := R) (own := own) (index := ix) (C := y.cls) n hts (av_good kTB_good (ws := wsV own ix y.cls y (Cond.code y c2 L ret :: kTB)) (fun w h => by
    rcases List.mem_append.mp h with h | h
    · simp only [List.mem_cons, List.not_mem_nil, or_false] at h
      rcases h with rfl | rfl | rfl | rfl
      · exact hw.1
      · exact hw.2.1
      · exact hw.2.2.1
      · exact hw.2.2.2.1
    · exact hws w h)) rfl (rm := ks_rm k2) rfl rfl ⟨rfl, hd⟩ hR
  exact va_runV (As := As) (b := b) ⟨hx, hb, hml, hown, hts⟩ hM cw ⟨ks_bl, hrc, fun U h1 h2 => ⟨rfl, hU U h1 h2⟩⟩ rfl hn hls hst (lv_room hr) hdg hf
theorem ks_ci {v : Int32} {a : Array Value} (hr : va_Run p l e R s m args below meth c H locs cells slots 0 0 (F0 m pc ls st0) rest (ks_Q v a) ks_N) (hS : va_S A0 s.heap H locs)
    (kk : ∀ (H1 : Heap) (locs1 : List Loc), H.size ≤ H1.size → (∀ q : Nat, q < H.size → H1[q]? = H[q]?) → va_S A0 s.heap H1 locs1 → W p l e R s m args below meth c H1 locs1 cells slots Q (F0 m (pc + 3) ls (.int v :: rest))) : W p l e R s m args below meth c H locs cells slots Q (F0 m pc ls st0) := by
  refine va_calli (a := a) hr hS (fun q _ h => False.elim h) (fun q h => False.elim h) (fun r u t H1 locs1 ht hvm hp hB hz hk hS1 => ?_)
  subst hp
  exact kk H1 locs1 hz (fun q h => hk q h (fun z => z)) hS1
theorem ks_cv {a : Array Value} (hr : va_Run p l e R s m args below meth c H locs cells slots 0 0 (F0 m pc ls st0) rest (ks_Qv a) ks_N) (hS : va_S A0 s.heap H locs)
    (kk : ∀ (H1 : Heap) (locs1 : List Loc), H.size ≤ H1.size → (∀ q : Nat, q < H.size → H1[q]? = H[q]?) → va_S A0 s.heap H1 locs1 → W p l e R s m args below meth c H1 locs1 cells slots Q (F0 m (pc + 3) ls rest)) : W p l e R s m args below meth c H locs cells slots Q (F0 m pc ls st0) :=
  va_callv (a := a) hr hS (fun q _ h => False.elim h) (fun q h => False.elim h) (fun u t H1 locs1 ht hvm hp hB hz hk hS1 => kk H1 locs1 hz (fun q h => hk q h (fun z => z)) hS1)
end
theorem ks_tab : ∀ i, i < 3 → (ks_len.getD i 0 = (av_tx.getD i []).length ∧ (Int32.ofNat (ks_len.getD i 0) >>> ((0 : Int32) &&& 31) = nI (ks_len.getD i 0)) ∧ 0 < ks_len.getD i 0 ∧ ks_len.getD i 0 ≤ 96) := by decide +kernel
theorem ks_byt : ∀ i, i < 3 → ∀ j, j < ks_len.getD i 0 → (((av_tx.getD i []).getD j 0 &&& 255).toUInt32 % 65536).toInt32 = (av_tx.getD i []).getD j 0 ∧ narrow .char (.int ((av_tx.getD i []).getD j 0)) = .int ((av_tx.getD i []).getD j 0) := by decide +kernel
section
variable (l : Launch) (adK adV : Nat → Nat)
theorem ks_coder {i : Nat} (hi : i < 3) : ks_M l adK adV sy_coder prog_23_method_152_code 1 (some .byte) 1 [.ref (adK i)] (ks_Q 0) := by
  refine ks_met (by decide) (Nat.le_of_ble_eq_true rfl) ?_
  intro p e s m below meth c ls hx hb hr hml hown hts hlocks hE hl
  have hl : lv_has ls 1 [(0, .ref (adK i))] := hl
  have hown : s.vm.findClass "java/lang/String" = some m.cls := hown
  have hS : va_S ks_N s.heap s.heap [] := va_S.rf
  refine va_gets (ref := "java/lang/String") hx hb hE.2.1 hS hown (hts _ sw_f_compact) (fun _ h => h) sd_coder_0 ?_
  refine lv_if_eq hx hb (tgt := 13) sd_coder_3 (by decide) (fun h => absurd h (by decide)) (fun _ => ?_)
  refine lv_aload_n hx hb sd_coder_6 rfl (lv_at hl 0 rfl) ?_
  refine vk_getf (ref := "java/lang/String") hx hb (hE.1.1 i hi).2.1 hS hown (hts _ sw_f_coder) (fun _ h => h) sd_coder_7 ?_
  refine lv_goto hx hb (tgt := 14) sd_coder_10 (by decide) ?_
  exact W.zret hx hb hr (by decide) (fun t ht hW => ⟨⟨0, (), rfl, rfl, trivial⟩, hS.F ht⟩) hS.2.2 sd_coder_14
theorem ks_latin {i : Nat} (hi : i < 3) : ks_M l adK adV sy_isLatin1 prog_23_method_154_code 1 (some .boolean) 1 [.ref (adK i)] (ks_Q 1) := by
  refine ks_met (by decide) (Nat.le_of_ble_eq_true rfl) ?_
  intro p e s m below meth c ls hx hb hr hml hown hts hlocks hE hl
  have hl : lv_has ls 1 [(0, .ref (adK i))] := hl
  have hown : s.vm.findClass "java/lang/String" = some m.cls := hown
  have hS : va_S ks_N s.heap s.heap [] := va_S.rf
  refine va_gets (ref := "java/lang/String") hx hb hE.2.1 hS hown (hts _ sw_f_compact) (fun _ h => h) sd_isLatin1_0 ?_
  refine lv_if_eq hx hb (tgt := 17) sd_isLatin1_3 (by decide) (fun h => absurd h (by decide)) (fun _ => ?_)
  refine lv_aload_n hx hb sd_isLatin1_6 rfl (lv_at hl 0 rfl) ?_
  refine vk_getf (ref := "java/lang/String") hx hb (hE.1.1 i hi).2.1 hS hown (hts _ sw_f_coder) (fun _ h => h) sd_isLatin1_7 ?_
  refine lv_if_ne hx hb (tgt := 17) sd_isLatin1_10 (by decide) (fun h => absurd rfl h) (fun _ => ?_)
  refine lv_iconst hx hb sd_isLatin1_13 (v := 1) (by decide) ?_
  refine lv_goto hx hb (tgt := 18) sd_isLatin1_14 (by decide) ?_
  exact W.zret hx hb hr (by decide) (fun t ht hW => ⟨⟨1, (), rfl, rfl, trivial⟩, hS.F ht⟩) hS.2.2 sd_isLatin1_18
theorem ks_length {i : Nat} (hi : i < 3) : ks_M l adK adV sy_length prog_23_method_54_code 1 (some .int) 2 [.ref (adK i)] (ks_Q (nI (ks_len.getD i 0))) := by
  refine ks_met (by decide) (Nat.le_of_ble_eq_true rfl) ?_
  intro p e s m below meth c ls hx hb hr hml hown hts hlocks hE hl
  have hl : lv_has ls 1 [(0, .ref (adK i))] := hl
  have hown : s.vm.findClass "java/lang/String" = some m.cls := hown
  have hS : va_S ks_N s.heap s.heap [] := va_S.rf
  refine lv_aload_n hx hb sd_length_0 rfl (lv_at hl 0 rfl) ?_
  refine vk_getf (ref := "java/lang/String") hx hb (hE.1.1 i hi).2.2.1 hS hown (hts _ sw_f_value) (fun _ h => h) sd_length_1 ?_
  refine va_tlen hx hb (hE.1.1 i hi).2.2.2 hS rfl sd_length_4 ?_
  refine lv_aload_n hx hb sd_length_5 rfl (lv_at hl 0 rfl) ?_
  refine ks_ci (ks_runV (As := []) (b := adK i) (rest := [.int (Int32.ofNat (ks_len.getD i 0))]) hx hb hml hown hts (fun U h1 h2 => hE.to hS h1 h2.alike) (ks_coder l adK adV hi) ⟨sw_coder_lS, sw_coder_k, sw_coder_s, sw_i_S, sw_coder_c⟩ (vk_recv hE.1 hi hS) (n := 0) (by decide) rfl (by decide) hl.1 (Nat.le_of_ble_eq_true rfl) ⟨Nat.le_refl _, Nat.le_refl _⟩ rfl sd_length_6) hS (fun H1 locs1 z1 o1 hS1 => ?_)
  refine lv_ishr hx hb sd_length_9 ?_
  rw [(ks_tab i hi).2.1]
  exact W.iret hx hb hr (fun t ht hW => ⟨⟨_, (), rfl, rfl, trivial⟩, hS1.F ht⟩) hS1.2.2 sd_length_10
theorem ks_pcheck {j n : Nat} (hj : j < n) (hn : n < 2 ^ 31) (r : Option Nat) : ks_M l adK adV sy_p_check prog_31_method_11_code 3 (some .int) 1 [.int (nI j), .int (nI n), va_rf r] (ks_Q (nI j)) := by
  refine ks_met (by decide) (by cases r <;> exact Nat.le_of_ble_eq_true rfl) ?_
  intro p e s m below meth c ls hx hb hr hml hown hts hlocks hE hl
  have hl : lv_has ls 3 [(0, .int (nI j)), (1, .int (nI n)), (2, va_rf r)] := hl
  have hS : va_S ks_N s.heap s.heap [] := va_S.rf
  refine lv_iload_n hx hb sd_p_check_0 rfl (lv_at hl 0 rfl) ?_
  refine lv_if_lt hx hb (tgt := 9) sd_p_check_1 (by decide) (fun h => absurd h (nI_pos (by omega))) (fun _ => ?_)
  refine lv_iload_n hx hb sd_p_check_4 rfl (lv_at hl 0 rfl) ?_
  refine lv_iload_n hx hb sd_p_check_5 rfl (lv_at hl 1 rfl) ?_
  refine lv_icmp_lt hx hb (tgt := 16) sd_p_check_6 (by decide) (fun _ => ?_) (fun h => absurd (nI_lt hj hn) h)
  refine lv_iload_n hx hb sd_p_check_16 rfl (lv_at hl 0 rfl) ?_
  exact W.iret hx hb hr (fun t ht hW => ⟨⟨_, (), rfl, rfl, trivial⟩, hS.F ht⟩) hS.2.2 sd_p_check_17
theorem ks_check {j n : Nat} (hj : j < n) (hn : n < 2 ^ 31) : ks_M l adK adV sy_check prog_23_method_155_code 2 none 2 [.int (nI j), .int (nI n)] ks_Qv := by
  refine ks_met (by decide) (Nat.le_of_ble_eq_true rfl) ?_
  intro p e s m below meth c ls hx hb hr hml hown hts hlocks hE hl
  have hl : lv_has ls 2 [(0, .int (nI j)), (1, .int (nI n))] := hl
  have hown : s.vm.findClass "java/lang/String" = some m.cls := hown
  have hS : va_S ks_N s.heap s.heap [] := va_S.rf
  have key : ∀ r : Option Nat, W p l e (ks_rm 2) s m [Value.int (nI j), Value.int (nI n)].toArray below meth c s.heap [] 0 0 (MQ below ks_Qv [Value.int (nI j), Value.int (nI n)].toArray s 0 0 ks_N) (F0 m 5 ls [va_rf r, .int (nI n), .int (nI j)]) := by
    intro r
    refine ks_ci (ks_runS (As := [.int (nI j), .int (nI n), va_rf r]) (rest := []) hx hb hml hown hts (fun U h1 h2 => hE.to hS h1 h2.alike) (ks_pcheck l adK adV hj hn r) ⟨sw_p_check_lS, sw_p_check_k, sw_i_PC, sw_p_check_c⟩ (n := 3) (by decide) rfl (by decide) hl.1 (by decide) ⟨Nat.le_refl _, Nat.le_refl _⟩ rfl sd_check_5) hS (fun H1 locs1 z1 o1 hS1 => ?_)
    refine lv_pop hx hb sd_check_8 rfl ?_
    exact W.vret hx hb hr (fun t ht hW => ⟨⟨(), rfl, trivial, trivial⟩, hS1.F ht⟩) hS1.2.2 sd_check_9
  refine lv_iload_n hx hb sd_check_0 rfl (lv_at hl 0 rfl) ?_
  refine lv_iload_n hx hb sd_check_1 rfl (lv_at hl 1 rfl) ?_
  rcases hE.2.2 with hz | ⟨t, hz⟩
  · exact va_gets (ref := "jdk/internal/util/Preconditions") hx hb hz hS hown (hts _ sw_f_form) (fun _ h => h) sd_check_2 (key none)
  · exact va_gets (ref := "jdk/internal/util/Preconditions") hx hb hz hS hown (hts _ sw_f_form) (fun _ h => h) sd_check_2 (key (some t))
theorem ks_lchar {i j : Nat} (hi : i < 3) (hj : j < ks_len.getD i 0) : ks_M l adK adV sy_l_charAt prog_24_method_2_code 2 (some .char) 3 [.ref (adV i), .int (nI j)] (ks_Q ((av_tx.getD i []).getD j 0)) := by
  refine ks_met (by decide) (Nat.le_of_ble_eq_true rfl) ?_
  intro p e s m below meth c ls hx hb hr hml hown hts hlocks hE hl
  have hl : lv_has ls 2 [(0, .ref (adV i)), (1, .int (nI j))] := hl
  have hown : s.vm.findClass "java/lang/StringLatin1" = some m.cls := hown
  have hS : va_S ks_N s.heap s.heap [] := va_S.rf
  have hn : ks_len.getD i 0 < 2 ^ 31 := by have := (ks_tab i hi).2.2.2; omega
  refine lv_iload_n hx hb sd_l_charAt_0 rfl (lv_at hl 1 rfl) ?_
  refine lv_aload_n hx hb sd_l_charAt_1 rfl (lv_at hl 0 rfl) ?_
  refine va_tlen hx hb (hE.1.1 i hi).2.2.2 hS (v := nI (ks_len.getD i 0)) rfl sd_l_charAt_2 ?_
  refine ks_cv (ks_runS (As := [.int (nI j), .int (nI (ks_len.getD i 0))]) (rest := []) hx hb hml hown hts (fun U h1 h2 => hE.to hS h1 h2.alike) (ks_check l adK adV hj hn) ⟨sw_check_lL, sw_check_k, sw_i_S, sw_check_c⟩ (n := 2) (by decide) rfl (by decide) hl.1 (by decide) ⟨Nat.le_refl _, Nat.le_refl _⟩ rfl sd_l_charAt_3) hS (fun H1 locs1 z1 o1 hS1 => ?_)
  refine lv_aload_n hx hb sd_l_charAt_6 rfl (lv_at hl 0 rfl) ?_
  refine lv_iload_n hx hb sd_l_charAt_7 rfl (lv_at hl 1 rfl) ?_
  refine va_tb hx hb (hE.1.1 i hi).2.2.2 hS1 (nI_in hj hn) (v := .int ((av_tx.getD i []).getD j 0)) (by rw [nI_clamp (by omega)]) sd_l_charAt_8 ?_
  refine lv_sipush hx hb sd_l_charAt_9 (v := 255) (by decide) ?_
  refine lv_iand hx hb sd_l_charAt_12 ?_
  refine lv_i2c hx hb sd_l_charAt_13 (ks_byt i hi j hj).1 ?_
  exact W.zret hx hb hr (ks_byt i hi j hj).2 (fun t ht hW => ⟨⟨_, (), rfl, rfl, trivial⟩, hS1.F ht⟩) hS1.2.2 sd_l_charAt_14
theorem ks_charAt {i j : Nat} (hi : i < 3) (hj : j < ks_len.getD i 0) : ks_M l adK adV sy_charAt prog_23_method_56_code 2 (some .char) 4 [.ref (adK i), .int (nI j)] (ks_Q ((av_tx.getD i []).getD j 0)) := by
  refine ks_met (by decide) (Nat.le_of_ble_eq_true rfl) ?_
  intro p e s m below meth c ls hx hb hr hml hown hts hlocks hE hl
  have hl : lv_has ls 2 [(0, .ref (adK i)), (1, .int (nI j))] := hl
  have hown : s.vm.findClass "java/lang/String" = some m.cls := hown
  have hS : va_S ks_N s.heap s.heap [] := va_S.rf
  refine lv_aload_n hx hb sd_charAt_0 rfl (lv_at hl 0 rfl) ?_
  refine ks_ci (ks_runV (As := []) (b := adK i) (rest := []) hx hb hml hown hts (fun U h1 h2 => hE.to hS h1 h2.alike) (ks_latin l adK adV hi) ⟨sw_isLatin1_lS, sw_isLatin1_k, sw_isLatin1_s, sw_i_S, sw_isLatin1_c⟩ (vk_recv hE.1 hi hS) (n := 0) (by decide) rfl (by decide) hl.1 (by decide) ⟨Nat.le_refl _, Nat.le_refl _⟩ rfl sd_charAt_1) hS (fun H1 locs1 z1 o1 hS1 => ?_)
  refine lv_if_eq hx hb (tgt := 16) sd_charAt_4 (by decide) (fun h => absurd h (by decide)) (fun _ => ?_)
  refine lv_aload_n hx hb sd_charAt_7 rfl (lv_at hl 0 rfl) ?_
  refine vk_getf (ref := "java/lang/String") hx hb (hE.1.1 i hi).2.2.1 hS1 hown (hts _ sw_f_value) (fun _ h => h) sd_charAt_8 ?_
  refine lv_iload_n hx hb sd_charAt_11 rfl (lv_at hl 1 rfl) ?_
  refine ks_ci (ks_runS (As := [.ref (adV i), .int (nI j)]) (rest := []) hx hb hml hown hts (fun U h1 h2 => hE.to hS1 h1 h2.alike) (ks_lchar l adK adV hi hj) ⟨sw_l_charAt_lS, sw_l_charAt_k, sw_i_L1, sw_l_charAt_c⟩ (n := 2) (by decide) rfl (by decide) hl.1 (by decide) ⟨Nat.le_refl _, Nat.le_refl _⟩ rfl sd_charAt_12) hS1 (fun H2 locs2 z2 o2 hS2 => ?_)
  exact W.zret hx hb hr (ks_byt i hi j hj).2 (fun t ht hW => ⟨⟨_, (), rfl, rfl, trivial⟩, hS2.F ht⟩) hS2.2.2 sd_charAt_15
end
