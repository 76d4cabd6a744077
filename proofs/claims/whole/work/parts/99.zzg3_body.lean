/-! the law's four that catch: their contracts (printed by hlp2.py) -/
section
variable {p : Program} {l : Launch} {e : Env} {R : Room} {s : State} {m : MethodId} {args : Array Value} {below : List Frame} {meth : Method} {c : Code} {H : Heap} {locs : List Loc} {cells slots : Nat} {Q : State → Prop} {cc : ByteArray} {pc : Nat} {sl : Array Slot} {rest : List Value} {f : Nat → Nat}
theorem kh_aload_n (hx : p.tables.exec = Jvm.exec) (hb : c.code = cc) {k : Fin 4} {i : Nat} {o : Option Nat} (hdg : decode cc pc = .ok (.aload_n k, 1)) (hi : (k : Nat) = i) (hl : sl[i]? = some (.val (av_vl f (.inr (.inr o)))))
    (kk : W p l e R s m args below meth c H locs cells slots Q (F0 m (pc + 1) sl (av_vl f (.inr (.inr o)) :: rest))) : W p l e R s m args below meth c H locs cells slots Q (F0 m pc sl rest) := by
  cases o with
  | none => exact lv_aload_nN hx hb hdg hi hl kk
  | some o => exact lv_aload_n hx hb hdg hi hl kk
theorem kh_aload (hx : p.tables.exec = Jvm.exec) (hb : c.code = cc) {i : Nat} {o : Option Nat} (hdg : decode cc pc = .ok (.aload i, 2)) (hl : sl[i]? = some (.val (av_vl f (.inr (.inr o)))))
    (kk : W p l e R s m args below meth c H locs cells slots Q (F0 m (pc + 2) sl (av_vl f (.inr (.inr o)) :: rest))) : W p l e R s m args below meth c H locs cells slots Q (F0 m pc sl rest) := by
  cases o with
  | none => exact lv_aloadN hx hb hdg hl kk
  | some o => exact lv_aload hx hb hdg hl kk
end
theorem kh_same {h3 h9 : av_H} {o : Option Nat} {v : Int64} (hst : av_sL h3 o 0 v = some h9) : h9.1 = h3.1 := by
  unfold av_sL at hst
  split at hst
  · cases hst; rfl
  · cases hst
section
variable {l : Launch} {D : va_G} {kA : Nat → ClassId} {f : Nat → Nat} {B : Nat} {X : av_X} {adK adV : Nat → Nat}
set_option maxRecDepth 10000 in
set_option maxHeartbeats 4000000 in
theorem kh_made (hl : l.stackTraces = false) (hMF : av_MF kTB kON kK av_P kI2) (hLFs : kLFs f B X adK adV) (hf : ∀ a, a < 1000000 → f a = B + a) (hfK : ∀ i, i < 3 → f (1000010 + i) = adK i) {n d : Nat} {x o : Option Nat} {a1 a2 : Int32} {h h3 h9 : av_H} {r : Option (Option av_V)} {v : Int32}
    (hrun : av_run av_P av_S X n d 141 0 (av_args 0 [Sum.inr (Sum.inr x), Sum.inl a1, Sum.inl a2]) [] h = some (r, h3)) (hsm : Nat.ble (av_sm [Sum.inr (Sum.inr x), Sum.inl a1, Sum.inl a2]) mt_141.2.1 = true) (his : av_is h x 10 = true) (hcat : (r = none ∧ v = 1 ∧ h9 = h3) ∨ ∃ w : Int32, r = some (some (.inl w)) ∧ v = 0 ∧ av_sL h3 o 0 w.toInt64 = some h9) (hbd : h9.1.length ≤ 1000000) {mc ms : Nat} (hmc : h.1.length + mc = h9.1.length) (hms : av_sz kCL h + ms = av_sz kCL h9) :
    Met l hy_made (Cond.codeWith hy_made method_3_code 5 (some .int) [(0, 10, 13, 13)] :: kTB) (av_rm (d + 1) mc ms) (va_Pc (([Sum.inr (Sum.inr x), Sum.inl a1, Sum.inl a2, Sum.inr (Sum.inr o)] : List av_V).map (av_vl f)) (av_PR D kCL kA f B kON (kE f B X adK adV) h)) (av_QR D kCL kA f B h9 (some (.inl v))) mc ms (fun q => B ≤ q) := by
  obtain ⟨x, nx, rfl, hx1⟩ := av_is_some his
  have h31 : h9.1 = h3.1 := by
    rcases hcat with ⟨-, -, rfl⟩ | ⟨w, -, -, hst⟩
    · rfl
    · exact kh_same hst
  have l3 : h3.1.length = h9.1.length := by rw [h31]
  have z3 : av_sz kCL h3 = av_sz kCL h9 := by unfold av_sz; rw [h31]
  refine kh_ofWH (cc := method_3_code) (maxL := 5) (ret := some .int) (hh := [(0, 10, 13, 13)]) (by decide) rfl ?_
  intro p e s m args below meth c s₁ Bd hml hv
  obtain ⟨rfl, hR, hz, hK, hE⟩ := hv
  have hx := Bd.exec
  have hb := Bd.bytes
  have hr := Bd.returns
  have hts0 := atoms_spec (ws := Cond.codeWith hy_made method_3_code 5 (some .int) [(0, 10, 13, 13)] :: kTB) Bd.pre
  have hts : ∀ w ∈ kTB, w.before (([Sum.inr (Sum.inr (some x)), Sum.inl a1, Sum.inl a2, Sum.inr (Sum.inr o)] : List av_V).map (av_vl f)).toArray s = true := fun w hw => hts0 w (List.mem_cons_of_mem _ hw)
  have hown : s.vm.findClass (kON 16) = some m.cls := findClass_of_methodNamed Bd.named
  have hlocks := Bd.notSynchronized
  have htab := vx_table (x := hy_made) Bd (hts0 _ List.mem_cons_self)
  have hle := lv_entry (([Sum.inr (Sum.inr (some x)), Sum.inl a1, Sum.inl a2, Sum.inr (Sum.inr o)] : List av_V).map (av_vl f)) (n := 5) (by rw [av_lg_sl]; exact Nat.le_of_ble_eq_true rfl)
  rw [av_args_lm] at hle
  rw [lg_entry_eq]
  generalize (lg_sl (([Sum.inr (Sum.inr (some x)), Sum.inl a1, Sum.inl a2, Sum.inr (Sum.inr o)] : List av_V).map (av_vl f)) ++ List.replicate (5 - (lg_sl (([Sum.inr (Sum.inr (some x)), Sum.inl a1, Sum.inl a2, Sum.inr (Sum.inr o)] : List av_V).map (av_vl f))).length) Slot.unset).toArray = sl at hle ⊢
  refine kh_aload_n (f := f) (o := o) hx hb hd_made_0 rfl (av_loc hle (rfl : av_get (av_args 0 [Sum.inr (Sum.inr (some x)), Sum.inl a1, Sum.inl a2, Sum.inr (Sum.inr o)]) 3 = some (Sum.inr (Sum.inr o)))) ?_
  refine lv_iconst (v := 0) hx hb hd_made_1 (by decide) ?_
  refine lv_aload_n hx hb hd_made_2 rfl (av_loc hle (rfl : av_get (av_args 0 [Sum.inr (Sum.inr (some x)), Sum.inl a1, Sum.inl a2, Sum.inr (Sum.inr o)]) 0 = some (Sum.inr (Sum.inr (some x))))) ?_
  refine lv_iload_n hx hb hd_made_3 rfl (av_loc hle (rfl : av_get (av_args 0 [Sum.inr (Sum.inr (some x)), Sum.inl a1, Sum.inl a2, Sum.inr (Sum.inr o)]) 1 = some (Sum.inl a1))) ?_
  refine lv_iload_n hx hb hd_made_4 rfl (av_loc hle (rfl : av_get (av_args 0 [Sum.inr (Sum.inr (some x)), Sum.inl a1, Sum.inl a2, Sum.inr (Sum.inr o)]) 2 = some (Sum.inl a2))) ?_
  refine kh_call hl hMF hLFs hfK hx hb hml hown hts hK hE hf hz (n := n) (d := d) (n0 := h.1.length) (z0 := av_sz kCL h) (n1 := 0) (z1 := 0) (pc := 5) (as := [Sum.inr (Sum.inr (some x)), Sum.inl a1, Sum.inl a2]) (rest := [Sum.inl 0, Sum.inr (Sum.inr o)]) (a := some x) (Nat.le_of_eq ?_) (Nat.le_of_eq ?_) hL_made hrun (fun M hM => by rw [p_141] at hM; cases hM; exact hsm) (fun M y c2 ret o2 hP hI => ?_) rfl hd_made_5 rfl rfl his rfl rfl hR va_S.rf hle.1 ⟨?_, by omega, ?_⟩ (fun ov er H1 locs1 n2 z2 q1 q2 hR1 hS1 => ?_) (fun er H1 locs1 n2 z2 q9 ce q1 q2 hR1 hS1 hc9 hv9 hcl9 => ?_)
  · show d + 21 = d + 1 + 20
    omega
  · show 100 * d + 400 = 100 * (d + 1) + 300
    omega
  · rw [p_141] at hP
    rw [k_141] at hI
    have hM := Option.some.inj hP
    have eI := Option.some.inj hI
    refine ⟨(congrArg (fun q : kIT => q.2.2.2) eI).symm, ?_⟩
    have e2 : in_141.2.1 = c2 := congrArg (fun q : kIT => q.2.1) eI
    rw [← hM, ← e2]
    exact kt_r141
  · show h3.1.length ≤ h.1.length + mc
    omega
  · show av_sz kCL h3 ≤ av_sz kCL h + ms
    omega
  · rcases hcat with ⟨q, -, -⟩ | ⟨w, q, rfl, hst⟩
    · rw [q] at er
      cases er
    · rw [q] at er
      cases er
      refine lv_i2l (x := w) (rest := [.int 0, av_vl f (Sum.inr (Sum.inr o))]) hx hb hd_made_8 rfl ?_
      exact kh_end (pc9 := 17) hx hb hr hlocks hK hf hd_made_9 hd_made_10 (by decide) hd_made_17 hd_made_18 hst q1 q2 hmc hms hR1 hS1
  · rcases hcat with ⟨-, rfl, rfl⟩ | ⟨w, q, -⟩
    · exact kh_cat hx hb hr hlocks hown hts hE htab (by decide) (by decide) (fun Q k => lv_astore hx hb hd_made_13 hle (by decide) rfl (fun sl' _ => k sl')) hd_made_15 hd_made_16 q1 q2 hmc hms hR1 hS1 hc9 hv9 hcl9
    · rw [q] at er
      cases er
set_option maxRecDepth 10000 in
set_option maxHeartbeats 4000000 in
theorem kh_plan (hl : l.stackTraces = false) (hMF : av_MF kTB kON kK av_P kI2) (hLFs : kLFs f B X adK adV) (hf : ∀ a, a < 1000000 → f a = B + a) (hfK : ∀ i, i < 3 → f (1000010 + i) = adK i) {n d : Nat} {x o : Option Nat} {a1 a2 a3 : Int32} {h h3 h9 : av_H} {r : Option (Option av_V)} {v : Int32}
    (hrun : av_run av_P av_S X n d 154 0 (av_args 0 [Sum.inr (Sum.inr x), Sum.inl a1, Sum.inl a2, Sum.inl a3]) [] h = some (r, h3)) (hsm : Nat.ble (av_sm [Sum.inr (Sum.inr x), Sum.inl a1, Sum.inl a2, Sum.inl a3]) mt_154.2.1 = true) (his : av_is h x 10 = true) (hcat : (r = none ∧ v = 1 ∧ h9 = h3) ∨ ∃ w : Int64, r = some (some (.inr (.inl w))) ∧ v = 0 ∧ av_sL h3 o 0 w = some h9) (hbd : h9.1.length ≤ 1000000) {mc ms : Nat} (hmc : h.1.length + mc = h9.1.length) (hms : av_sz kCL h + ms = av_sz kCL h9) :
    Met l hy_plan (Cond.codeWith hy_plan method_4_code 6 (some .int) [(0, 11, 14, 13)] :: kTB) (av_rm (d + 1) mc ms) (va_Pc (([Sum.inr (Sum.inr x), Sum.inl a1, Sum.inl a2, Sum.inl a3, Sum.inr (Sum.inr o)] : List av_V).map (av_vl f)) (av_PR D kCL kA f B kON (kE f B X adK adV) h)) (av_QR D kCL kA f B h9 (some (.inl v))) mc ms (fun q => B ≤ q) := by
  obtain ⟨x, nx, rfl, hx1⟩ := av_is_some his
  have h31 : h9.1 = h3.1 := by
    rcases hcat with ⟨-, -, rfl⟩ | ⟨w, -, -, hst⟩
    · rfl
    · exact kh_same hst
  have l3 : h3.1.length = h9.1.length := by rw [h31]
  have z3 : av_sz kCL h3 = av_sz kCL h9 := by unfold av_sz; rw [h31]
  refine kh_ofWH (cc := method_4_code) (maxL := 6) (ret := some .int) (hh := [(0, 11, 14, 13)]) (by decide) rfl ?_
  intro p e s m args below meth c s₁ Bd hml hv
  obtain ⟨rfl, hR, hz, hK, hE⟩ := hv
  have hx := Bd.exec
  have hb := Bd.bytes
  have hr := Bd.returns
  have hts0 := atoms_spec (ws := Cond.codeWith hy_plan method_4_code 6 (some .int) [(0, 11, 14, 13)] :: kTB) Bd.pre
  have hts : ∀ w ∈ kTB, w.before (([Sum.inr (Sum.inr (some x)), Sum.inl a1, Sum.inl a2, Sum.inl a3, Sum.inr (Sum.inr o)] : List av_V).map (av_vl f)).toArray s = true := fun w hw => hts0 w (List.mem_cons_of_mem _ hw)
  have hown : s.vm.findClass (kON 16) = some m.cls := findClass_of_methodNamed Bd.named
  have hlocks := Bd.notSynchronized
  have htab := vx_table (x := hy_plan) Bd (hts0 _ List.mem_cons_self)
  have hle := lv_entry (([Sum.inr (Sum.inr (some x)), Sum.inl a1, Sum.inl a2, Sum.inl a3, Sum.inr (Sum.inr o)] : List av_V).map (av_vl f)) (n := 6) (by rw [av_lg_sl]; exact Nat.le_of_ble_eq_true rfl)
  rw [av_args_lm] at hle
  rw [lg_entry_eq]
  generalize (lg_sl (([Sum.inr (Sum.inr (some x)), Sum.inl a1, Sum.inl a2, Sum.inl a3, Sum.inr (Sum.inr o)] : List av_V).map (av_vl f)) ++ List.replicate (6 - (lg_sl (([Sum.inr (Sum.inr (some x)), Sum.inl a1, Sum.inl a2, Sum.inl a3, Sum.inr (Sum.inr o)] : List av_V).map (av_vl f))).length) Slot.unset).toArray = sl at hle ⊢
  refine kh_aload (f := f) (o := o) hx hb hd_plan_0 (av_loc hle (rfl : av_get (av_args 0 [Sum.inr (Sum.inr (some x)), Sum.inl a1, Sum.inl a2, Sum.inl a3, Sum.inr (Sum.inr o)]) 4 = some (Sum.inr (Sum.inr o)))) ?_
  refine lv_iconst (v := 0) hx hb hd_plan_2 (by decide) ?_
  refine lv_aload_n hx hb hd_plan_3 rfl (av_loc hle (rfl : av_get (av_args 0 [Sum.inr (Sum.inr (some x)), Sum.inl a1, Sum.inl a2, Sum.inl a3, Sum.inr (Sum.inr o)]) 0 = some (Sum.inr (Sum.inr (some x))))) ?_
  refine lv_iload_n hx hb hd_plan_4 rfl (av_loc hle (rfl : av_get (av_args 0 [Sum.inr (Sum.inr (some x)), Sum.inl a1, Sum.inl a2, Sum.inl a3, Sum.inr (Sum.inr o)]) 1 = some (Sum.inl a1))) ?_
  refine lv_iload_n hx hb hd_plan_5 rfl (av_loc hle (rfl : av_get (av_args 0 [Sum.inr (Sum.inr (some x)), Sum.inl a1, Sum.inl a2, Sum.inl a3, Sum.inr (Sum.inr o)]) 2 = some (Sum.inl a2))) ?_
  refine lv_iload_n hx hb hd_plan_6 rfl (av_loc hle (rfl : av_get (av_args 0 [Sum.inr (Sum.inr (some x)), Sum.inl a1, Sum.inl a2, Sum.inl a3, Sum.inr (Sum.inr o)]) 3 = some (Sum.inl a3))) ?_
  refine kh_call hl hMF hLFs hfK hx hb hml hown hts hK hE hf hz (n := n) (d := d) (n0 := h.1.length) (z0 := av_sz kCL h) (n1 := 0) (z1 := 0) (pc := 7) (as := [Sum.inr (Sum.inr (some x)), Sum.inl a1, Sum.inl a2, Sum.inl a3]) (rest := [Sum.inl 0, Sum.inr (Sum.inr o)]) (a := some x) (Nat.le_of_eq ?_) (Nat.le_of_eq ?_) hL_plan hrun (fun M hM => by rw [p_154] at hM; cases hM; exact hsm) (fun M y c2 ret o2 hP hI => ?_) rfl hd_plan_7 rfl rfl his rfl rfl hR va_S.rf hle.1 ⟨?_, by omega, ?_⟩ (fun ov er H1 locs1 n2 z2 q1 q2 hR1 hS1 => ?_) (fun er H1 locs1 n2 z2 q9 ce q1 q2 hR1 hS1 hc9 hv9 hcl9 => ?_)
  · show d + 21 = d + 1 + 20
    omega
  · show 100 * d + 400 = 100 * (d + 1) + 300
    omega
  · rw [p_154] at hP
    rw [k_154] at hI
    have hM := Option.some.inj hP
    have eI := Option.some.inj hI
    refine ⟨(congrArg (fun q : kIT => q.2.2.2) eI).symm, ?_⟩
    have e2 : in_154.2.1 = c2 := congrArg (fun q : kIT => q.2.1) eI
    rw [← hM, ← e2]
    exact kt_r154
  · show h3.1.length ≤ h.1.length + mc
    omega
  · show av_sz kCL h3 ≤ av_sz kCL h + ms
    omega
  · rcases hcat with ⟨q, -, -⟩ | ⟨w, q, rfl, hst⟩
    · rw [q] at er
      cases er
    · rw [q] at er
      cases er
      exact kh_end (pc9 := 18) hx hb hr hlocks hK hf hd_plan_10 hd_plan_11 (by decide) hd_plan_18 hd_plan_19 hst q1 q2 hmc hms hR1 hS1
  · rcases hcat with ⟨-, rfl, rfl⟩ | ⟨w, q, -⟩
    · exact kh_cat hx hb hr hlocks hown hts hE htab (by decide) (by decide) (fun Q k => lv_astore hx hb hd_plan_14 hle (by decide) rfl (fun sl' _ => k sl')) hd_plan_16 hd_plan_17 q1 q2 hmc hms hR1 hS1 hc9 hv9 hcl9
    · rw [q] at er
      cases er
set_option maxRecDepth 10000 in
set_option maxHeartbeats 4000000 in
theorem kh_fixed (hl : l.stackTraces = false) (hMF : av_MF kTB kON kK av_P kI2) (hLFs : kLFs f B X adK adV) (hf : ∀ a, a < 1000000 → f a = B + a) (hfK : ∀ i, i < 3 → f (1000010 + i) = adK i) {n d : Nat} {x o : Option Nat} {a1 : Int32} {h h3 h9 : av_H} {r : Option (Option av_V)} {v : Int32}
    (hrun : av_run av_P av_S X n d 155 0 (av_args 0 [Sum.inr (Sum.inr x), Sum.inl a1]) [] h = some (r, h3)) (hsm : Nat.ble (av_sm [Sum.inr (Sum.inr x), Sum.inl a1]) mt_155.2.1 = true) (his : av_is h x 10 = true) (hcat : (r = none ∧ v = 1 ∧ h9 = h3) ∨ ∃ w : Int64, r = some (some (.inr (.inl w))) ∧ v = 0 ∧ av_sL h3 o 0 w = some h9) (hbd : h9.1.length ≤ 1000000) {mc ms : Nat} (hmc : h.1.length + mc = h9.1.length) (hms : av_sz kCL h + ms = av_sz kCL h9) :
    Met l hy_fixed (Cond.codeWith hy_fixed method_5_code 4 (some .int) [(0, 8, 11, 13)] :: kTB) (av_rm (d + 1) mc ms) (va_Pc (([Sum.inr (Sum.inr x), Sum.inl a1, Sum.inr (Sum.inr o)] : List av_V).map (av_vl f)) (av_PR D kCL kA f B kON (kE f B X adK adV) h)) (av_QR D kCL kA f B h9 (some (.inl v))) mc ms (fun q => B ≤ q) := by
  obtain ⟨x, nx, rfl, hx1⟩ := av_is_some his
  have h31 : h9.1 = h3.1 := by
    rcases hcat with ⟨-, -, rfl⟩ | ⟨w, -, -, hst⟩
    · rfl
    · exact kh_same hst
  have l3 : h3.1.length = h9.1.length := by rw [h31]
  have z3 : av_sz kCL h3 = av_sz kCL h9 := by unfold av_sz; rw [h31]
  refine kh_ofWH (cc := method_5_code) (maxL := 4) (ret := some .int) (hh := [(0, 8, 11, 13)]) (by decide) rfl ?_
  intro p e s m args below meth c s₁ Bd hml hv
  obtain ⟨rfl, hR, hz, hK, hE⟩ := hv
  have hx := Bd.exec
  have hb := Bd.bytes
  have hr := Bd.returns
  have hts0 := atoms_spec (ws := Cond.codeWith hy_fixed method_5_code 4 (some .int) [(0, 8, 11, 13)] :: kTB) Bd.pre
  have hts : ∀ w ∈ kTB, w.before (([Sum.inr (Sum.inr (some x)), Sum.inl a1, Sum.inr (Sum.inr o)] : List av_V).map (av_vl f)).toArray s = true := fun w hw => hts0 w (List.mem_cons_of_mem _ hw)
  have hown : s.vm.findClass (kON 16) = some m.cls := findClass_of_methodNamed Bd.named
  have hlocks := Bd.notSynchronized
  have htab := vx_table (x := hy_fixed) Bd (hts0 _ List.mem_cons_self)
  have hle := lv_entry (([Sum.inr (Sum.inr (some x)), Sum.inl a1, Sum.inr (Sum.inr o)] : List av_V).map (av_vl f)) (n := 4) (by rw [av_lg_sl]; exact Nat.le_of_ble_eq_true rfl)
  rw [av_args_lm] at hle
  rw [lg_entry_eq]
  generalize (lg_sl (([Sum.inr (Sum.inr (some x)), Sum.inl a1, Sum.inr (Sum.inr o)] : List av_V).map (av_vl f)) ++ List.replicate (4 - (lg_sl (([Sum.inr (Sum.inr (some x)), Sum.inl a1, Sum.inr (Sum.inr o)] : List av_V).map (av_vl f))).length) Slot.unset).toArray = sl at hle ⊢
  refine kh_aload_n (f := f) (o := o) hx hb hd_fixed_0 rfl (av_loc hle (rfl : av_get (av_args 0 [Sum.inr (Sum.inr (some x)), Sum.inl a1, Sum.inr (Sum.inr o)]) 2 = some (Sum.inr (Sum.inr o)))) ?_
  refine lv_iconst (v := 0) hx hb hd_fixed_1 (by decide) ?_
  refine lv_aload_n hx hb hd_fixed_2 rfl (av_loc hle (rfl : av_get (av_args 0 [Sum.inr (Sum.inr (some x)), Sum.inl a1, Sum.inr (Sum.inr o)]) 0 = some (Sum.inr (Sum.inr (some x))))) ?_
  refine lv_iload_n hx hb hd_fixed_3 rfl (av_loc hle (rfl : av_get (av_args 0 [Sum.inr (Sum.inr (some x)), Sum.inl a1, Sum.inr (Sum.inr o)]) 1 = some (Sum.inl a1))) ?_
  refine kh_call hl hMF hLFs hfK hx hb hml hown hts hK hE hf hz (n := n) (d := d) (n0 := h.1.length) (z0 := av_sz kCL h) (n1 := 0) (z1 := 0) (pc := 4) (as := [Sum.inr (Sum.inr (some x)), Sum.inl a1]) (rest := [Sum.inl 0, Sum.inr (Sum.inr o)]) (a := some x) (Nat.le_of_eq ?_) (Nat.le_of_eq ?_) hL_fixed hrun (fun M hM => by rw [p_155] at hM; cases hM; exact hsm) (fun M y c2 ret o2 hP hI => ?_) rfl hd_fixed_4 rfl rfl his rfl rfl hR va_S.rf hle.1 ⟨?_, by omega, ?_⟩ (fun ov er H1 locs1 n2 z2 q1 q2 hR1 hS1 => ?_) (fun er H1 locs1 n2 z2 q9 ce q1 q2 hR1 hS1 hc9 hv9 hcl9 => ?_)
  · show d + 21 = d + 1 + 20
    omega
  · show 100 * d + 400 = 100 * (d + 1) + 300
    omega
  · rw [p_155] at hP
    rw [k_155] at hI
    have hM := Option.some.inj hP
    have eI := Option.some.inj hI
    refine ⟨(congrArg (fun q : kIT => q.2.2.2) eI).symm, ?_⟩
    have e2 : in_155.2.1 = c2 := congrArg (fun q : kIT => q.2.1) eI
    rw [← hM, ← e2]
    exact kt_r155
  · show h3.1.length ≤ h.1.length + mc
    omega
  · show av_sz kCL h3 ≤ av_sz kCL h + ms
    omega
  · rcases hcat with ⟨q, -, -⟩ | ⟨w, q, rfl, hst⟩
    · rw [q] at er
      cases er
    · rw [q] at er
      cases er
      exact kh_end (pc9 := 14) hx hb hr hlocks hK hf hd_fixed_7 hd_fixed_8 (by decide) hd_fixed_14 hd_fixed_15 hst q1 q2 hmc hms hR1 hS1
  · rcases hcat with ⟨-, rfl, rfl⟩ | ⟨w, q, -⟩
    · exact kh_cat hx hb hr hlocks hown hts hE htab (by decide) (by decide) (fun Q k => lv_astore_n hx hb hd_fixed_11 rfl hle (by decide) rfl (fun sl' _ => k sl')) hd_fixed_12 hd_fixed_13 q1 q2 hmc hms hR1 hS1 hc9 hv9 hcl9
    · rw [q] at er
      cases er
set_option maxRecDepth 10000 in
set_option maxHeartbeats 4000000 in
theorem kh_tried (hl : l.stackTraces = false) (hMF : av_MF kTB kON kK av_P kI2) (hLFs : kLFs f B X adK adV) (hf : ∀ a, a < 1000000 → f a = B + a) (hfK : ∀ i, i < 3 → f (1000010 + i) = adK i) {n d : Nat} {x o : Option Nat} {a1 : Int32} {h h3 h9 : av_H} {r : Option (Option av_V)} {v : Int32}
    (hrun : av_run av_P av_S X n d 180 0 (av_args 0 [Sum.inr (Sum.inr x), Sum.inl a1]) [] h = some (r, h3)) (hsm : Nat.ble (av_sm [Sum.inr (Sum.inr x), Sum.inl a1]) mt_180.2.1 = true) (his : av_is h x 10 = true) (hcat : (r = none ∧ v = 1 ∧ h9 = h3) ∨ ∃ w : Int64, r = some (some (.inr (.inl w))) ∧ v = 0 ∧ av_sL h3 o 0 w = some h9) (hbd : h9.1.length ≤ 1000000) {mc ms : Nat} (hmc : h.1.length + mc = h9.1.length) (hms : av_sz kCL h + ms = av_sz kCL h9) :
    Met l hy_tried (Cond.codeWith hy_tried method_6_code 4 (some .int) [(0, 8, 11, 13)] :: kTB) (av_rm (d + 1) mc ms) (va_Pc (([Sum.inr (Sum.inr x), Sum.inl a1, Sum.inr (Sum.inr o)] : List av_V).map (av_vl f)) (av_PR D kCL kA f B kON (kE f B X adK adV) h)) (av_QR D kCL kA f B h9 (some (.inl v))) mc ms (fun q => B ≤ q) := by
  obtain ⟨x, nx, rfl, hx1⟩ := av_is_some his
  have h31 : h9.1 = h3.1 := by
    rcases hcat with ⟨-, -, rfl⟩ | ⟨w, -, -, hst⟩
    · rfl
    · exact kh_same hst
  have l3 : h3.1.length = h9.1.length := by rw [h31]
  have z3 : av_sz kCL h3 = av_sz kCL h9 := by unfold av_sz; rw [h31]
  refine kh_ofWH (cc := method_6_code) (maxL := 4) (ret := some .int) (hh := [(0, 8, 11, 13)]) (by decide) rfl ?_
  intro p e s m args below meth c s₁ Bd hml hv
  obtain ⟨rfl, hR, hz, hK, hE⟩ := hv
  have hx := Bd.exec
  have hb := Bd.bytes
  have hr := Bd.returns
  have hts0 := atoms_spec (ws := Cond.codeWith hy_tried method_6_code 4 (some .int) [(0, 8, 11, 13)] :: kTB) Bd.pre
  have hts : ∀ w ∈ kTB, w.before (([Sum.inr (Sum.inr (some x)), Sum.inl a1, Sum.inr (Sum.inr o)] : List av_V).map (av_vl f)).toArray s = true := fun w hw => hts0 w (List.mem_cons_of_mem _ hw)
  have hown : s.vm.findClass (kON 16) = some m.cls := findClass_of_methodNamed Bd.named
  have hlocks := Bd.notSynchronized
  have htab := vx_table (x := hy_tried) Bd (hts0 _ List.mem_cons_self)
  have hle := lv_entry (([Sum.inr (Sum.inr (some x)), Sum.inl a1, Sum.inr (Sum.inr o)] : List av_V).map (av_vl f)) (n := 4) (by rw [av_lg_sl]; exact Nat.le_of_ble_eq_true rfl)
  rw [av_args_lm] at hle
  rw [lg_entry_eq]
  generalize (lg_sl (([Sum.inr (Sum.inr (some x)), Sum.inl a1, Sum.inr (Sum.inr o)] : List av_V).map (av_vl f)) ++ List.replicate (4 - (lg_sl (([Sum.inr (Sum.inr (some x)), Sum.inl a1, Sum.inr (Sum.inr o)] : List av_V).map (av_vl f))).length) Slot.unset).toArray = sl at hle ⊢
  refine kh_aload_n (f := f) (o := o) hx hb hd_tried_0 rfl (av_loc hle (rfl : av_get (av_args 0 [Sum.inr (Sum.inr (some x)), Sum.inl a1, Sum.inr (Sum.inr o)]) 2 = some (Sum.inr (Sum.inr o)))) ?_
  refine lv_iconst (v := 0) hx hb hd_tried_1 (by decide) ?_
  refine lv_aload_n hx hb hd_tried_2 rfl (av_loc hle (rfl : av_get (av_args 0 [Sum.inr (Sum.inr (some x)), Sum.inl a1, Sum.inr (Sum.inr o)]) 0 = some (Sum.inr (Sum.inr (some x))))) ?_
  refine lv_iload_n hx hb hd_tried_3 rfl (av_loc hle (rfl : av_get (av_args 0 [Sum.inr (Sum.inr (some x)), Sum.inl a1, Sum.inr (Sum.inr o)]) 1 = some (Sum.inl a1))) ?_
  refine kh_call hl hMF hLFs hfK hx hb hml hown hts hK hE hf hz (n := n) (d := d) (n0 := h.1.length) (z0 := av_sz kCL h) (n1 := 0) (z1 := 0) (pc := 4) (as := [Sum.inr (Sum.inr (some x)), Sum.inl a1]) (rest := [Sum.inl 0, Sum.inr (Sum.inr o)]) (a := some x) (Nat.le_of_eq ?_) (Nat.le_of_eq ?_) hL_tried hrun (fun M hM => by rw [p_180] at hM; cases hM; exact hsm) (fun M y c2 ret o2 hP hI => ?_) rfl hd_tried_4 rfl rfl his rfl rfl hR va_S.rf hle.1 ⟨?_, by omega, ?_⟩ (fun ov er H1 locs1 n2 z2 q1 q2 hR1 hS1 => ?_) (fun er H1 locs1 n2 z2 q9 ce q1 q2 hR1 hS1 hc9 hv9 hcl9 => ?_)
  · show d + 21 = d + 1 + 20
    omega
  · show 100 * d + 400 = 100 * (d + 1) + 300
    omega
  · rw [p_180] at hP
    rw [k_180] at hI
    have hM := Option.some.inj hP
    have eI := Option.some.inj hI
    refine ⟨(congrArg (fun q : kIT => q.2.2.2) eI).symm, ?_⟩
    have e2 : in_180.2.1 = c2 := congrArg (fun q : kIT => q.2.1) eI
    rw [← hM, ← e2]
    exact kt_r180
  · show h3.1.length ≤ h.1.length + mc
    omega
  · show av_sz kCL h3 ≤ av_sz kCL h + ms
    omega
  · rcases hcat with ⟨q, -, -⟩ | ⟨w, q, rfl, hst⟩
    · rw [q] at er
      cases er
    · rw [q] at er
      cases er
      exact kh_end (pc9 := 14) hx hb hr hlocks hK hf hd_tried_7 hd_tried_8 (by decide) hd_tried_14 hd_tried_15 hst q1 q2 hmc hms hR1 hS1
  · rcases hcat with ⟨-, rfl, rfl⟩ | ⟨w, q, -⟩
    · exact kh_cat hx hb hr hlocks hown hts hE htab (by decide) (by decide) (fun Q k => lv_astore_n hx hb hd_tried_11 rfl hle (by decide) rfl (fun sl' _ => k sl')) hd_tried_12 hd_tried_13 q1 q2 hmc hms hR1 hS1 hc9 hv9 hcl9
    · rw [q] at er
      cases er
end
