/-! the law's calls of its four that catch -/
set_option maxRecDepth 20000 in
theorem kML_L : kML.all (fun q => !(Nat.beq q.1 16) || !(av_P q.2.2.1).isNone || decide (q = (16, 99, 9100, 0, 4, 1, 0)) || decide (q = (16, 161, 9101, 0, 5, 1, 0)) || decide (q = (16, 165, 9102, 0, 3, 1, 0)) || decide (q = (16, 260, 9103, 0, 3, 1, 0))) = true := by decide +kernel
theorem kh_catI {x : av_T} {o : Option Nat} {ov : Option av_V} {h9 : av_H} (h : av_catI x o = some (some ov, h9)) : ∃ r h3, x = some (r, h3) ∧ ∃ v : Int32, ov = some (.inl v) ∧ ((r = none ∧ v = 1 ∧ h9 = h3) ∨ ∃ w : Int32, r = some (some (.inl w)) ∧ v = 0 ∧ av_sL h3 o 0 w.toInt64 = some h9) := by
  unfold av_catI at h
  obtain ⟨⟨r, h3⟩, e1, e2⟩ := Option.bind_eq_some_iff.mp h
  refine ⟨r, h3, e1, ?_⟩
  simp only at e2
  split at e2
  · cases e2
    exact ⟨1, rfl, Or.inl ⟨rfl, rfl, rfl⟩⟩
  · obtain ⟨g, g1, g2⟩ := Option.bind_eq_some_iff.mp e2
    cases g2
    exact ⟨0, rfl, Or.inr ⟨_, rfl, rfl, g1⟩⟩
  · cases e2
theorem kh_catL {x : av_T} {o : Option Nat} {ov : Option av_V} {h9 : av_H} (h : av_catL x o = some (some ov, h9)) : ∃ r h3, x = some (r, h3) ∧ ∃ v : Int32, ov = some (.inl v) ∧ ((r = none ∧ v = 1 ∧ h9 = h3) ∨ ∃ w : Int64, r = some (some (.inr (.inl w))) ∧ v = 0 ∧ av_sL h3 o 0 w = some h9) := by
  unfold av_catL at h
  obtain ⟨⟨r, h3⟩, e1, e2⟩ := Option.bind_eq_some_iff.mp h
  refine ⟨r, h3, e1, ?_⟩
  simp only at e2
  split at e2
  · cases e2
    exact ⟨1, rfl, Or.inl ⟨rfl, rfl, rfl⟩⟩
  · obtain ⟨g, g1, g2⟩ := Option.bind_eq_some_iff.mp e2
    cases g2
    exact ⟨0, rfl, Or.inr ⟨_, rfl, rfl, g1⟩⟩
  · cases e2
theorem kh_cal {X : av_X} {n d mi : Nat} {M : av_M} (hP : av_P mi = some M) {as : List av_V} {h : av_H} {r : Option (Option av_V) × av_H} (e : av_cal av_P av_S (av_run av_P av_S X n) d mi as h = some r) : ∃ k, d = k + 1 ∧ av_run av_P av_S X n k mi 0 (av_args 0 as) [] h = some r ∧ Nat.ble (av_sm as) M.2.1 = true := by
  cases d with
  | zero => simp [av_cal] at e
  | succ k =>
    simp only [av_cal, hP] at e
    cases hb : Nat.ble (av_sm as) M.2.1 with
    | false => rw [hb] at e; cases e
    | true => rw [hb] at e; exact ⟨k, rfl, e, rfl⟩
section
variable {l : Launch} {D : va_G} {kA : Nat → ClassId} {f : Nat → Nat} {B : Nat} {X : av_X} {adK adV : Nat → Nat}
variable {p : Program} {e : Env} {R : Room} {s : State} {m : MethodId} {args : Array Value} {below : List Frame} {meth : Method} {cd : Code} {Q : State → Prop} {nL n0 z0 : Nat} {cc : ByteArray}
set_option maxRecDepth 10000 in
set_option maxHeartbeats 4000000 in
/-- a call of one of the four -/
theorem kh_inv (hx : p.tables.exec = Jvm.exec) (hb : cd.code = cc) (hml : cd.maxLocals = nL) (hown : s.vm.findClass (kON 16) = some m.cls) (hts : ∀ w ∈ kTB, w.before args s = true) (hK : va_K D kCL (av_tys kA kON) s) (hE : kE f B X adK adV s) (hs0 : s.heap.size = B + n0) {d : Nat} (hd1 : d + 22 ≤ R.frames) (hd2 : 100 * d + 500 ≤ R.locals)
    {y : MethodName} {bytes : ByteArray} {maxL ix nb : Nat} {hh : List (Nat × Nat × Nat × Nat)} (hc : Cond.codeWith y bytes maxL (some .int) hh ∈ kTB) (hk : Cond.static y ∈ kTB) (hlk : Cond.methodLink (kON 16) ix y ∈ kTB) (hi : Cond.initialized y.cls ∈ kTB) (hpd : y.cls ≠ "java/lang/invoke/MethodHandle" ∧ y.cls ≠ "java/lang/invoke/VarHandle" ∧ (parseMethodDescriptor y.desc).map (fun d => d.parameters.length) = some nb) (hmx : maxL ≤ 60)
    {pc : Nat} {as rest : List av_V} {h2 : av_H} {ov : Option av_V} {h3 : av_H} {H : Heap} {locs : List Loc} {sl : Array Slot} {n1 z1 : Nat}
    (hM : ∀ mc ms : Nat, h2.1.length + mc = h3.1.length → av_sz kCL h2 + ms = av_sz kCL h3 → Met l y (Cond.codeWith y bytes maxL (some .int) hh :: kTB) (av_rm (d + 1) mc ms) (va_Pc (as.map (av_vl f)) (av_PR D kCL kA f B kON (kE f B X adK adV) h2)) (av_QR D kCL kA f B h3 ov) mc ms (fun q => B ≤ q)) (hle : av_le kCL h2 h3) (hok : av_ok8 rest = true)
    (hdg : decode cc pc = .ok (.invokestatic ix, 3)) (hlen : as.length = nb) (e1 : n0 + n1 = h2.1.length) (e2 : z0 + z1 = av_sz kCL h2) (hR : av_RH D kCL kA f B h2 H) (hS : va_S (fun q => B ≤ q) s.heap H locs) (hsl : sl.size = nL) (hbd : h3.1.length ≤ n0 + R.cells ∧ h3.1.length ≤ 1000000 ∧ av_sz kCL h3 ≤ z0 + R.slots)
    (kk : ∀ (H1 : Heap) (locs1 : List Loc) (n2 z2 : Nat), n0 + n2 = h3.1.length → z0 + z2 = av_sz kCL h3 → av_RH D kCL kA f B h3 H1 → va_S (fun q => B ≤ q) s.heap H1 locs1 → W p l e R s m args below meth cd H1 locs1 n2 z2 Q (F0 m (pc + 3) sl ((ov.toList ++ rest).map (av_vl f)))) :
    W p l e R s m args below meth cd H locs n1 z1 Q (F0 m pc sl ((as.reverse ++ rest).map (av_vl f))) := by
  refine av_bound (fun hle0 => ?_)
  have hz0 : H.size = B + h2.1.length := by have := hR.1; omega
  obtain ⟨mc, hmc⟩ : ∃ mc, h2.1.length + mc = h3.1.length := ⟨_, Nat.add_sub_cancel' hle.1⟩
  obtain ⟨ms, hms⟩ : ∃ ms, av_sz kCL h2 + ms = av_sz kCL h3 := ⟨_, Nat.add_sub_cancel' hle.2⟩
  have hMet := hM mc ms hmc hms
  have hEM := kEM kNWf_ok (f := f) (B := B) (X := X) (adK := adK) (adV := adV)
  have hbl : FrameBlind (va_Pc (as.map (av_vl f)) (av_PR D kCL kA f B kON (kE f B X adK adV) h2)) := fun a U g mk q => ⟨q.1, q.2.1, q.2.2.1, va_K.moved (u := U) (U := U.calling g mk a) (Vm.Alike.refl U.vm) q.2.2.2.1, hEM U (U.calling g mk a) U.heap [] q.2.2.2.2 va_S.rf rfl (State.WarmedH.refl U)⟩
  have hpc : ∀ U : State, U.heap = H → s.WarmedH U.vm → va_Pc (as.map (av_vl f)) (av_PR D kCL kA f B kON (kE f B X adK adV) h2) (as.map (av_vl f)).toArray U := fun U hU hW => ⟨rfl, by rw [hU]; exact hR, by rw [hU]; exact hz0, va_K.moved hW.alike hK, hEM s U H locs hE hS hU hW⟩
  have hroom : (av_rm (d + 1) mc ms).frames + 1 ≤ R.frames ∧ 8 + (maxL + 11) + (av_rm (d + 1) mc ms).locals ≤ R.locals := by
    rw [av_rm_l, av_rm_f]
    constructor <;> omega
  have hws : ∀ w ∈ Cond.codeWith y bytes maxL (some .int) hh :: kTB, w ∈ kTB := fun w hw => (List.mem_cons.mp hw).elim (fun z => by rw [z]; exact hc) id
  have hfit : n1 + mc ≤ R.cells ∧ z1 + ms ≤ R.slots := ⟨by omega, by omega⟩
  have hk2 : ∀ (H1 : Heap) (locs1 : List Loc), av_RH D kCL kA f B h3 H1 → va_S (fun q => B ≤ q) s.heap H1 locs1 → W p l e R s m args below meth cd H1 locs1 (n1 + mc) (z1 + ms) Q (F0 m (pc + 3) sl ((ov.toList).map (av_vl f) ++ rest.map (av_vl f))) := by
    intro H1 locs1 hR1 hS1
    have := kk H1 locs1 (n1 + mc) (z1 + ms) (by omega) (by omega) hR1 hS1
    rw [List.map_append] at this
    exact this
  have hlr : 2 * (F0 m pc sl ((as.reverse ++ rest).map (av_vl f))).monitorRoom + ((rest.map (av_vl f)).map fun v => v.category).sum ≤ 8 := lv_room (av_ok_sum hok)
  have hst : (as.reverse ++ rest).map (av_vl f) = (as.map (av_vl f)).reverse ++ rest.map (av_vl f) := by rw [List.map_append, List.map_reverse]
  have cw := vx_cwSW (R := R) (own := kON 16) (index := ix) nb hts (av_good kTB_good (ws := va_wsS (kON 16) ix y (Cond.codeWith y bytes maxL (some .int) hh :: kTB)) (fun w hw => by
    rcases List.mem_append.mp hw with h | h
    · simp only [List.mem_cons, List.not_mem_nil, or_false] at h
      rcases h with rfl | rfl | rfl
      · exact hlk
      · exact hk
      · exact hi
    · exact hws w h)) rfl (rm := av_rm (d + 1) mc ms) rfl rfl hpd hroom
  exact av_callR (vx_runSW (As := as.map (av_vl f)) ⟨hx, hb, hml, hown, hts⟩ hMet cw ⟨hbl, hpc⟩ rfl (by rw [List.length_map]; exact hlen) hsl hst hlr hdg hfit) hS hk2
set_option maxRecDepth 10000 in
set_option maxHeartbeats 4000000 in
theorem kh_SPL (hl : l.stackTraces = false) (hMF : av_MF kTB kON kK av_P kI2) (hLFs : kLFs f B X adK adV) (hf : ∀ a, a < 1000000 → f a = B + a) (hfK : ∀ i, i < 3 → f (1000010 + i) = adK i) (hx : p.tables.exec = Jvm.exec) (hb : cd.code = cc) (hml : cd.maxLocals = nL) (hown : s.vm.findClass (kON 16) = some m.cls) (hts : ∀ w ∈ kTB, w.before args s = true) (hK : va_K D kCL (av_tys kA kON) s) (hE : kE f B X adK adV s) (hs0 : s.heap.size = B + n0) {n d : Nat} (hd1 : d + 21 ≤ R.frames) (hd2 : 100 * d + 400 ≤ R.locals)
    {pc ix mi nb rc op dc : Nat} {as rest : List av_V} {h2 : av_H} {ov : Option av_V} {h3 : av_H} {H : Heap} {locs : List Loc} {sl : Array Slot} {n1 z1 : Nat} (hml2 : (16, ix, mi, op, nb, rc, dc) ∈ kML) (hP : av_P mi = none) (hcall : av_S (av_cal av_P av_S (av_run av_P av_S X n) d) mi as h2 = some (some ov, h3)) (hle : av_le kCL h2 h3) (hok : av_ok8 rest = true)
    (a0 : op = 0 → decode cc pc = .ok (.invokestatic ix, 3) ∧ as.length = nb) (e1 : n0 + n1 = h2.1.length) (e2 : z0 + z1 = av_sz kCL h2) (hR : av_RH D kCL kA f B h2 H) (hS : va_S (fun q => B ≤ q) s.heap H locs) (hsl : sl.size = nL) (hbd : h3.1.length ≤ n0 + R.cells ∧ h3.1.length ≤ 1000000 ∧ av_sz kCL h3 ≤ z0 + R.slots)
    (kk : ∀ (H1 : Heap) (locs1 : List Loc) (n2 z2 : Nat), n0 + n2 = h3.1.length → z0 + z2 = av_sz kCL h3 → av_RH D kCL kA f B h3 H1 → va_S (fun q => B ≤ q) s.heap H1 locs1 → W p l e R s m args below meth cd H1 locs1 n2 z2 Q (F0 m (pc + 3) sl ((ov.toList ++ rest).map (av_vl f)))) :
    W p l e R s m args below meth cd H locs n1 z1 Q (F0 m pc sl ((as.reverse ++ rest).map (av_vl f))) := by
  have hq := List.all_eq_true.mp kML_L _ hml2
  simp only [Bool.or_eq_true, Bool.not_eq_true', decide_eq_true_eq] at hq
  rcases hq with ((((hq | hq) | hq) | hq) | hq) | hq
  · exact absurd hq (by decide)
  · rw [hP] at hq; cases hq
  · cases hq
    obtain ⟨hdg, hlen⟩ := a0 rfl
    simp only [av_S] at hcall
    split at hcall
    · split at hcall
      · rename_i his
        obtain ⟨r, h9, hc, v, rfl, hcat⟩ := kh_catI hcall
        obtain ⟨k, rfl, hrun, hsm⟩ := kh_cal p_141 hc
        exact kh_inv hx hb hml hown hts hK hE hs0 (d := k) (by omega) (by omega) hw_made_c hw_made_k hw_made_l hw_i ⟨by decide, by decide, by decide +kernel⟩ (by decide) (fun mc ms hmc hms => kh_made hl hMF hLFs hf hfK hrun hsm his hcat hbd.2.1 hmc hms) hle hok hdg hlen e1 e2 hR hS hsl hbd kk
      · cases hcall
    · cases hcall
  · cases hq
    obtain ⟨hdg, hlen⟩ := a0 rfl
    simp only [av_S] at hcall
    split at hcall
    · split at hcall
      · rename_i his
        obtain ⟨r, h9, hc, v, rfl, hcat⟩ := kh_catL hcall
        obtain ⟨k, rfl, hrun, hsm⟩ := kh_cal p_154 hc
        exact kh_inv hx hb hml hown hts hK hE hs0 (d := k) (by omega) (by omega) hw_plan_c hw_plan_k hw_plan_l hw_i ⟨by decide, by decide, by decide +kernel⟩ (by decide) (fun mc ms hmc hms => kh_plan hl hMF hLFs hf hfK hrun hsm his hcat hbd.2.1 hmc hms) hle hok hdg hlen e1 e2 hR hS hsl hbd kk
      · cases hcall
    · cases hcall
  · cases hq
    obtain ⟨hdg, hlen⟩ := a0 rfl
    simp only [av_S] at hcall
    split at hcall
    · split at hcall
      · rename_i his
        obtain ⟨r, h9, hc, v, rfl, hcat⟩ := kh_catL hcall
        obtain ⟨k, rfl, hrun, hsm⟩ := kh_cal p_155 hc
        exact kh_inv hx hb hml hown hts hK hE hs0 (d := k) (by omega) (by omega) hw_fixed_c hw_fixed_k hw_fixed_l hw_i ⟨by decide, by decide, by decide +kernel⟩ (by decide) (fun mc ms hmc hms => kh_fixed hl hMF hLFs hf hfK hrun hsm his hcat hbd.2.1 hmc hms) hle hok hdg hlen e1 e2 hR hS hsl hbd kk
      · cases hcall
    · cases hcall
  · cases hq
    obtain ⟨hdg, hlen⟩ := a0 rfl
    simp only [av_S] at hcall
    split at hcall
    · split at hcall
      · rename_i his
        obtain ⟨r, h9, hc, v, rfl, hcat⟩ := kh_catL hcall
        obtain ⟨k, rfl, hrun, hsm⟩ := kh_cal p_180 hc
        exact kh_inv hx hb hml hown hts hK hE hs0 (d := k) (by omega) (by omega) hw_tried_c hw_tried_k hw_tried_l hw_i ⟨by decide, by decide, by decide +kernel⟩ (by decide) (fun mc ms hmc hms => kh_tried hl hMF hLFs hf hfK hrun hsm his hcat hbd.2.1 hmc hms) hle hok hdg hlen e1 e2 hR hS hsl hbd kk
      · cases hcall
    · cases hcall
end
