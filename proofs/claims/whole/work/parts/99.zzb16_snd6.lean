/-! a call of a method whose contract stands -/
def av_rm (d mc ms : Nat) : Room := { frames := d + 20, cells := mc, slots := ms, locals := 100 * d + 300 }
def av_PR (D : va_G) (cl : List vw_C) (kA : Nat → ClassId) (f : Nat → Nat) (B : Nat) (ON : Nat → String) (EX : State → Prop) (h : av_H) (U : State) : Prop :=
  av_RH D cl kA f B h U.heap ∧ U.heap.size = B + h.1.length ∧ va_K D cl (av_tys kA ON) U ∧ EX U
def av_QR (D : va_G) (cl : List vw_C) (kA : Nat → ClassId) (f : Nat → Nat) (B : Nat) (h3 : av_H) (ov : Option av_V) : Array Value → State → Outcome → State → Prop := match ov with
  | none => va_Qv (S := Unit) (fun _ => True) (fun _ t => av_RH D cl kA f B h3 t.heap) (fun q => B ≤ q)
  | some (.inl v) => va_Qi (S := Unit) (fun r _ => r = v) (fun _ t => av_RH D cl kA f B h3 t.heap) (fun q => B ≤ q)
  | some (.inr (.inl v)) => va_Ql (S := Unit) (fun r _ => r = v) (fun _ t => av_RH D cl kA f B h3 t.heap) (fun q => B ≤ q)
  | some (.inr (.inr _)) => fun _ _ _ _ => False
/-- the contract of a method at these arguments, this heap -/
def av_MT (l : Launch) (D : va_G) (cl : List vw_C) (kA : Nat → ClassId) (f : Nat → Nat) (B : Nat) (ON : Nat → String) (EX : State → Prop) (tb : List Cond) (P : Nat → Option av_M) (I : av_I) (d mi : Nat) (as : List av_V) (h : av_H) (ov : Option av_V) (h3 : av_H) : Prop :=
  ∀ (M : av_M) (y : MethodName) (cc : ByteArray) (ret : Option FieldType) (o : Nat), P mi = some M → I mi = some (y, cc, ret, o) → ∀ mc ms : Nat, h.1.length + mc = h3.1.length → av_sz cl h + ms = av_sz cl h3 →
    Met l y (Cond.code y cc M.2.1 ret :: tb) (av_rm d mc ms) (va_Pc (as.map (av_vl f)) (av_PR D cl kA f B ON EX h)) (av_QR D cl kA f B h3 ov) mc ms (fun q => B ≤ q)
/-- what is known of a method -/
def av_MF (tb : List Cond) (ON : Nat → String) (K : av_KT) (P : Nat → Option av_M) (I : av_I) : Prop :=
  ∀ (mi : Nat) (M : av_M) (y : MethodName) (cc : ByteArray) (ret : Option FieldType) (o : Nat), P mi = some M → I mi = some (y, cc, ret, o) →
    plainName y.cls = true ∧ Cond.code y cc M.2.1 ret ∈ tb ∧ Cond.initialized y.cls ∈ tb ∧ ON o = y.cls ∧ M.2.1 ≤ 60 ∧ av_pc M 0 = 0 ∧
    (∀ i row, av_row M.2.2.2 i = some row → av_ck K o (if y.name = "<init>" then 1 else 0) M.1 cc M.2.1 (av_pc M) i row = true) ∧
    ((M.1 = 0 ∧ ret = none) ∨ (M.1 = 1 ∧ ret = some .int) ∨ (M.1 = 2 ∧ ret = some .long) ∨ (M.1 = 4 ∧ ret = some .boolean))
/-- what is known of a call's link -/
def av_LF (tb : List Cond) (ON : Nat → String) (EX : State → Prop) (P : Nat → Option av_M) (I : av_I) (o ix mi op nb dc : Nat) : Prop :=
  ∃ (M : av_M) (y : MethodName) (cc : ByteArray) (ret : Option FieldType) (o2 : Nat), P mi = some M ∧ I mi = some (y, cc, ret, o2) ∧ (y.cls ≠ "java/lang/invoke/MethodHandle" ∧ y.cls ≠ "java/lang/invoke/VarHandle" ∧ (parseMethodDescriptor y.desc).map (fun d => d.parameters.length) = some nb) ∧
    ((op = 0 ∧ Cond.static y ∈ tb ∧ Cond.methodLink (ON o) ix y ∈ tb) ∨ (op = 0 ∧ Cond.static y ∈ tb ∧ ∃ host, ∀ s, EX s → va_Nw (.methodLinkNest (ON o) ix y host) s) ∨
     (op = 1 ∧ Cond.instanceMethod y ∈ tb ∧ Cond.selects (ON dc) y y ∈ tb ∧ Cond.methodLink (ON o) ix y ∈ tb ∧ y.cls = ON dc ∧ dc < 12) ∨
     (op = 2 ∧ y.name = "<init>" ∧ ret = none ∧ dc < 12 ∧ Cond.instanceMethod y ∈ tb ∧ (Cond.methodLink (ON o) ix y ∈ tb ∨ ∃ host, ∀ s, EX s → va_Nw (.methodLinkNest (ON o) ix y host) s)))
theorem av_good {tb : List Cond} (hg : ∀ w ∈ tb, goodWord w = true) {ws : List Cond} (h : ∀ w ∈ ws, w ∈ tb) : GoodIn tb ws := fun w hw => ⟨h w hw, good_of_word (hg w (h w hw))⟩
section
variable {p : Program} {l : Launch} {e : Env} {R : Room} {s : State} {m : MethodId} {args : Array Value} {below : List Frame} {meth : Method} {cd : Code} {Q : State → Prop}
variable {D : va_G} {cl : List vw_C} {kA : Nat → ClassId} {f : Nat → Nat} {B nL n0 z0 : Nat} {cc : ByteArray} {tb : List Cond} {ty : Nat → Nat → FieldType} {ON : Nat → String} {K : av_KT} {EX : State → Prop} {P : Nat → Option av_M} {I : av_I}
theorem av_callR {H : Heap} {locs : List Loc} {cells slots mc ms pc : Nat} {ls : Array Slot} {st0 rest : List Value} {a : Array Value} {h3 : av_H} {ov : Option av_V}
    (hr : va_Run p l e R s m args below meth cd H locs cells slots mc ms (F0 m pc ls st0) rest (av_QR D cl kA f B h3 ov a) (fun q => B ≤ q)) (hS : va_S (fun q => B ≤ q) s.heap H locs)
    (kk : ∀ (H1 : Heap) (locs1 : List Loc), av_RH D cl kA f B h3 H1 → va_S (fun q => B ≤ q) s.heap H1 locs1 → W p l e R s m args below meth cd H1 locs1 (cells + mc) (slots + ms) Q (F0 m (pc + 3) ls ((ov.toList).map (av_vl f) ++ rest))) :
    W p l e R s m args below meth cd H locs cells slots Q (F0 m pc ls st0) := by
  rcases ov with _ | v | v | v
  · exact va_callv (a := a) hr hS (fun q _ h => h) (fun q h => h) (fun u t H1 locs1 ht hvm hp hB hz hk hS1 => kk H1 locs1 (by rw [← ht]; exact hB) hS1)
  · refine va_calli (a := a) hr hS (fun q _ h => h) (fun q h => h) (fun r u t H1 locs1 ht hvm hp hB hz hk hS1 => ?_)
    subst hp
    exact kk H1 locs1 (by rw [← ht]; exact hB) hS1
  · refine va_calll (a := a) hr hS (fun q _ h => h) (fun q h => h) (fun r u t H1 locs1 ht hvm hp hB hz hk hS1 => ?_)
    subst hp
    exact kk H1 locs1 (by rw [← ht]; exact hB) hS1
  · intro T hT X
    obtain ⟨v1, st₀, t, T', L, h0, X', hL, e1, e2, hq, st⟩ := hr T hT X
    exact hq.elim
theorem av_rm_l (d mc ms : Nat) : (av_rm d mc ms).locals = 100 * d + 300 := rfl
theorem av_rm_f (d mc ms : Nat) : (av_rm d mc ms).frames = d + 20 := rfl
set_option maxRecDepth 10000 in
set_option maxHeartbeats 4000000 in
theorem av_inv_ok (hx : p.tables.exec = Jvm.exec) (hb : cd.code = cc) (hml : cd.maxLocals = nL) {o : Nat} (hown : s.vm.findClass (ON o) = some m.cls) (hts : ∀ w ∈ tb, w.before args s = true) (hg : ∀ w ∈ tb, goodWord w = true) (hK : va_K D cl (av_tys kA ON) s) (hKF : av_KF tb cl ty ON K) (hMF : av_MF tb ON K P I) (hE : EX s)
    (hEM : ∀ (s U : State) (H : Heap) (locs : List Loc), EX s → va_S (fun q => B ≤ q) s.heap H locs → U.heap = H → s.WarmedH U.vm → EX U)
    (hf : ∀ a, a < 1000000 → f a = B + a) (hs0 : s.heap.size = B + n0) (hcl : cl.length = 12) {d : Nat} (hd1 : d + 21 ≤ R.frames) (hd2 : 100 * d + 400 ≤ R.locals)
    {pc ix mi nb op dc : Nat} {as rest : List av_V} {h2 : av_H} {ov : Option av_V} {h3 : av_H} {H : Heap} {locs : List Loc} {sl : Array Slot} {n1 z1 : Nat} (hLF : av_LF tb ON EX P I o ix mi op nb dc) (hM : av_MT l D cl kA f B ON EX tb P I d mi as h2 ov h3) (hle : av_le cl h2 h3) (hok : av_ok8 rest = true)
    (a0 : op = 0 → decode cc pc = .ok (.invokestatic ix, 3) ∧ as.length = nb) (a1 : op = 1 → decode cc pc = .ok (.invokevirtual ix, 3) ∧ as.length = nb + 1 ∧ ∃ a, as[0]? = some (.inr (.inr a)) ∧ (dc ≠ 9000 → av_is h2 a dc = true)) (a2 : op = 2 → decode cc pc = .ok (.invokespecial ix, 3) ∧ as.length = nb + 1 ∧ ∃ a, as[0]? = some (.inr (.inr a)) ∧ av_is h2 a dc = true)
    (e1 : n0 + n1 = h2.1.length) (e2 : z0 + z1 = av_sz cl h2) (hR : av_RH D cl kA f B h2 H) (hS : va_S (fun q => B ≤ q) s.heap H locs) (hsl : sl.size = nL) (hbd : h3.1.length ≤ n0 + R.cells ∧ h3.1.length ≤ 1000000 ∧ av_sz cl h3 ≤ z0 + R.slots)
    (kk : ∀ (H1 : Heap) (locs1 : List Loc) (n2 z2 : Nat), n0 + n2 = h3.1.length → z0 + z2 = av_sz cl h3 → av_RH D cl kA f B h3 H1 → va_S (fun q => B ≤ q) s.heap H1 locs1 → W p l e R s m args below meth cd H1 locs1 n2 z2 Q (F0 m (pc + 3) sl ((ov.toList ++ rest).map (av_vl f)))) :
    W p l e R s m args below meth cd H locs n1 z1 Q (F0 m pc sl ((as.reverse ++ rest).map (av_vl f))) := by
  refine av_bound (fun hle0 => ?_)
  have hz0 : H.size = B + h2.1.length := by have := hR.1; omega
  obtain ⟨mc, hmc⟩ : ∃ mc, h2.1.length + mc = h3.1.length := ⟨_, Nat.add_sub_cancel' hle.1⟩
  obtain ⟨ms, hms⟩ : ∃ ms, av_sz cl h2 + ms = av_sz cl h3 := ⟨_, Nat.add_sub_cancel' hle.2⟩
  obtain ⟨M, y, c2, ret, o2, hP, hI, hpd, hop⟩ := hLF
  obtain ⟨hpl, hcode, hini, -, hnl, -⟩ := hMF mi M y c2 ret o2 hP hI
  have hMet := hM M y c2 ret o2 hP hI mc ms hmc hms
  have hbl : FrameBlind (va_Pc (as.map (av_vl f)) (av_PR D cl kA f B ON EX h2)) := fun a U g mk q => ⟨q.1, q.2.1, q.2.2.1, va_K.moved (u := U) (U := U.calling g mk a) (Vm.Alike.refl U.vm) q.2.2.2.1, hEM U (U.calling g mk a) U.heap [] q.2.2.2.2 va_S.rf rfl (State.WarmedH.refl U)⟩
  have hpc : ∀ U : State, U.heap = H → s.WarmedH U.vm → va_Pc (as.map (av_vl f)) (av_PR D cl kA f B ON EX h2) (as.map (av_vl f)).toArray U := fun U hU hW => ⟨rfl, by rw [hU]; exact hR, by rw [hU]; exact hz0, va_K.moved hW.alike hK, hEM s U H locs hE hS hU hW⟩
  have hroom : (av_rm d mc ms).frames + 1 ≤ R.frames ∧ 8 + (M.2.1 + 11) + (av_rm d mc ms).locals ≤ R.locals := by
    rw [av_rm_l, av_rm_f]
    constructor <;> omega
  have hws : ∀ w ∈ Cond.code y c2 M.2.1 ret :: tb, w ∈ tb := fun w hw => (List.mem_cons.mp hw).elim (fun z => by rw [z]; exact hcode) id
  have hfit : n1 + mc ≤ R.cells ∧ z1 + ms ≤ R.slots := ⟨by omega, by omega⟩
  have hk : ∀ (H1 : Heap) (locs1 : List Loc), av_RH D cl kA f B h3 H1 → va_S (fun q => B ≤ q) s.heap H1 locs1 → W p l e R s m args below meth cd H1 locs1 (n1 + mc) (z1 + ms) Q (F0 m (pc + 3) sl ((ov.toList).map (av_vl f) ++ rest.map (av_vl f))) := by
    intro H1 locs1 hR1 hS1
    have := kk H1 locs1 (n1 + mc) (z1 + ms) (by omega) (by omega) hR1 hS1
    rw [List.map_append] at this
    exact this
  have hlr : 2 * (F0 m pc sl ((as.reverse ++ rest).map (av_vl f))).monitorRoom + ((rest.map (av_vl f)).map fun v => v.category).sum ≤ 8 := lv_room (av_ok_sum hok)
  have hst : (as.reverse ++ rest).map (av_vl f) = (as.map (av_vl f)).reverse ++ rest.map (av_vl f) := by rw [List.map_append, List.map_reverse]
  rcases hop with ⟨rfl, hstat, hlink⟩ | ⟨rfl, hstat, host, hlink⟩ | ⟨rfl, hinst, hsel, hlink, hyc, hdc⟩ | ⟨rfl, hyn, rfl, hdc, hinst, hlink⟩
  · obtain ⟨hdg, hlen⟩ := a0 rfl
    have cw := va_cwS (R := R) (own := ON o) (index := ix) nb hts (av_good hg (ws := va_wsS (ON o) ix y (Cond.code y c2 M.2.1 ret :: tb)) (fun w hw => by
      rcases List.mem_append.mp hw with h | h
      · simp only [List.mem_cons, List.not_mem_nil, or_false] at h
        rcases h with rfl | rfl | rfl
        · exact hlink
        · exact hstat
        · exact hini
      · exact hws w h)) rfl (rm := av_rm d mc ms) rfl rfl hpd hroom
    exact av_callR (va_runS (As := as.map (av_vl f)) ⟨hx, hb, hml, hown, hts⟩ hMet cw ⟨hbl, hpc⟩ rfl (by rw [List.length_map]; exact hlen) hsl hst hlr hdg hfit) hS hk
  · obtain ⟨hdg, hlen⟩ := a0 rfl
    have cw := va_cnB (R := R) (own := ON o) (index := ix) (host := host) nb hts (av_good hg hws) rfl (rm := av_rm d mc ms) rfl rfl (hlink s hE) (hts _ hini) hpd hroom
    exact av_callR (va_runSN (As := as.map (av_vl f)) ⟨hx, hb, hml, hown, hts⟩ hMet ⟨cw, hts _ hstat, trivial⟩ ⟨hbl, hpc⟩ rfl (by rw [List.length_map]; exact hlen) hsl hst hlr hdg hfit) hS hk
  · obtain ⟨hdg, hlen, a, ha, his⟩ := a1 rfl
    have his := his (by omega)
    obtain ⟨x, n, rfl, hx1⟩ := av_is_some his
    cases as with
    | nil => simp at ha
    | cons v0 as =>
      simp only [List.getElem?_cons_zero, Option.some.injEq] at ha
      subst ha
      obtain ⟨q, hq⟩ : ∃ q, cl[dc]? = some q := ⟨_, List.getElem?_eq_getElem (by omega)⟩
      obtain ⟨C, T, N⟩ := q
      have hON := (hKF.1 _ _ _ _ hq).2.2.2.2.2.2.1
      have hx2 : x < h2.1.length := (List.getElem?_eq_some_iff.mp hx1).1
      have hfx : f x = B + x := hf x (by have := hR.2.1; omega)
      obtain ⟨ws, q0, hPP, hDD, he, -, -⟩ := hR.at hx1 (by show (_ : Nat) ≠ 12; omega)
      rw [av_ce_obj hx1 hq, ← hfx] at he
      have cw := cwV (R := R) (own := ON o) (index := ix) (C := ON dc) nb hts (av_good hg (ws := wsV (ON o) ix (ON dc) y (Cond.code y c2 M.2.1 ret :: tb)) (fun w hw => by
        rcases List.mem_append.mp hw with h | h
        · simp only [List.mem_cons, List.not_mem_nil, or_false] at h
          rcases h with rfl | rfl | rfl | rfl
          · exact hlink
          · exact hinst
          · exact hsel
          · rw [← hyc]; exact hini
        · exact hws w h)) rfl (rm := av_rm d mc ms) rfl rfl ⟨hyc, hpd⟩ hroom
      have hst2 : ((Sum.inr (Sum.inr (some x)) :: as).reverse ++ rest).map (av_vl f) = (as.map (av_vl f)).reverse ++ .ref (f x) :: rest.map (av_vl f) := by
        rw [hst]
        simp [av_vl, va_rf]
      exact av_callR (va_runV (As := as.map (av_vl f)) (b := f x) ⟨hx, hb, hml, hown, hts⟩ hMet cw ⟨hbl, by rw [hON]; exact va_recv hK hPP hq he, hpc⟩ rfl (by rw [List.length_map]; simpa using hlen) hsl hst2 hlr hdg hfit) hS hk
  · obtain ⟨hdg, hlen, a, ha, his⟩ := a2 rfl
    obtain ⟨x, n, rfl, hx1⟩ := av_is_some his
    cases as with
    | nil => simp at ha
    | cons v0 as =>
      simp only [List.getElem?_cons_zero, Option.some.injEq] at ha
      subst ha
      have hst2 : ((Sum.inr (Sum.inr (some x)) :: as).reverse ++ rest).map (av_vl f) = (as.map (av_vl f)).reverse ++ .ref (f x) :: rest.map (av_vl f) := by
        rw [hst]
        simp [av_vl, va_rf]
      rcases hlink with hlink | ⟨host, hlink⟩
      · have cw := cwI (R := R) (own := ON o) (index := ix) nb hts (av_good hg hws) rfl (rm := av_rm d mc ms) rfl rfl (hts _ hini) (hts _ hlink) (hts _ hinst) hyn hpd hroom
        exact av_callR (va_runI (As := as.map (av_vl f)) (b := f x) ⟨hx, hb, hml, hown, hts⟩ hMet cw ⟨hbl, hpc⟩ rfl (by rw [List.length_map]; simpa using hlen) hsl hst2 hlr hdg hfit) hS hk
      · have cw := va_cnB (R := R) (own := ON o) (index := ix) (host := host) nb hts (av_good hg hws) rfl (rm := av_rm d mc ms) rfl rfl (hlink s hE) (hts _ hini) hpd hroom
        exact av_callR (va_runIN (As := as.map (av_vl f)) (b := f x) ⟨hx, hb, hml, hown, hts⟩ hMet ⟨cw, hyn, hts _ hinst⟩ ⟨hbl, hpc⟩ rfl (by rw [List.length_map]; simpa using hlen) hsl hst2 hlr hdg hfit) hS hk
end
