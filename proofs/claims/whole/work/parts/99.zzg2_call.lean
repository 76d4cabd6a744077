/-! what the four that catch are made of: the call that may throw, the end, the handler -/
abbrev kE (f : Nat → Nat) (B : Nat) (X : av_X) (adK adV : Nat → Nat) : State → Prop := kEX kNWf f B X adK adV
def kLFs (f : Nat → Nat) (B : Nat) (X : av_X) (adK adV : Nat → Nat) : Prop := ∀ o ix mi op nb rc dc : Nat, (o, ix, mi, op, nb, rc, dc) ∈ kK.2.2.2.2.2.2.2.2 → av_P mi ≠ none → kI2 mi ≠ none → av_LF kTB kON (kE f B X adK adV) av_P kI2 o ix mi op nb dc
theorem kh_ofWH {l : Launch} {y : MethodName} {ws ws' : List Cond} {rm : Room} {Pc : Array Value → State → Prop} {Qc : Array Value → State → Outcome → State → Prop} {mc ms : Nat} {free : Addr → Prop} {cc : ByteArray} {maxL : Nat} {ret : Option FieldType} {hh : List (Nat × Nat × Nat × Nat)}
    (hy : plainName y.cls = true) (hw : ws = Cond.codeWith y cc maxL ret hh :: ws')
    (body : ∀ p e s m args below meth c s₁, BodyLoose p l y (headSpec ws rm) cc maxL ret e s m args below meth c s₁ → c.maxLocals = maxL → Pc args s →
      W p l e (headSpec ws rm).room s m args below meth c s.heap [] 0 0 (MQ below Qc args s mc ms free) (entryFrame m args maxL)) : Met l y ws rm Pc Qc mc ms free := by
  refine MetFree.of_bodyS (code := cc) (maxLocals := maxL) (ret := ret) hy ?_ ?_
  · intro args s m h hn
    obtain ⟨m9, meth, c, hn9, h1, h2, h3, h4, -, h5, h6, -⟩ := Cond.codeWith_spec (atoms_spec (ws := ws) h _ (by rw [hw]; exact List.mem_cons_self))
    cases hn.symm.trans hn9
    exact ⟨meth, c, h1, h2, h3, h4, h5, h6⟩
  · intro p e s m args below meth c s₁ B hml hP _
    have hh0 : s₁.heap = s.heap := by rw [B.state]; rfl
    obtain ⟨t, a1, o, b1, b2, b3⟩ := body p e s m args below meth c s₁ B hml hP s₁ hh0 (Stand.of_body B)
    exact ⟨t, o, a1, b1, b2, ⟨b3.1, b3.2⟩⟩
section
variable {l : Launch} {D : va_G} {kA : Nat → ClassId} {f : Nat → Nat} {B : Nat} {X : av_X} {adK adV : Nat → Nat}
variable {p : Program} {e : Env} {R : Room} {s : State} {m : MethodId} {args : Array Value} {below : List Frame} {meth : Method} {cd : Code} {Q : State → Prop} {nL n0 z0 : Nat} {cc : ByteArray}
theorem kh_EM (s U : State) (H : Heap) (locs : List Loc) (h : kE f B X adK adV s) (hS : va_S (fun q => B ≤ q) s.heap H locs) (hU : U.heap = H) (hW : s.WarmedH U.vm) : kE f B X adK adV U := kEM kNWf_ok s U H locs h hS hU hW
theorem kh_SP (hfK : ∀ i, i < 3 → f (1000010 + i) = adK i) : av_SPR l D kCL kA f B kON (kE f B X adK adV) kTB kK av_P 16 := ks_SPR (adK := adK) (adV := adV) (fun s h => h.2.1) kh_EM hfK
set_option maxRecDepth 10000 in
set_option maxHeartbeats 4000000 in
theorem kh_call (hl : l.stackTraces = false) (hMF : av_MF kTB kON kK av_P kI2) (hLFs : kLFs f B X adK adV) (hfK : ∀ i, i < 3 → f (1000010 + i) = adK i) (hx : p.tables.exec = Jvm.exec) (hb : cd.code = cc) (hml : cd.maxLocals = nL) (hown : s.vm.findClass (kON 16) = some m.cls) (hts : ∀ w ∈ kTB, w.before args s = true) (hK : va_K D kCL (av_tys kA kON) s) (hE : kE f B X adK adV s) (hf : ∀ a, a < 1000000 → f a = B + a) (hs0 : s.heap.size = B + n0) {n d : Nat} {pc ix mi nb : Nat} {as rest : List av_V} {h : av_H} {r : Option (Option av_V)} {h3 : av_H} {H : Heap} {locs : List Loc} {sl : Array Slot} {n1 z1 : Nat} {a : Option Nat}
    (hd1 : d + 21 ≤ R.frames) (hd2 : 100 * d + 400 ≤ R.locals) (hLF : av_LF kTB kON (kE f B X adK adV) av_P kI2 16 ix mi 1 nb 10) (hrun : av_run av_P av_S X n d mi 0 (av_args 0 as) [] h = some (r, h3)) (hsm : ∀ M, av_P mi = some M → Nat.ble (av_sm as) M.2.1 = true)
    (hXr : ∀ M y c2 ret o2, av_P mi = some M → kI2 mi = some (y, c2, ret, o2) → o2 = 10 ∧ kt_rows M c2 = true) (hok : av_ok8 rest = true) (hdg : decode cc pc = .ok (.invokevirtual ix, 3)) (hlen : as.length = nb + 1) (ha : as[0]? = some (.inr (.inr a))) (his : av_is h a 10 = true)
    (e1 : n0 + n1 = h.1.length) (e2 : z0 + z1 = av_sz kCL h) (hR : av_RH D kCL kA f B h H) (hS : va_S (fun q => B ≤ q) s.heap H locs) (hsl : sl.size = nL) (hbd : h3.1.length ≤ n0 + R.cells ∧ h3.1.length ≤ 1000000 ∧ av_sz kCL h3 ≤ z0 + R.slots)
    (kk : ∀ ov : Option av_V, r = some ov → ∀ (H1 : Heap) (locs1 : List Loc) (n2 z2 : Nat), n0 + n2 = h3.1.length → z0 + z2 = av_sz kCL h3 → av_RH D kCL kA f B h3 H1 → va_S (fun q => B ≤ q) s.heap H1 locs1 → W p l e R s m args below meth cd H1 locs1 n2 z2 Q (F0 m (pc + 3) sl ((ov.toList ++ rest).map (av_vl f))))
    (kx : r = none → ∀ (H1 : Heap) (locs1 : List Loc) (n2 z2 : Nat) (q9 : Addr) (ce : Cell), n0 + n2 = h3.1.length → z0 + z2 = av_sz kCL h3 → av_RH D kCL kA f B h3 H1 → va_S (fun q => B ≤ q) s.heap H1 locs1 → H1[q9]? = some ce → ce.vm = .none → s.vm.findClass kt_X = some ce.cls → vx_W p l e R s m args below meth cd H1 locs1 n2 z2 Q (F0 m pc sl (rest.map (av_vl f))) q9) :
    W p l e R s m args below meth cd H locs n1 z1 Q (F0 m pc sl ((as.reverse ++ rest).map (av_vl f))) := by
  have hle : av_le kCL h h3 := av_run_le n d mi 0 (av_args 0 as) [] h (r, h3) hrun
  have hEXF : ∀ s, kE f B X adK adV s → av_XF kK kON f B X kTB s := fun s h => h.1
  have hLF2 : ∀ o ix mi op nb rc dc : Nat, o ≠ 16 → (o, ix, mi, op, nb, rc, dc) ∈ kK.2.2.2.2.2.2.2.2 → av_P mi ≠ none → kI2 mi ≠ none → av_LF kTB kON (kE f B X adK adV) av_P kI2 o ix mi op nb dc := fun o ix mi op nb rc dc _ => hLFs o ix mi op nb rc dc
  cases r with
  | some ov =>
    have hMT := av_met2 (D := D) (kA := kA) kTB_good kKF hMF kh_EM hEXF hf rfl hLF2 kSM (kh_SP (l := l) (D := D) (kA := kA) hfK) kMF_o n d mi as h ov h3 hrun hsm hbd.2.1
    exact av_inv_ok (o := 16) (op := 1) (dc := 10) hx hb hml hown hts kTB_good hK kKF hMF hE kh_EM hf hs0 rfl (d := d) hd1 hd2 hLF hMT hle hok (fun q => by cases q) (fun _ => ⟨hdg, hlen, a, ha, fun _ => his⟩) (fun q => by cases q) e1 e2 hR hS hsl hbd (kk ov rfl)
  | none =>
    refine av_bound (fun hle0 => ?_)
    have hz0 : H.size = B + h.1.length := by have := hR.1; omega
    obtain ⟨mc, hmc⟩ : ∃ mc, h.1.length + mc = h3.1.length := ⟨_, Nat.add_sub_cancel' hle.1⟩
    obtain ⟨ms, hms⟩ : ∃ ms, av_sz kCL h + ms = av_sz kCL h3 := ⟨_, Nat.add_sub_cancel' hle.2⟩
    obtain ⟨M, y, c2, ret, o2, hP, hI, hpd, hop⟩ := hLF
    obtain ⟨rfl, hrows⟩ := hXr M y c2 ret o2 hP hI
    obtain ⟨hpl, hcode, hini, -, hnl, -⟩ := hMF mi M y c2 ret 10 hP hI
    have hMet := av_metX (D := D) (kA := kA) hl kKF hMF kh_EM hEXF (fun s h => h) kNWf_B (fun w hw => (kNWf_on w hw).2) hf hLF2 (kh_SP (l := l) (D := D) (kA := kA) hfK) kMF_o hrun hsm hbd.2.1 hP hI hrows hmc hms
    rcases hop with ⟨q, -⟩ | ⟨q, -⟩ | ⟨-, hinst, hsel, hlink, hyc, -⟩ | ⟨q, -⟩
    · cases q
    · cases q
    · have hbl : FrameBlind (va_Pc (as.map (av_vl f)) (av_PR D kCL kA f B kON (kE f B X adK adV) h)) := fun a U g mk q => ⟨q.1, q.2.1, q.2.2.1, va_K.moved (u := U) (U := U.calling g mk a) (Vm.Alike.refl U.vm) q.2.2.2.1, kh_EM U (U.calling g mk a) U.heap [] q.2.2.2.2 va_S.rf rfl (State.WarmedH.refl U)⟩
      have hpc : ∀ U : State, U.heap = H → s.WarmedH U.vm → va_Pc (as.map (av_vl f)) (av_PR D kCL kA f B kON (kE f B X adK adV) h) (as.map (av_vl f)).toArray U := fun U hU hW => ⟨rfl, by rw [hU]; exact hR, by rw [hU]; exact hz0, va_K.moved hW.alike hK, kh_EM s U H locs hE hS hU hW⟩
      have hroom : (av_rm d mc ms).frames + 1 ≤ R.frames ∧ 8 + (M.2.1 + 11) + (av_rm d mc ms).locals ≤ R.locals := by
        rw [av_rm_l, av_rm_f]
        constructor <;> omega
      have hws : ∀ w ∈ Cond.code y c2 M.2.1 ret :: kTB, w ∈ kTB := fun w hw => (List.mem_cons.mp hw).elim (fun z => by rw [z]; exact hcode) id
      have hfit : n1 + mc ≤ R.cells ∧ z1 + ms ≤ R.slots := ⟨by omega, by omega⟩
      have hlr : 2 * (F0 m pc sl ((as.reverse ++ rest).map (av_vl f))).monitorRoom + ((rest.map (av_vl f)).map fun v => v.category).sum ≤ 8 := lv_room (av_ok_sum hok)
      have hst : (as.reverse ++ rest).map (av_vl f) = (as.map (av_vl f)).reverse ++ rest.map (av_vl f) := by rw [List.map_append, List.map_reverse]
      obtain ⟨x, nx, rfl, hx1⟩ := av_is_some his
      cases as with
      | nil => simp at ha
      | cons v0 as =>
        simp only [List.getElem?_cons_zero, Option.some.injEq] at ha
        subst ha
        obtain ⟨q, hq⟩ : ∃ q, kCL[10]? = some q := ⟨_, rfl⟩
        obtain ⟨C, T, N⟩ := q
        have hON := (kKF.1 _ _ _ _ hq).2.2.2.2.2.2.1
        have hx2 : x < h.1.length := (List.getElem?_eq_some_iff.mp hx1).1
        have hfx : f x = B + x := hf x (by have := hR.2.1; omega)
        obtain ⟨ws, q0, hPP, hDD, he, -, -⟩ := hR.at hx1 (by show (10 : Nat) ≠ 12; decide)
        rw [av_ce_obj hx1 hq, ← hfx] at he
        have cw := cwV (R := R) (own := kON 16) (index := ix) (C := kON 10) nb hts (av_good kTB_good (ws := wsV (kON 16) ix (kON 10) y (Cond.code y c2 M.2.1 ret :: kTB)) (fun w hw => by
          rcases List.mem_append.mp hw with h | h
          · simp only [List.mem_cons, List.not_mem_nil, or_false] at h
            rcases h with rfl | rfl | rfl | rfl
            · exact hlink
            · exact hinst
            · exact hsel
            · rw [← hyc]; exact hini
          · exact hws w h)) rfl (rm := av_rm d mc ms) rfl rfl ⟨hyc, hpd⟩ hroom
        have hst2 : ((Sum.inr (Sum.inr (some x)) :: as).reverse ++ rest).map (av_vl f) = (as.map (av_vl f)).reverse ++ .ref (f x) :: rest.map (av_vl f) := by
          rw [hst]
          simp [av_vl, va_rf]
        have run := vx_runV (As := as.map (av_vl f)) (b := f x) (H := H) (locs := locs) (g := F0 m pc sl (((Sum.inr (Sum.inr (some x)) :: as).reverse ++ rest).map (av_vl f))) (rest := rest.map (av_vl f)) (cells := n1) (slots := z1) (below := below) (meth := meth) (e := e) ⟨hx, hb, hml, hown, hts⟩ hMet cw ⟨hbl, by rw [hON]; exact va_recv hK hPP hq he, hpc⟩ rfl (by rw [List.length_map]; simpa using hlen) hsl hst2 hlr hdg hfit
        intro T hT XX
        rcases run T hT XX with ⟨v, st₀, t, T', L, g0, X', hL, g1, g2, hq9, st⟩ | ⟨q, st₀, t, T', L, E, ce, g0, X', hL, g1, g2, ⟨u, -, ⟨rfl, hR1⟩, hF⟩, hce, hcv, hcl, st⟩
        · exact hq9.elim
        · obtain ⟨k1, k2, k3⟩ := vx_keep g0 g1 hS (fun q _ h => h) (fun q h => h) hL hF
          obtain ⟨t2, a1, b1⟩ := kx rfl T'.heap (locs ++ L) (n1 + mc) (z1 + ms) q ce (by omega) (by omega) (by rw [g1]; exact hR1) k3 (by rw [g1]; exact hce) hcv hcl T' rfl X'
          exact ⟨t2, st.trans a1, b1⟩
    · cases q
theorem kh_end {pe pc9 : Nat} {off : Int} {h3 h9 : av_H} {o : Option Nat} {w : Int64} {H1 : Heap} {locs1 : List Loc} {sl : Array Slot} {n2 z2 mc ms : Nat} (hx : p.tables.exec = Jvm.exec) (hb : cd.code = cc) (hr : meth.sig.returnType = some .int) (hlocks : meth.locks = false) (hK : va_K D kCL (av_tys kA kON) s) (hf : ∀ a, a < 1000000 → f a = B + a)
    (h1 : decode cc pe = .ok (.lastore, 1)) (h2 : decode cc (pe + 1) = .ok (.goto off, 3)) (ht : ((pe + 1 : Nat) : Int) + off = (pc9 : Int)) (h4 : decode cc pc9 = .ok (.iconst 0, 1)) (h5 : decode cc (pc9 + 1) = .ok (.ireturn, 1)) (hst : av_sL h3 o 0 w = some h9)
    (q1 : n0 + n2 = h3.1.length) (q2 : z0 + z2 = av_sz kCL h3) (hmc : n0 + mc = h9.1.length) (hms : z0 + ms = av_sz kCL h9) (hR1 : av_RH D kCL kA f B h3 H1) (hS1 : va_S (fun q => B ≤ q) s.heap H1 locs1) :
    W p l e R s m args below meth cd H1 locs1 n2 z2 (MQ below (av_QR D kCL kA f B h9 (some (.inl 0))) args s mc ms (fun q => B ≤ q)) (F0 m pe sl [.long w, .int 0, av_vl f (.inr (.inr o))]) := by
  unfold av_sL at hst
  split at hst
  · rename_i his
    cases hst
    obtain ⟨x, n, rfl, hx1, hvi, hlt⟩ := av_at_some his
    have hx2 : x < h3.1.length := (List.getElem?_eq_some_iff.mp hx1).1
    have hfx : f x = B + x := hf x (by have := hR1.2.1; omega)
    obtain ⟨ws, q0, hP, hD, he, hoth, hset⟩ := hR1.at hx1 (by show (101 : Nat) ≠ 12; decide)
    rw [av_ce_arr hx1 (by decide), ← hfx] at he
    refine va_last (H0 := H1) (x := w) (i := 0) (a := f x) (rest := []) hx hb hK hP hD (av_S_self hS1) q0 1 he rfl hvi h1 (fun H2 locs2 hP1 hD1 hS2 => ?_)
    have hcE : av_ce kCL kA f (av_uL h3 x (0 : Int32).toNatClampNeg w) x = .inl (kA 101, n, av_ac f (av_uL h3 x (0 : Int32).toNatClampNeg w) x 101) := av_ce_arr hx1 (by decide)
    have hcA : av_ac f (av_uL h3 x (0 : Int32).toNatClampNeg w) x 101 = .inr (.inl (vp_updL (h3.2.2.1 x) (0 : Int32).toNatClampNeg w)) := by
      simp [av_ac, av_uL, va_up]
    rw [hcA] at hcE
    rw [hfx] at hP1 hD1
    have hR2 := hset (av_uL h3 x (0 : Int32).toNatClampNeg w) H2 rfl (fun y hy => av_uL_ce hy) hS2.1 (by rw [hcE]; exact hP1) (by rw [hcE]; exact hD1)
    have hS3 := av_S_trans hS1 hS2
    refine lv_goto hx hb h2 ht (lv_iconst (v := 0) hx hb h4 rfl ?_)
    have e5 : n2 = mc := Nat.add_left_cancel (q1.trans hmc.symm)
    have e6 : z2 = ms := Nat.add_left_cancel (q2.trans hms.symm)
    subst e5
    subst e6
    exact W.iret hx hb hr (fun t ht hW => ⟨⟨0, (), rfl, rfl, by show av_RH D kCL kA f B _ t.heap; rw [ht]; exact hR2⟩, hS3.F ht⟩) hS3.2.2 h5
  · cases hst
theorem kh_cat {t0 t1 t2 pc pA : Nat} {h3 : av_H} {H1 : Heap} {locs1 : List Loc} {sl : Array Slot} {rest : List Value} {n2 z2 mc ms : Nat} {q9 : Addr} {ce : Cell} (hx : p.tables.exec = Jvm.exec) (hb : cd.code = cc) (hr : meth.sig.returnType = some .int) (hlocks : meth.locks = false) (hown : s.vm.findClass (kON 16) = some m.cls) (hts : ∀ w ∈ kTB, w.before args s = true) (hE : kE f B X adK adV s)
    (htab : cd.exceptionTable.toList = tableOf [(t0, t1, t2, 13)]) (h0 : t0 ≤ pc) (h1 : pc < t1) (hast : ∀ Q : State → Prop, (∀ sl' : Array Slot, W p l e R s m args below meth cd H1 locs1 n2 z2 Q (F0 m pA sl' [])) → W p l e R s m args below meth cd H1 locs1 n2 z2 Q (F0 m t2 sl [.ref q9]))
    (h4 : decode cc pA = .ok (.iconst 1, 1)) (h5 : decode cc (pA + 1) = .ok (.ireturn, 1)) (q1 : n0 + n2 = h3.1.length) (q2 : z0 + z2 = av_sz kCL h3) (hmc : n0 + mc = h3.1.length) (hms : z0 + ms = av_sz kCL h3) (hR1 : av_RH D kCL kA f B h3 H1) (hS1 : va_S (fun q => B ≤ q) s.heap H1 locs1) (hc9 : H1[q9]? = some ce) (hv9 : ce.vm = .none) (hcl9 : s.vm.findClass kt_X = some ce.cls) :
    vx_W p l e R s m args below meth cd H1 locs1 n2 z2 (MQ below (av_QR D kCL kA f B h3 (some (.inl 1))) args s mc ms (fun q => B ≤ q)) (F0 m pc sl rest) q9 := by
  have e5 : n2 = mc := Nat.add_left_cancel (q1.trans hmc.symm)
  have e6 : z2 = ms := Nat.add_left_cancel (q2.trans hms.symm)
  subst e5
  subst e6
  have hcast : (Cond.castable kt_X kt_X).before args s = true := va_Nw.use (kNWf_on _ kNWf_C).2 (hE.2.2.1 _ kNWf_C)
  have hcov : covers (⟨t0, t1, t2, 13⟩ : ExceptionTableEntry) pc = true := by
    simp only [covers, Bool.and_eq_true, decide_eq_true_eq]
    exact ⟨h0, h1⟩
  refine vx_catch (own := kON 16) (name := kt_X) (E := kt_X) hown ⟨t0, t1, t2, 13⟩ htab hcov (by show (13 : Nat) ≠ 0; decide) (hts _ hw_cl) hcast hc9 hv9 hcl9 ?_
  exact hast _ (fun sl' => lv_iconst (v := 1) hx hb h4 rfl (W.iret hx hb hr (fun t ht hW => ⟨⟨1, (), rfl, rfl, by show av_RH D kCL kA f B _ t.heap; rw [ht]; exact hR1⟩, hS1.F ht⟩) hS1.2.2 h5))
end
