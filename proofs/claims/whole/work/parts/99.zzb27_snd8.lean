/-! the methods that have rows and no contract: a rule for the call, and the bodies once more -/
def av_SMR (l : Launch) (D : va_G) (cl : List vw_C) (kA : Nat → ClassId) (f : Nat → Nat) (B : Nat) (ON : Nat → String) (EX : State → Prop) (tb : List Cond) (K : av_KT) (P : Nat → Option av_M) (I : av_I) (X : av_X) : Prop :=
  ∀ (p : Program) (e : Env) (R : Room) (s : State) (m : MethodId) (args : Array Value) (below : List Frame) (meth : Method) (cd : Code) (Q : State → Prop) (nL n0 z0 : Nat) (cc : ByteArray) (o : Nat),
    p.tables.exec = Jvm.exec → cd.code = cc → cd.maxLocals = nL → s.vm.findClass (ON o) = some m.cls → (∀ w ∈ tb, w.before args s = true) → va_K D cl (av_tys kA ON) s → EX s → s.heap.size = B + n0 → 20 ≤ R.frames → 300 ≤ R.locals →
    ∀ (n d pc ix mi nb rc op dc : Nat) (as rest : List av_V) (h2 : av_H) (ov : Option av_V) (h3 : av_H) (H : Heap) (locs : List Loc) (sl : Array Slot) (n1 z1 : Nat), (o, ix, mi, op, nb, rc, dc) ∈ K.2.2.2.2.2.2.2.2 → P mi ≠ none → I mi = none → av_run P av_S X n d mi 0 (av_args 0 as) [] h2 = some (some ov, h3) → av_ok8 rest = true →
      (op = 0 → decode cc pc = .ok (.invokestatic ix, 3) ∧ as.length = nb) →
      n0 + n1 = h2.1.length → z0 + z1 = av_sz cl h2 → av_RH D cl kA f B h2 H → va_S (fun q => B ≤ q) s.heap H locs → sl.size = nL → (h3.1.length ≤ n0 + R.cells ∧ h3.1.length ≤ 1000000 ∧ av_sz cl h3 ≤ z0 + R.slots) →
      (∀ (H1 : Heap) (locs1 : List Loc) (n2 z2 : Nat), n0 + n2 = h3.1.length → z0 + z2 = av_sz cl h3 → av_RH D cl kA f B h3 H1 → va_S (fun q => B ≤ q) s.heap H1 locs1 → W p l e R s m args below meth cd H1 locs1 n2 z2 Q (F0 m (pc + 3) sl ((ov.toList ++ rest).map (av_vl f)))) →
      W p l e R s m args below meth cd H locs n1 z1 Q (F0 m pc sl ((as.reverse ++ rest).map (av_vl f)))
section
variable {l : Launch} {D : va_G} {cl : List vw_C} {kA : Nat → ClassId} {f : Nat → Nat} {B : Nat} {tb : List Cond} {ty : Nat → Nat → FieldType} {ON : Nat → String} {K : av_KT} {X : av_X} {EX : State → Prop} {P : Nat → Option av_M} {I : av_I} {oL : Nat}
set_option maxRecDepth 10000 in
set_option maxHeartbeats 4000000 in
/-- the run of a body, in any machine that stands at its method -/
theorem av_body2 (hg : ∀ w ∈ tb, goodWord w = true) (hKF : av_KF tb cl ty ON K) (hMF : av_MF tb ON K P I) (hEM : ∀ (s U : State) (H : Heap) (locs : List Loc), EX s → va_S (fun q => B ≤ q) s.heap H locs → U.heap = H → s.WarmedH U.vm → EX U) (hEXF : ∀ s, EX s → av_XF K ON f B X tb s)
    (hf : ∀ a, a < 1000000 → f a = B + a) (hcl : cl.length = 12) (hLF : ∀ o ix mi op nb rc dc, o ≠ oL → (o, ix, mi, op, nb, rc, dc) ∈ K.2.2.2.2.2.2.2.2 → P mi ≠ none → I mi ≠ none → av_LF tb ON EX P I o ix mi op nb dc) (hSM : av_SMR l D cl kA f B ON EX tb K P I X) (hSP : av_SPR l D cl kA f B ON EX tb K P oL)
    {p : Program} {e : Env} {R : Room} {s : State} {m : MethodId} {args : Array Value} {below : List Frame} {meth : Method} {cd : Code} {Q : State → Prop} {nL n0 z0 : Nat} {cc : ByteArray} {o mi0 : Nat}
    (hx : p.tables.exec = Jvm.exec) (hb : cd.code = cc) (hml : cd.maxLocals = nL) (hown : s.vm.findClass (ON o) = some m.cls) (hts : ∀ w ∈ tb, w.before args s = true) (hK : va_K D cl (av_tys kA ON) s) (hE : EX s) (hs0 : s.heap.size = B + n0) (hmi : mi0 = 1 → meth.name = "<init>") (ho : o ≠ oL)
    {M : av_M} {mi d : Nat} (hP : P mi = some M) (hck : ∀ i row, av_row M.2.2.2 i = some row → av_ck K o mi0 M.1 cc nL (av_pc M) i row = true) (hRf : d + 20 ≤ R.frames) (hRl : 100 * d + 300 ≤ R.locals)
    {r : Option (Option av_V) × av_H} (hrb : r.2.1.length ≤ n0 + R.cells ∧ r.2.1.length ≤ 1000000 ∧ av_sz cl r.2 ≤ z0 + R.slots)
    (hEI : ∀ v h pc, r = (some (some (.inl v)), h) → (M.1 = 1 ∨ M.1 = 4) → (M.1 = 4 → v = 0 ∨ v = 1) → decode cc pc = .ok (.ireturn, 1) → ∀ (H : Heap) (locs : List Loc) (sl : Array Slot) (n1 z1 : Nat), n0 + n1 = h.1.length → z0 + z1 = av_sz cl h → av_RH D cl kA f B h H → va_S (fun q => B ≤ q) s.heap H locs → W p l e R s m args below meth cd H locs n1 z1 Q (F0 m pc sl [.int v]))
    (hEL : ∀ v h pc, r = (some (some (.inr (.inl v))), h) → M.1 = 2 → decode cc pc = .ok (.lreturn, 1) → ∀ (H : Heap) (locs : List Loc) (sl : Array Slot) (n1 z1 : Nat), n0 + n1 = h.1.length → z0 + z1 = av_sz cl h → av_RH D cl kA f B h H → va_S (fun q => B ≤ q) s.heap H locs → W p l e R s m args below meth cd H locs n1 z1 Q (F0 m pc sl [.long v]))
    (hEV : ∀ h pc, r = (some none, h) → M.1 = 0 → decode cc pc = .ok (.return_, 1) → ∀ (H : Heap) (locs : List Loc) (sl : Array Slot) (n1 z1 : Nat), n0 + n1 = h.1.length → z0 + z1 = av_sz cl h → av_RH D cl kA f B h H → va_S (fun q => B ≤ q) s.heap H locs → W p l e R s m args below meth cd H locs n1 z1 Q (F0 m pc sl []))
    (hEX : ∀ (i pc len ix a b c d : Nat) (zi : Int32) (zl : Int64) (ts : List (Int32 × Nat)) (st : List av_V) (h : av_H), av_row M.2.2.2 i = some (pc, len, .new ix, a, b, c, d, zi, zl, ts) → c ≠ 0 → av_ok8 st = true → r = (none, av_new h a 0) → ∀ (H : Heap) (locs : List Loc) (sl : Array Slot) (n1 z1 : Nat), n0 + n1 = h.1.length → z0 + z1 = av_sz cl h → av_RH D cl kA f B h H → va_S (fun q => B ≤ q) s.heap H locs → sl.size = nL → W p l e R s m args below meth cd H locs n1 z1 Q (F0 m pc sl (st.map (av_vl f)))) :
    ∀ n : Nat, (∀ k, k < n → ∀ d mi as h ov h3, av_run P av_S X k d mi 0 (av_args 0 as) [] h = some (some ov, h3) → (∀ M, P mi = some M → Nat.ble (av_sm as) M.2.1 = true) → h3.1.length ≤ 1000000 → av_MT l D cl kA f B ON EX tb P I d mi as h ov h3) →
      ∀ (i : Nat) (ls : av_L) (st : List av_V) (h : av_H), av_run P av_S X n d mi i ls st h = some r → av_AT (fun H locs n z g => W p l e R s m args below meth cd H locs n z Q g) (av_RH D cl kA f B) (av_sz cl) s.heap B nL n0 z0 f m (av_pc M) i ls st h
  | 0, _, _, _, _, _, hh => by simp [av_run] at hh
  | n + 1, hIH, i, ls, st, h, hh => by
    rw [av_run, hP] at hh
    have hkA : ∀ (k : Nat) (q : ClassId × FieldType), (av_tys kA ON)[k]? = some q → s.vm.findClass ("[" ++ q.2.toString) = some q.1 := fun k q hq => av_RA_find (hK.2 k q hq).2
    refine av_seg_ok hx hb hml hown hts hK hKF (hEXF s hE) hf hs0 hmi hkA hcl (by omega) (by omega) hck hrb (fun mi as h2 r2 q => av_cal_le2 (fun d mi i ls st h r q => av_run_le n d mi i ls st h r q) d mi as h2 r2 q) (fun i2 ls2 st2 h2 q => av_run_le n d mi i2 ls2 st2 h2 r q)
      (fun i2 ls2 st2 h2 q => av_body2 hg hKF hMF hEM hEXF hf hcl hLF hSM hSP hx hb hml hown hts hK hE hs0 hmi ho hP hck hRf hRl hrb hEI hEL hEV hEX n (fun k hk => hIH k (by omega)) i2 ls2 st2 h2 q) ?_ hEI hEL hEV hEX 3000 i ls st h hh
    intro pc ix mi2 nb rc op dc as rest h2 ov h3 H locs sl n1 z1 hml2 hcall hok a0 a1 a2 e1 e2 hR hS hsl hbd kk
    cases d with
    | zero => simp [av_cal] at hcall
    | succ d =>
      have hle := av_cal_le2 (cl := cl) (fun d mi i ls st h r q => av_run_le n d mi i ls st h r q) (d + 1) mi2 as h2 _ hcall
      simp only [av_cal] at hcall
      cases hP2 : P mi2 with
      | none =>
        rw [hP2] at hcall
        exact hSP p e R s m args below meth cd Q nL n0 z0 cc o hx hb hml hown hts hK hE hs0 (by omega) (by omega) ho _ pc ix mi2 nb rc op dc as rest h2 ov h3 H locs sl n1 z1 hml2 hP2 hcall hok a0 a1 a2 e1 e2 hR hS hsl hbd kk
      | some M2 =>
        rw [hP2] at hcall
        simp only at hcall
        cases hbl : Nat.ble (av_sm as) M2.2.1 with
        | false => rw [hbl] at hcall; cases hcall
        | true =>
          rw [hbl] at hcall
          cases hI2 : I mi2 with
          | none => exact hSM p e R s m args below meth cd Q nL n0 z0 cc o hx hb hml hown hts hK hE hs0 (by omega) (by omega) n d pc ix mi2 nb rc op dc as rest h2 ov h3 H locs sl n1 z1 hml2 (by rw [hP2]; simp) hI2 hcall hok a0 e1 e2 hR hS hsl hbd kk
          | some q2 =>
            have hMT := hIH n (by omega) d mi2 as h2 ov h3 hcall (fun M3 h3 => by rw [hP2] at h3; cases h3; exact hbl) hbd.2.1
            exact av_inv_ok hx hb hml hown hts hg hK hKF hMF hE hEM hf hs0 hcl (d := d) (by omega) (by omega) (hLF o ix mi2 op nb rc dc ho hml2 (by rw [hP2]; simp) (by rw [hI2]; simp)) hMT hle hok a0 a1 a2 e1 e2 hR hS hsl hbd kk
set_option maxRecDepth 10000 in
set_option maxHeartbeats 4000000 in
theorem av_met2 (hg : ∀ w ∈ tb, goodWord w = true) (hKF : av_KF tb cl ty ON K) (hMF : av_MF tb ON K P I) (hEM : ∀ (s U : State) (H : Heap) (locs : List Loc), EX s → va_S (fun q => B ≤ q) s.heap H locs → U.heap = H → s.WarmedH U.vm → EX U) (hEXF : ∀ s, EX s → av_XF K ON f B X tb s)
    (hf : ∀ a, a < 1000000 → f a = B + a) (hcl : cl.length = 12) (hLF : ∀ o ix mi op nb rc dc, o ≠ oL → (o, ix, mi, op, nb, rc, dc) ∈ K.2.2.2.2.2.2.2.2 → P mi ≠ none → I mi ≠ none → av_LF tb ON EX P I o ix mi op nb dc) (hSM : av_SMR l D cl kA f B ON EX tb K P I X) (hSP : av_SPR l D cl kA f B ON EX tb K P oL) (hoL : ∀ mi y cc ret o, I mi = some (y, cc, ret, o) → o ≠ oL) :
    ∀ n : Nat, ∀ d mi as h ov h3, av_run P av_S X n d mi 0 (av_args 0 as) [] h = some (some ov, h3) → (∀ M, P mi = some M → Nat.ble (av_sm as) M.2.1 = true) → h3.1.length ≤ 1000000 → av_MT l D cl kA f B ON EX tb P I d mi as h ov h3 := by
  intro n
  induction n using Nat.strongRecOn with
  | _ n ih =>
    intro d mi as h ov h3 hrun hsm hbd M y cc ret o hP hI mc ms hmc hms
    obtain ⟨hpl, hcode, hini, hON, hnl, hpc0, hck, hrt⟩ := hMF mi M y cc ret o hP hI
    refine Met.ofW (cc := cc) (maxL := M.2.1) (ret := ret) hpl rfl ?_
    intro p e s m args below meth c s₁ Bd hml hv
    obtain ⟨rfl, hR, hz, hK, hE⟩ := hv
    have hx := Bd.exec
    have hb := Bd.bytes
    have hr := Bd.returns
    have hts0 := atoms_spec (ws := Cond.code y cc M.2.1 ret :: tb) Bd.pre
    have hts : ∀ w ∈ tb, w.before (as.map (av_vl f)).toArray s = true := fun w hw => hts0 w (List.mem_cons_of_mem _ hw)
    have hown : s.vm.findClass (ON o) = some m.cls := by rw [hON]; exact findClass_of_methodNamed Bd.named
    have hlocks := Bd.notSynchronized
    have hin := (name_of_methodNamed Bd.named Bd.method).1
    have hl := lv_entry (as.map (av_vl f)) (n := M.2.1) (by rw [av_lg_sl]; exact Nat.le_of_ble_eq_true (hsm M hP))
    rw [av_args_lm] at hl
    rw [lg_entry_eq]
    generalize (lg_sl (as.map (av_vl f)) ++ List.replicate (M.2.1 - (lg_sl (as.map (av_vl f))).length) Slot.unset).toArray = sl at hl ⊢
    have key := av_body2 (n0 := h.1.length) (z0 := av_sz cl h) (R := (headSpec (Cond.code y cc M.2.1 ret :: tb) (av_rm d mc ms)).room) (r := (some ov, h3)) (Q := MQ below (av_QR D cl kA f B h3 ov) (as.map (av_vl f)).toArray s mc ms (fun q => B ≤ q)) (e := e) (below := below) (meth := meth) (d := d) (mi0 := if y.name = "<init>" then 1 else 0) hg hKF hMF hEM hEXF hf hcl hLF hSM hSP hx hb hml hown hts hK hE hz
      (fun q => by
        rw [hin]
        by_cases hy : y.name = "<init>"
        · exact hy
        · rw [if_neg hy] at q; cases q) (hoL mi y cc ret o hI) hP hck (Nat.le_refl _) (Nat.le_refl _) ⟨by show h3.1.length ≤ h.1.length + mc; omega, hbd, by show av_sz cl h3 ≤ av_sz cl h + ms; omega⟩ ?_ ?_ ?_ ?_ n (fun k hk => ih k hk) 0 (av_args 0 as) [] h hrun s.heap [] sl 0 0 rfl rfl hR va_S.rf hl
    · rw [hpc0] at key
      exact key
    · intro v g pc er hrb hv01 hdg H locs sl n1 z1 e1 e2 hR hS
      cases er
      have h1 : n1 = mc := by omega
      have h2 : z1 = ms := by omega
      subst h1; subst h2
      rcases hrt with ⟨h1, h2⟩ | ⟨h1, h2⟩ | ⟨h1, h2⟩ | ⟨h1, h2⟩
      · omega
      · exact W.iret hx hb (hr.trans h2) (fun t ht hW => ⟨⟨v, (), rfl, rfl, by show av_RH D cl kA f B h3 t.heap; rw [ht]; exact hR⟩, hS.F ht⟩) hS.2.2 hdg
      · omega
      · exact W.zret hx hb (hr.trans h2) (by rcases hv01 h1 with rfl | rfl <;> rfl) (fun t ht hW => ⟨⟨v, (), rfl, rfl, by show av_RH D cl kA f B h3 t.heap; rw [ht]; exact hR⟩, hS.F ht⟩) hS.2.2 hdg
    · intro v g pc er hrb hdg H locs sl n1 z1 e1 e2 hR hS
      cases er
      have h1 : n1 = mc := by omega
      have h2 : z1 = ms := by omega
      subst h1; subst h2
      rcases hrt with ⟨h1, h2⟩ | ⟨h1, h2⟩ | ⟨h1, h2⟩ | ⟨h1, h2⟩
      · omega
      · omega
      · exact W.lret hx hb (hr.trans h2) (fun t ht hW => ⟨⟨v, (), rfl, rfl, by show av_RH D cl kA f B h3 t.heap; rw [ht]; exact hR⟩, hS.F ht⟩) hS.2.2 hdg
      · omega
    · intro g pc er hrb hdg H locs sl n1 z1 e1 e2 hR hS
      cases er
      have h1 : n1 = mc := by omega
      have h2 : z1 = ms := by omega
      subst h1; subst h2
      rcases hrt with ⟨h1, h2⟩ | ⟨h1, h2⟩ | ⟨h1, h2⟩ | ⟨h1, h2⟩
      · exact W.vret hx hb (hr.trans h2) (fun t ht hW => ⟨⟨(), rfl, trivial, by show av_RH D cl kA f B h3 t.heap; rw [ht]; exact hR⟩, hS.F ht⟩) hS.2.2 hdg
      · omega
      · omega
      · omega
    · intro i pc len ix a b c d zi zl ts st g hrow hc hok er
      cases er
end
