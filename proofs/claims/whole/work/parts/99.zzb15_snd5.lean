/-! blocks, calls, methods -/
def av_pc (M : av_M) (i : Nat) : Nat := match av_row M.2.2.2 i with
  | none => 0
  | some r => r.1
abbrev av_I : Type := Nat → Option (MethodName × ByteArray × Option FieldType × Nat)
section
variable {p : Program} {l : Launch} {e : Env} {R : Room} {s : State} {m : MethodId} {args : Array Value} {below : List Frame} {meth : Method} {cd : Code} {Q : State → Prop}
variable {D : va_G} {cl : List vw_C} {kA : Nat → ClassId} {f : Nat → Nat} {B nL n0 z0 : Nat} {cc : ByteArray} {tb : List Cond} {ty : Nat → Nat → FieldType} {ON : Nat → String} {K : av_KT} {X : av_X} {o mi0 : Nat}
set_option maxHeartbeats 4000000 in
theorem av_seg_ok (hx : p.tables.exec = Jvm.exec) (hb : cd.code = cc) (hml : cd.maxLocals = nL) (hown : s.vm.findClass (ON o) = some m.cls) (hts : ∀ w ∈ tb, w.before args s = true) (hK : va_K D cl (av_tys kA (ON)) s) (hKF : av_KF tb cl ty ON K) (hXF : av_XF K ON f B X tb s)
    (hf : ∀ a, a < 1000000 → f a = B + a) (hs0 : s.heap.size = B + n0) (hmi : mi0 = 1 → meth.name = "<init>") (hkA : ∀ (k : Nat) (q : ClassId × FieldType), (av_tys kA ON)[k]? = some q → s.vm.findClass ("[" ++ q.2.toString) = some q.1)
    (hcl : cl.length = 12) (hRf : 1 ≤ R.frames) (hRl : 20 ≤ R.locals) {M : av_M} (hck : ∀ i row, av_row M.2.2.2 i = some row → av_ck K o mi0 M.1 cc nL (av_pc M) i row = true)
    {call : av_C} {back : av_B} {r : Option (Option av_V) × av_H} (hrb : r.2.1.length ≤ n0 + R.cells ∧ r.2.1.length ≤ 1000000 ∧ av_sz cl r.2 ≤ z0 + R.slots)
    (hcle : ∀ mi as h2 r2, call mi as h2 = some r2 → av_le cl h2 r2.2) (hble : ∀ i2 ls2 st2 h2, back i2 ls2 st2 h2 = some r → av_le cl h2 r.2)
    (hback : ∀ i2 ls2 st2 h2, back i2 ls2 st2 h2 = some r → av_AT (fun H locs n z g => W p l e R s m args below meth cd H locs n z Q g) (av_RH D cl kA f B) (av_sz cl) s.heap B nL n0 z0 f m (av_pc M) i2 ls2 st2 h2)
    (hinv : ∀ (pc ix mi nb rc op dc : Nat) (as : List av_V) (rest : List av_V) (h2 : av_H) (ov : Option av_V) (h3 : av_H) (H : Heap) (locs : List Loc) (sl : Array Slot) (n1 z1 : Nat), (o, ix, mi, op, nb, rc, dc) ∈ K.2.2.2.2.2.2.2.2 → call mi as h2 = some (some ov, h3) → av_ok8 rest = true →
      (op = 0 → decode cc pc = .ok (.invokestatic ix, 3) ∧ as.length = nb) → (op = 1 → decode cc pc = .ok (.invokevirtual ix, 3) ∧ as.length = nb + 1 ∧ ∃ a, as[0]? = some (.inr (.inr a)) ∧ (dc ≠ 9000 → av_is h2 a dc = true)) → (op = 2 → decode cc pc = .ok (.invokespecial ix, 3) ∧ as.length = nb + 1 ∧ ∃ a, as[0]? = some (.inr (.inr a)) ∧ av_is h2 a dc = true) →
      n0 + n1 = h2.1.length → z0 + z1 = av_sz cl h2 → av_RH D cl kA f B h2 H → va_S (fun q => B ≤ q) s.heap H locs → sl.size = nL → (h3.1.length ≤ n0 + R.cells ∧ h3.1.length ≤ 1000000 ∧ av_sz cl h3 ≤ z0 + R.slots) →
      (∀ (H1 : Heap) (locs1 : List Loc) (n2 z2 : Nat), n0 + n2 = h3.1.length → z0 + z2 = av_sz cl h3 → av_RH D cl kA f B h3 H1 → va_S (fun q => B ≤ q) s.heap H1 locs1 → W p l e R s m args below meth cd H1 locs1 n2 z2 Q (F0 m (pc + 3) sl ((ov.toList ++ rest).map (av_vl f)))) →
      W p l e R s m args below meth cd H locs n1 z1 Q (F0 m pc sl ((as.reverse ++ rest).map (av_vl f))))
    (hEI : ∀ v h pc, r = (some (some (.inl v)), h) → (M.1 = 1 ∨ M.1 = 4) → (M.1 = 4 → v = 0 ∨ v = 1) → decode cc pc = .ok (.ireturn, 1) → ∀ (H : Heap) (locs : List Loc) (sl : Array Slot) (n1 z1 : Nat), n0 + n1 = h.1.length → z0 + z1 = av_sz cl h → av_RH D cl kA f B h H → va_S (fun q => B ≤ q) s.heap H locs → W p l e R s m args below meth cd H locs n1 z1 Q (F0 m pc sl [.int v]))
    (hEL : ∀ v h pc, r = (some (some (.inr (.inl v))), h) → M.1 = 2 → decode cc pc = .ok (.lreturn, 1) → ∀ (H : Heap) (locs : List Loc) (sl : Array Slot) (n1 z1 : Nat), n0 + n1 = h.1.length → z0 + z1 = av_sz cl h → av_RH D cl kA f B h H → va_S (fun q => B ≤ q) s.heap H locs → W p l e R s m args below meth cd H locs n1 z1 Q (F0 m pc sl [.long v]))
    (hEV : ∀ h pc, r = (some none, h) → M.1 = 0 → decode cc pc = .ok (.return_, 1) → ∀ (H : Heap) (locs : List Loc) (sl : Array Slot) (n1 z1 : Nat), n0 + n1 = h.1.length → z0 + z1 = av_sz cl h → av_RH D cl kA f B h H → va_S (fun q => B ≤ q) s.heap H locs → W p l e R s m args below meth cd H locs n1 z1 Q (F0 m pc sl []))
    (hEX : ∀ (i pc len ix a b c d : Nat) (zi : Int32) (zl : Int64) (ts : List (Int32 × Nat)) (st : List av_V) (h : av_H), av_row M.2.2.2 i = some (pc, len, .new ix, a, b, c, d, zi, zl, ts) → c ≠ 0 → av_ok8 st = true → r = (none, av_new h a 0) → ∀ (H : Heap) (locs : List Loc) (sl : Array Slot) (n1 z1 : Nat), n0 + n1 = h.1.length → z0 + z1 = av_sz cl h → av_RH D cl kA f B h H → va_S (fun q => B ≤ q) s.heap H locs → sl.size = nL → W p l e R s m args below meth cd H locs n1 z1 Q (F0 m pc sl (st.map (av_vl f)))) :
    ∀ (k i : Nat) (ls : av_L) (st : List av_V) (h : av_H), av_seg X call M back k i ls st h = some r → av_AT (fun H locs n z g => W p l e R s m args below meth cd H locs n z Q g) (av_RH D cl kA f B) (av_sz cl) s.heap B nL n0 z0 f m (av_pc M) i ls st h
  | 0, _, _, _, _, hh => by simp [av_seg] at hh
  | k + 1, i, ls, st, h, hh => by
    simp only [av_seg] at hh
    split at hh
    · cases hh
    · rename_i pc len ins a b c d zi zl ts hrow
      have hc := hck i _ hrow
      simp only [av_ck, Bool.and_eq_true, decide_eq_true_eq] at hc
      have key : ∀ i2 ls2 st2 h2, av_jmp M.2.2.1 back (av_seg X call M back k) i2 ls2 st2 h2 = some r → av_le cl h2 r.2 := by
        intro i2 ls2 st2 h2 q
        unfold av_jmp at q
        split at q
        · exact av_seg_le hble hcle k _ _ _ _ q
        · exact hble _ _ _ _ q
      refine av_ins_ok hx hb hml hown hts hK hKF hXF hf hs0 hmi hkA hcl hRf hRl hc.1.1 hc.1.2 hc.2 (fun i2 ls2 st2 h2 q => ?_) (fun i2 ls2 st2 h2 q => ?_) (fun ix mi nb rc op dc as rest h2 ov h3 H locs sl n1 z1 => hinv pc ix mi nb rc op dc as rest h2 ov h3 H locs sl n1 z1) (fun v q => hEI v h pc q) (fun v q => hEL v h pc q) (fun q => hEV h pc q) (fun ix q1 q2 q2b q3 => ?_) hh
      · unfold av_jmp at q
        split at q
        · exact av_seg_ok hx hb hml hown hts hK hKF hXF hf hs0 hmi hkA hcl hRf hRl hck hrb hcle hble hback hinv hEI hEL hEV hEX k _ _ _ _ q
        · rename_i kp _
          intro H locs sl n1 z1 e1 e2 hR hS hl
          exact hback _ _ _ _ q H locs sl n1 z1 e1 e2 hR hS (av_kp_has kp hl)
      · have := key _ _ _ _ q
        exact ⟨Nat.le_trans this.1 hrb.1, Nat.le_trans this.1 hrb.2.1, Nat.le_trans this.2 hrb.2.2⟩
      · subst q1
        exact hEX i pc len ix a b c d zi zl ts st h hrow q2 q2b q3
end
