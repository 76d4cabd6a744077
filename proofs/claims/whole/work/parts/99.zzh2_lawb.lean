/-! the law's body, at the machine -/
section
variable {l : Launch} {D : va_G} {kA : Nat → ClassId} {f : Nat → Nat} {B : Nat} {X : av_X} {adK adV : Nat → Nat}
variable {p : Program} {e : Env} {R : Room} {s : State} {m : MethodId} {args : Array Value} {below : List Frame} {meth : Method} {cd : Code} {Q : State → Prop} {n0 z0 : Nat}
set_option maxRecDepth 10000 in
set_option maxHeartbeats 4000000 in
theorem kh_body (hl : l.stackTraces = false) (hMF : av_MF kTB kON kK av_P kI2) (hLFs : kLFs f B X adK adV) (hf : ∀ a, a < 1000000 → f a = B + a) (hfK : ∀ i, i < 3 → f (1000010 + i) = adK i) (hx : p.tables.exec = Jvm.exec) (hb : cd.code = code) (hml : cd.maxLocals = 8) (hown : s.vm.findClass (kON 16) = some m.cls) (hts : ∀ w ∈ kTB, w.before args s = true) (hK : va_K D kCL (av_tys kA kON) s) (hE : kE f B X adK adV s) (hs0 : s.heap.size = B + n0) {d : Nat} (hd1 : d + 20 ≤ R.frames) (hd2 : 100 * d + 300 ≤ R.locals)
    {v : Int32} {h9 : av_H} (hrb : h9.1.length ≤ n0 + R.cells ∧ h9.1.length ≤ 1000000 ∧ av_sz kCL h9 ≤ z0 + R.slots)
    (hEI : ∀ pc, decode code pc = .ok (.ireturn, 1) → ∀ (H : Heap) (locs : List Loc) (sl : Array Slot) (n1 z1 : Nat), n0 + n1 = h9.1.length → z0 + z1 = av_sz kCL h9 → av_RH D kCL kA f B h9 H → va_S (fun q => B ≤ q) s.heap H locs → W p l e R s m args below meth cd H locs n1 z1 Q (F0 m pc sl [.int v])) :
    ∀ (n i : Nat) (ls : av_L) (st : List av_V) (h : av_H), av_run av_P av_S X n d 384 i ls st h = some (some (some (.inl v)), h9) → av_AT (fun H locs n z g => W p l e R s m args below meth cd H locs n z Q g) (av_RH D kCL kA f B) (av_sz kCL) s.heap B 8 n0 z0 f m (av_pc mt_384) i ls st h
  | 0, _, _, _, _, hh => by simp [av_run] at hh
  | n + 1, i, ls, st, h, hh => by
    rw [av_run, p_384] at hh
    have hkA : ∀ (k : Nat) (q : ClassId × FieldType), (av_tys kA kON)[k]? = some q → s.vm.findClass ("[" ++ q.2.toString) = some q.1 := fun k q hq => av_RA_find (hK.2 k q hq).2
    have hEXF : ∀ s, kE f B X adK adV s → av_XF kK kON f B X kTB s := fun s h => h.1
    have hLF2 : ∀ o ix mi op nb rc dc : Nat, o ≠ 16 → (o, ix, mi, op, nb, rc, dc) ∈ kK.2.2.2.2.2.2.2.2 → av_P mi ≠ none → kI2 mi ≠ none → av_LF kTB kON (kE f B X adK adV) av_P kI2 o ix mi op nb dc := fun o ix mi op nb rc dc _ => hLFs o ix mi op nb rc dc
    refine av_seg_ok (r := (some (some (.inl v)), h9)) (o := 16) (mi0 := 0) hx hb hml hown hts hK kKF hE.1 hf hs0 (fun q => by cases q) hkA rfl (by omega) (by omega) kLck hrb (fun mi as h2 r2 q => av_cal_le2 (fun d mi i ls st h r q => av_run_le n d mi i ls st h r q) d mi as h2 r2 q) (fun i2 ls2 st2 h2 q => av_run_le n d 384 i2 ls2 st2 h2 _ q)
      (fun i2 ls2 st2 h2 q => kh_body hl hMF hLFs hf hfK hx hb hml hown hts hK hE hs0 hd1 hd2 hrb hEI n i2 ls2 st2 h2 q) ?_ (fun w g pc er _ _ hdg => ?_) (fun w g pc er => by cases er) (fun g pc er => by cases er) (fun i pc len ix a b c d zi zl ts st g hrow hc hok er => by cases er) 3000 i ls st h hh
    · intro pc ix mi2 nb rc op dc as rest h2 ov h3 H locs sl n1 z1 hml2 hcall hok a0 a1 a2 e1 e2 hR hS hsl hbd kk
      cases d with
      | zero => simp [av_cal] at hcall
      | succ d =>
        have hle := av_cal_le2 (cl := kCL) (fun d mi i ls st h r q => av_run_le n d mi i ls st h r q) (d + 1) mi2 as h2 _ hcall
        simp only [av_cal] at hcall
        cases hP2 : av_P mi2 with
        | none =>
          rw [hP2] at hcall
          exact kh_SPL hl hMF hLFs hf hfK hx hb hml hown hts hK hE hs0 (d := d) (by omega) (by omega) hml2 hP2 hcall hle hok a0 e1 e2 hR hS hsl hbd kk
        | some M2 =>
          rw [hP2] at hcall
          simp only at hcall
          cases hbl : Nat.ble (av_sm as) M2.2.1 with
          | false => rw [hbl] at hcall; cases hcall
          | true =>
            rw [hbl] at hcall
            cases hI2 : kI2 mi2 with
            | none => exact kSM p e R s m args below meth cd Q 8 n0 z0 code 16 hx hb hml hown hts hK hE hs0 (by omega) (by omega) n d pc ix mi2 nb rc op dc as rest h2 ov h3 H locs sl n1 z1 hml2 (by rw [hP2]; simp) hI2 hcall hok a0 e1 e2 hR hS hsl hbd kk
            | some q2 =>
              have hMT := av_met2 (l := l) (D := D) (kA := kA) kTB_good kKF hMF kh_EM hEXF hf rfl hLF2 kSM (kh_SP (l := l) (D := D) (kA := kA) hfK) kMF_o n d mi2 as h2 ov h3 hcall (fun M3 h3 => by rw [hP2] at h3; cases h3; exact hbl) hbd.2.1
              exact av_inv_ok (o := 16) hx hb hml hown hts kTB_good hK kKF hMF hE kh_EM hf hs0 rfl (d := d) (by omega) (by omega) (hLFs 16 ix mi2 op nb rc dc hml2 (by rw [hP2]; simp) (by rw [hI2]; simp)) hMT hle hok a0 a1 a2 e1 e2 hR hS hsl hbd kk
    · cases er
      exact hEI pc hdg
end
