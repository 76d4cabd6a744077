abbrev av_V : Type := Int32 ⊕ Int64 ⊕ Option Nat
abbrev av_H : Type := List (Nat × Nat) × (Nat → Nat → Int32) × (Nat → Nat → Int64) × (Nat → Nat → Option Nat)
abbrev av_L : Type := List (Nat × av_V)
abbrev av_R : Type := Nat × Nat × Instr × Nat × Nat × Nat × Nat × Int32 × Int64 × List (Int32 × Nat)
abbrev av_T : Type := Option (Option (Option av_V) × av_H)
abbrev av_X : Type := Nat → Option (Nat × (Nat → Int32))
abbrev av_C : Type := Nat → List av_V → av_H → av_T
def av_cat (v : av_V) : Nat := match v with
  | .inr (.inl _) => 2
  | _ => 1
def av_get (ls : av_L) (n : Nat) : Option av_V := match ls with
  | [] => none
  | q :: t => cond (Nat.beq q.1 n) (some q.2) (av_get t n)
def av_set (ls : av_L) (n : Nat) (v : av_V) : av_L := (n, v) :: ls.filter (fun q => !(q.1 == n) && !(q.1 + 1 == n && av_cat q.2 == 2))
def av_set2 (ls : av_L) (n : Nat) (v : av_V) : av_L := (n, v) :: ls.filter (fun q => !(q.1 == n) && (!(q.1 == n + 1) && !(q.1 + 1 == n && av_cat q.2 == 2)))
def av_args (n : Nat) : List av_V → av_L
  | [] => []
  | v :: t => (n, v) :: av_args (n + av_cat v) t
def av_ad (r : Option Nat) : Nat := r.getD 0
def av_is (h : av_H) (r : Option Nat) (c : Nat) : Bool := match r with
  | none => false
  | some a => match h.1[a]? with
    | none => false
    | some q => Nat.beq q.1 c
def av_at (h : av_H) (r : Option Nat) (c : Nat) (i : Int32) : Bool := match r with
  | none => false
  | some a => match h.1[a]? with
    | none => false
    | some q => Nat.beq q.1 c && (!decide (i < 0) && Nat.blt i.toNatClampNeg q.2)
def av_uI (h : av_H) (a k : Nat) (v : Int32) : av_H := (h.1, va_up h.2.1 a (upd (h.2.1 a) k v), h.2.2.1, h.2.2.2)
def av_uL (h : av_H) (a k : Nat) (v : Int64) : av_H := (h.1, h.2.1, va_up h.2.2.1 a (vp_updL (h.2.2.1 a) k v), h.2.2.2)
def av_uR (h : av_H) (a k : Nat) (v : Option Nat) : av_H := (h.1, h.2.1, h.2.2.1, va_up h.2.2.2 a (va_up (h.2.2.2 a) k v))
def av_new (h : av_H) (c n : Nat) : av_H := (h.1 ++ [(c, n)], va_up h.2.1 h.1.length (fun _ => 0), va_up h.2.2.1 h.1.length (fun _ => 0), va_up h.2.2.2 h.1.length (fun _ => none))
def av_gI (h : av_H) (r : Option Nat) (c k : Nat) : Option Int32 := if av_is h r c = true then some (h.2.1 (av_ad r) k) else none
def av_gL (h : av_H) (r : Option Nat) (c k : Nat) : Option Int64 := if av_is h r c = true then some (h.2.2.1 (av_ad r) k) else none
def av_gR (h : av_H) (r : Option Nat) (c k : Nat) : Option (Option Nat) := if av_is h r c = true then some (h.2.2.2 (av_ad r) k) else none
def av_pI (h : av_H) (r : Option Nat) (c k : Nat) (v : Int32) : Option av_H := if av_is h r c = true then some (av_uI h (av_ad r) k v) else none
def av_pZ (h : av_H) (r : Option Nat) (c k : Nat) (v : Int32) : Option av_H := if av_is h r c = true ∧ (v = 0 ∨ v = 1) then some (av_uI h (av_ad r) k v) else none
def av_pL (h : av_H) (r : Option Nat) (c k : Nat) (v : Int64) : Option av_H := if av_is h r c = true then some (av_uL h (av_ad r) k v) else none
def av_pR (h : av_H) (r : Option Nat) (c k : Nat) (v : Option Nat) : Option av_H := if av_is h r c = true then some (av_uR h (av_ad r) k v) else none
def av_lI (X : av_X) (h : av_H) (r : Option Nat) (i : Int32) : Option Int32 := if av_at h r 100 i = true then some (h.2.1 (av_ad r) i.toNatClampNeg) else match r with
  | none => none
  | some a => match X a with
    | none => none
    | some q => if i < 0 ∨ q.1 ≤ i.toNatClampNeg then none else some (q.2 i.toNatClampNeg)
def av_lB (h : av_H) (r : Option Nat) (c : Nat) (i : Int32) : Option Int32 := if av_at h r c i = true then some (h.2.1 (av_ad r) i.toNatClampNeg) else none
def av_lL (h : av_H) (r : Option Nat) (i : Int32) : Option Int64 := if av_at h r 101 i = true then some (h.2.2.1 (av_ad r) i.toNatClampNeg) else none
def av_lR (h : av_H) (r : Option Nat) (c : Nat) (i : Int32) : Option (Option Nat) := if av_at h r c i = true then some (h.2.2.2 (av_ad r) i.toNatClampNeg) else none
def av_sI (h : av_H) (r : Option Nat) (i v : Int32) : Option av_H := if av_at h r 100 i = true then some (av_uI h (av_ad r) i.toNatClampNeg v) else none
def av_sC (h : av_H) (r : Option Nat) (i v : Int32) : Option av_H := if av_at h r 102 i = true then some (av_uI h (av_ad r) i.toNatClampNeg (vp_nar .char v)) else none
def av_sZ (h : av_H) (r : Option Nat) (i v : Int32) : Option av_H := if av_at h r 103 i = true then some (av_uI h (av_ad r) i.toNatClampNeg (vp_nar .boolean v)) else none
def av_sL (h : av_H) (r : Option Nat) (i : Int32) (v : Int64) : Option av_H := if av_at h r 101 i = true then some (av_uL h (av_ad r) i.toNatClampNeg v) else none
def av_sR (h : av_H) (r : Option Nat) (c d : Nat) (i : Int32) (v : Option Nat) : Option av_H := if av_at h r c i = true ∧ av_is h v d = true then some (av_uR h (av_ad r) i.toNatClampNeg v) else none
def av_len (X : av_X) (h : av_H) (r : Option Nat) : Option Int32 := match r with
  | none => none
  | some a => match h.1[a]? with
    | some q => if 100 ≤ q.1 ∧ q.1 ≤ 105 then some (Int32.ofNat q.2) else none
    | none => match X a with
      | none => none
      | some q => some (Int32.ofNat q.1)
def av_na (h : av_H) (c : Nat) (n : Int32) : Option av_H := if n < 0 ∨ 20000 < n.toNatClampNeg then none else some (av_new h c n.toNatClampNeg)
def av_cV (x : av_T) : Option av_H := x.bind fun q => match q.1 with
  | some none => some q.2
  | _ => none
def av_cI (x : av_T) : Option (Int32 × av_H) := x.bind fun q => match q.1 with
  | some (some (.inl v)) => some (v, q.2)
  | _ => none
def av_cL (x : av_T) : Option (Int64 × av_H) := x.bind fun q => match q.1 with
  | some (some (.inr (.inl v))) => some (v, q.2)
  | _ => none
def av_sw (f : Nat → av_T) (x : Int32) (d : Nat) : List (Int32 × Nat) → av_T
  | [] => f d
  | q :: t => if x = q.1 then f q.2 else av_sw f x d t
def av_ok8 (st : List av_V) : Bool := Nat.ble ((st.map av_cat).foldr (· + ·) 0) 8
def av_res (next : Nat → av_L → List av_V → av_H → av_T) (c i : Nat) (ls : av_L) (st : List av_V) (x : av_T) : av_T := match c with
  | 0 => (av_cV x).bind fun q => next (i + 1) ls st q
  | 1 => (av_cI x).bind fun q => next (i + 1) ls (.inl q.1 :: st) q.2
  | _ => (av_cL x).bind fun q => next (i + 1) ls (.inr (.inl q.1) :: st) q.2
def av_bz (v : Int32) : Option Int32 := if v = 0 ∨ v = 1 then some v else none
def av_rI (v : Int32) (h : av_H) : av_T := some (some (some (.inl v)), h)
def av_rL (v : Int64) (h : av_H) : av_T := some (some (some (.inr (.inl v))), h)
def av_rV (h : av_H) : av_T := some (some none, h)
def av_rX (h : av_H) : av_T := some (none, h)
def av_ins (X : av_X) (call : av_C) (rb : Nat) (next : Nat → av_L → List av_V → av_H → av_T) (ins : Instr) (a b c d : Nat) (zi : Int32) (zl : Int64) (ts : List (Int32 × Nat)) (i : Nat) (ls : av_L) (st : List av_V) (h : av_H) : av_T :=
  match ins with
  | .iconst _ => next (i + 1) ls (.inl zi :: st) h
  | .bipush _ => next (i + 1) ls (.inl zi :: st) h
  | .sipush _ => next (i + 1) ls (.inl zi :: st) h
  | .ldc _ => match c with
    | 0 => next (i + 1) ls (.inl zi :: st) h
    | _ => next (i + 1) ls (.inr (.inr (some a)) :: st) h
  | .ldc_w _ => next (i + 1) ls (.inl zi :: st) h
  | .lconst _ => next (i + 1) ls (.inr (.inl zl) :: st) h
  | .ldc2_w _ => next (i + 1) ls (.inr (.inl zl) :: st) h
  | .getstatic _ => next (i + 1) ls (.inr (.inr (some a)) :: st) h
  | .iload n => match av_get ls n with
    | some (.inl x) => next (i + 1) ls (.inl x :: st) h
    | _ => none
  | .iload_n n => match av_get ls n.val with
    | some (.inl x) => next (i + 1) ls (.inl x :: st) h
    | _ => none
  | .lload n => match av_get ls n with
    | some (.inr (.inl x)) => next (i + 1) ls (.inr (.inl x) :: st) h
    | _ => none
  | .lload_n n => match av_get ls n.val with
    | some (.inr (.inl x)) => next (i + 1) ls (.inr (.inl x) :: st) h
    | _ => none
  | .aload n => match av_get ls n with
    | some (.inr (.inr x)) => next (i + 1) ls (.inr (.inr x) :: st) h
    | _ => none
  | .aload_n n => match av_get ls n.val with
    | some (.inr (.inr x)) => next (i + 1) ls (.inr (.inr x) :: st) h
    | _ => none
  | .istore n => match st with
    | .inl x :: t => next (i + 1) (av_set ls n (.inl x)) t h
    | _ => none
  | .istore_n n => match st with
    | .inl x :: t => next (i + 1) (av_set ls n.val (.inl x)) t h
    | _ => none
  | .lstore n => match st with
    | .inr (.inl x) :: t => next (i + 1) (av_set2 ls n (.inr (.inl x))) t h
    | _ => none
  | .lstore_n n => match st with
    | .inr (.inl x) :: t => next (i + 1) (av_set2 ls n.val (.inr (.inl x))) t h
    | _ => none
  | .astore n => match st with
    | .inr (.inr x) :: t => next (i + 1) (av_set ls n (.inr (.inr x))) t h
    | _ => none
  | .astore_n n => match st with
    | .inr (.inr x) :: t => next (i + 1) (av_set ls n.val (.inr (.inr x))) t h
    | _ => none
  | .iinc n _ => match av_get ls n with
    | some (.inl x) => next (i + 1) (av_set ls n (.inl (x + zi))) st h
    | _ => none
  | .iadd => match st with
    | .inl y :: .inl x :: t => next (i + 1) ls (.inl (x + y) :: t) h
    | _ => none
  | .isub => match st with
    | .inl y :: .inl x :: t => next (i + 1) ls (.inl (x - y) :: t) h
    | _ => none
  | .imul => match st with
    | .inl y :: .inl x :: t => next (i + 1) ls (.inl (x * y) :: t) h
    | _ => none
  | .iand => match st with
    | .inl y :: .inl x :: t => next (i + 1) ls (.inl (x &&& y) :: t) h
    | _ => none
  | .ior => match st with
    | .inl y :: .inl x :: t => next (i + 1) ls (.inl (x ||| y) :: t) h
    | _ => none
  | .ixor => match st with
    | .inl y :: .inl x :: t => next (i + 1) ls (.inl (x ^^^ y) :: t) h
    | _ => none
  | .ishl => match st with
    | .inl y :: .inl x :: t => next (i + 1) ls (.inl (x <<< (y &&& 31)) :: t) h
    | _ => none
  | .ishr => match st with
    | .inl y :: .inl x :: t => next (i + 1) ls (.inl (x >>> (y &&& 31)) :: t) h
    | _ => none
  | .iushr => match st with
    | .inl y :: .inl x :: t => next (i + 1) ls (.inl ((x.toUInt32 >>> (y.toUInt32 &&& Int32.toUInt32 31)).toInt32) :: t) h
    | _ => none
  | .idiv => match st with
    | .inl y :: .inl x :: t => if y = 0 then none else next (i + 1) ls (.inl (x / y) :: t) h
    | _ => none
  | .irem => match st with
    | .inl y :: .inl x :: t => if y = 0 then none else next (i + 1) ls (.inl (x - x / y * y) :: t) h
    | _ => none
  | .ineg => match st with
    | .inl x :: t => next (i + 1) ls (.inl (-x) :: t) h
    | _ => none
  | .ladd => match st with
    | .inr (.inl y) :: .inr (.inl x) :: t => next (i + 1) ls (.inr (.inl (x + y)) :: t) h
    | _ => none
  | .lsub => match st with
    | .inr (.inl y) :: .inr (.inl x) :: t => next (i + 1) ls (.inr (.inl (x - y)) :: t) h
    | _ => none
  | .lmul => match st with
    | .inr (.inl y) :: .inr (.inl x) :: t => next (i + 1) ls (.inr (.inl (x * y)) :: t) h
    | _ => none
  | .land => match st with
    | .inr (.inl y) :: .inr (.inl x) :: t => next (i + 1) ls (.inr (.inl (x &&& y)) :: t) h
    | _ => none
  | .lor => match st with
    | .inr (.inl y) :: .inr (.inl x) :: t => next (i + 1) ls (.inr (.inl (x ||| y)) :: t) h
    | _ => none
  | .lxor => match st with
    | .inr (.inl y) :: .inr (.inl x) :: t => next (i + 1) ls (.inr (.inl (x ^^^ y)) :: t) h
    | _ => none
  | .ldiv => match st with
    | .inr (.inl y) :: .inr (.inl x) :: t => if y = 0 then none else next (i + 1) ls (.inr (.inl (x / y)) :: t) h
    | _ => none
  | .lrem => match st with
    | .inr (.inl y) :: .inr (.inl x) :: t => if y = 0 then none else next (i + 1) ls (.inr (.inl (x - x / y * y)) :: t) h
    | _ => none
  | .lshl => match st with
    | .inl y :: .inr (.inl x) :: t => next (i + 1) ls (.inr (.inl (x <<< (y.toInt64 &&& 63))) :: t) h
    | _ => none
  | .lshr => match st with
    | .inl y :: .inr (.inl x) :: t => next (i + 1) ls (.inr (.inl (x >>> (y.toInt64 &&& 63))) :: t) h
    | _ => none
  | .lushr => match st with
    | .inl y :: .inr (.inl x) :: t => next (i + 1) ls (.inr (.inl ((x.toUInt64 >>> (y.toInt64.toUInt64 &&& Int64.toUInt64 63)).toInt64)) :: t) h
    | _ => none
  | .lcmp => match st with
    | .inr (.inl y) :: .inr (.inl x) :: t => next (i + 1) ls (.inl (lg_cmp x y) :: t) h
    | _ => none
  | .i2l => match st with
    | .inl x :: t => next (i + 1) ls (.inr (.inl x.toInt64) :: t) h
    | _ => none
  | .l2i => match st with
    | .inr (.inl x) :: t => next (i + 1) ls (.inl x.toInt32 :: t) h
    | _ => none
  | .i2c => match st with
    | .inl x :: t => next (i + 1) ls (.inl ((x.toUInt32 % 65536).toInt32) :: t) h
    | _ => none
  | .dup => match st with
    | .inl x :: t => next (i + 1) ls (.inl x :: .inl x :: t) h
    | .inr (.inr x) :: t => next (i + 1) ls (.inr (.inr x) :: .inr (.inr x) :: t) h
    | _ => none
  | .dup2 => match st with
    | .inl x :: .inr (.inr y) :: t => next (i + 1) ls (.inl x :: .inr (.inr y) :: .inl x :: .inr (.inr y) :: t) h
    | _ => none
  | .pop => match st with
    | .inl _ :: t => next (i + 1) ls t h
    | .inr (.inr _) :: t => next (i + 1) ls t h
    | _ => none
  | .ifCond .eq _ => match st with
    | .inl x :: t => if x = 0 then next a ls t h else next (i + 1) ls t h
    | _ => none
  | .ifCond .ne _ => match st with
    | .inl x :: t => if x = 0 then next (i + 1) ls t h else next a ls t h
    | _ => none
  | .ifCond .lt _ => match st with
    | .inl x :: t => if x < 0 then next a ls t h else next (i + 1) ls t h
    | _ => none
  | .ifCond .ge _ => match st with
    | .inl x :: t => if x < 0 then next (i + 1) ls t h else next a ls t h
    | _ => none
  | .ifCond .gt _ => match st with
    | .inl x :: t => if 0 < x then next a ls t h else next (i + 1) ls t h
    | _ => none
  | .ifCond .le _ => match st with
    | .inl x :: t => if 0 < x then next (i + 1) ls t h else next a ls t h
    | _ => none
  | .if_icmp .eq _ => match st with
    | .inl y :: .inl x :: t => if x = y then next a ls t h else next (i + 1) ls t h
    | _ => none
  | .if_icmp .ne _ => match st with
    | .inl y :: .inl x :: t => if x = y then next (i + 1) ls t h else next a ls t h
    | _ => none
  | .if_icmp .lt _ => match st with
    | .inl y :: .inl x :: t => if x < y then next a ls t h else next (i + 1) ls t h
    | _ => none
  | .if_icmp .ge _ => match st with
    | .inl y :: .inl x :: t => if x < y then next (i + 1) ls t h else next a ls t h
    | _ => none
  | .if_icmp .gt _ => match st with
    | .inl y :: .inl x :: t => if y < x then next a ls t h else next (i + 1) ls t h
    | _ => none
  | .if_icmp .le _ => match st with
    | .inl y :: .inl x :: t => if y < x then next (i + 1) ls t h else next a ls t h
    | _ => none
  | .ifnull _ => match st with
    | .inr (.inr r) :: t => if r.isNone = true then next a ls t h else next (i + 1) ls t h
    | _ => none
  | .ifnonnull _ => match st with
    | .inr (.inr r) :: t => if r.isNone = true then next (i + 1) ls t h else next a ls t h
    | _ => none
  | .goto _ => next a ls st h
  | .tableswitch _ _ _ _ => match st with
    | .inl x :: t => av_sw (fun k => next k ls t h) x a ts
    | _ => none
  | .lookupswitch _ _ => match st with
    | .inl x :: t => av_sw (fun k => next k ls t h) x a ts
    | _ => none
  | .getfield _ => match st with
    | .inr (.inr r) :: t => match c with
      | 1 => (av_gL h r a b).bind fun v => next (i + 1) ls (.inr (.inl v) :: t) h
      | 2 => (av_gR h r a b).bind fun v => next (i + 1) ls (.inr (.inr v) :: t) h
      | _ => (av_gI h r a b).bind fun v => next (i + 1) ls (.inl v :: t) h
    | _ => none
  | .putfield _ => match c with
    | 0 => match st with
      | .inl v :: .inr (.inr r) :: t => (av_pI h r a b v).bind fun q => next (i + 1) ls t q
      | _ => none
    | 1 => match st with
      | .inr (.inl v) :: .inr (.inr r) :: t => (av_pL h r a b v).bind fun q => next (i + 1) ls t q
      | _ => none
    | 2 => match st with
      | .inr (.inr v) :: .inr (.inr r) :: t => (av_pR h r a b v).bind fun q => next (i + 1) ls t q
      | _ => none
    | _ => match st with
      | .inl v :: .inr (.inr r) :: t => (av_pZ h r a b v).bind fun q => next (i + 1) ls t q
      | _ => none
  | .iaload => match st with
    | .inl j :: .inr (.inr r) :: t => (av_lI X h r j).bind fun v => next (i + 1) ls (.inl v :: t) h
    | _ => none
  | .caload => match st with
    | .inl j :: .inr (.inr r) :: t => (av_lB h r 102 j).bind fun v => next (i + 1) ls (.inl v :: t) h
    | _ => none
  | .baload => match st with
    | .inl j :: .inr (.inr r) :: t => (av_lB h r 103 j).bind fun v => next (i + 1) ls (.inl v :: t) h
    | _ => none
  | .laload => match st with
    | .inl j :: .inr (.inr r) :: t => (av_lL h r j).bind fun v => next (i + 1) ls (.inr (.inl v) :: t) h
    | _ => none
  | .aaload => match st with
    | .inl j :: .inr (.inr r) :: t => (av_lR h r a j).bind fun v => next (i + 1) ls (.inr (.inr v) :: t) h
    | _ => none
  | .iastore => match st with
    | .inl v :: .inl j :: .inr (.inr r) :: t => (av_sI h r j v).bind fun q => next (i + 1) ls t q
    | _ => none
  | .castore => match st with
    | .inl v :: .inl j :: .inr (.inr r) :: t => (av_sC h r j v).bind fun q => next (i + 1) ls t q
    | _ => none
  | .bastore => match st with
    | .inl v :: .inl j :: .inr (.inr r) :: t => (av_sZ h r j v).bind fun q => next (i + 1) ls t q
    | _ => none
  | .lastore => match st with
    | .inr (.inl v) :: .inl j :: .inr (.inr r) :: t => (av_sL h r j v).bind fun q => next (i + 1) ls t q
    | _ => none
  | .aastore => match st with
    | .inr (.inr v) :: .inl j :: .inr (.inr r) :: t => (av_sR h r a b j v).bind fun q => next (i + 1) ls t q
    | _ => none
  | .arraylength => match st with
    | .inr (.inr r) :: t => (av_len X h r).bind fun v => next (i + 1) ls (.inl v :: t) h
    | _ => none
  | .new _ => match c with
    | 0 => next (i + 1) ls (.inr (.inr (some h.1.length)) :: st) (av_new h a 0)
    | _ => cond (av_ok8 st) (av_rX (av_new h a 0)) none
  | .newarray _ => match st with
    | .inl n :: t => (av_na h a n).bind fun q => next (i + 1) ls (.inr (.inr (some h.1.length)) :: t) q
    | _ => none
  | .anewarray _ => match st with
    | .inl n :: t => (av_na h a n).bind fun q => next (i + 1) ls (.inr (.inr (some h.1.length)) :: t) q
    | _ => none
  | .invokestatic _ => cond (av_ok8 (st.drop b) && Nat.ble b st.length) (av_res next c i ls (st.drop b) (call a (st.take b).reverse h)) none
  | .invokevirtual _ => match st.drop b with
    | .inr (.inr r) :: t => cond (av_ok8 t) (match d with
      | 9000 => av_res next c i ls t (call a (.inr (.inr r) :: (st.take b).reverse) h)
      | _ => if av_is h r d = true then av_res next c i ls t (call a (.inr (.inr r) :: (st.take b).reverse) h) else none) none
    | _ => none
  | .invokespecial _ => match st.drop b with
    | .inr (.inr r) :: t => cond (av_ok8 t) (if av_is h r d = true then (match c with
        | 9 => next (i + 1) ls t h
        | _ => av_res next c i ls t (call a (.inr (.inr r) :: (st.take b).reverse) h)) else none) none
    | _ => none
  | .ireturn => match st with
    | [.inl v] => match rb with
      | 4 => (av_bz v).bind fun w => av_rI w h
      | _ => av_rI v h
    | _ => none
  | .lreturn => match st with
    | [.inr (.inl v)] => av_rL v h
    | _ => none
  | .return_ => match st with
    | [] => av_rV h
    | _ => none
  | _ => none
def av_row (rows : List (List av_R)) (i : Nat) : Option av_R := (rows[i / 16]?).bind fun q => q[i % 16]?
abbrev av_M : Type := Nat × Nat × List (Nat × List Nat) × List (List av_R)
def av_sm (as : List av_V) : Nat := (as.map av_cat).foldr (· + ·) 0
def av_hd (i : Nat) : List (Nat × List Nat) → Option (List Nat)
  | [] => none
  | q :: t => cond (Nat.beq q.1 i) (some q.2) (av_hd i t)
def av_kp (ls : av_L) : List Nat → av_L
  | [] => []
  | n :: t => match av_get ls n with
    | none => av_kp ls t
    | some v => (n, v) :: av_kp ls t
abbrev av_B : Type := Nat → av_L → List av_V → av_H → av_T
def av_jmp (hs : List (Nat × List Nat)) (back next : av_B) (i : Nat) (ls : av_L) (st : List av_V) (h : av_H) : av_T := match av_hd i hs with
  | none => next i ls st h
  | some kp => back i (av_kp ls kp) st h
def av_seg (X : av_X) (call : av_C) (M : av_M) (back : av_B) : Nat → av_B
  | 0, _, _, _, _ => none
  | k + 1, i, ls, st, h => match av_row M.2.2.2 i with
    | none => none
    | some (_, _, ins, a, b, c, d, zi, zl, ts) => av_ins X call M.1 (av_jmp M.2.2.1 back (av_seg X call M back k)) ins a b c d zi zl ts i ls st h
def av_cal (P : Nat → Option av_M) (S : av_C → av_C) (run : Nat → Nat → av_B) : Nat → av_C
  | 0 => fun _ _ _ => none
  | d + 1 => fun mi as h => match P mi with
    | none => S (av_cal P S run d) mi as h
    | some M => cond (Nat.ble (av_sm as) M.2.1) (run d mi 0 (av_args 0 as) [] h) none
def av_run (P : Nat → Option av_M) (S : av_C → av_C) (X : av_X) : Nat → Nat → Nat → av_B
  | 0, _, _, _, _, _, _ => none
  | n + 1, d, mi, i, ls, st, h => match P mi with
    | none => none
    | some M => av_seg X (av_cal P S (av_run P S X n) d) M (av_run P S X n d mi) 3000 i ls st h
