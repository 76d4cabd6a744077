/-! the check of a row, and: what an instruction of the abstract machine does, the machine does -/
abbrev av_KT : Type := List (Nat × Nat × Nat × Nat × Nat × Nat) × List (Nat × Nat × Int32) × List (Nat × Nat × Int64) × List (Nat × Nat × Nat) × List (Nat × Nat × Nat) × List (Nat × Nat × Nat) × List (Nat × Nat × Nat) × List (Nat × Nat) × List (Nat × Nat × Nat × Nat × Nat × Nat × Nat)
def av_swk (pc : Nat) (pcOf : Nat → Nat) : Int → List Int → List (Int32 × Nat) → Bool
  | _, [], [] => true
  | lo, x :: t, q :: u => decide (q.1.toInt = lo) && decide ((pc : Int) + x = (pcOf q.2 : Int)) && av_swk pc pcOf (lo + 1) t u
  | _, _, _ => false
def av_lwk (pc : Nat) (pcOf : Nat → Nat) : List (Int × Int) → List (Int32 × Nat) → Bool
  | [], [] => true
  | x :: t, q :: u => decide (q.1.toInt = x.1) && decide ((pc : Int) + x.2 = (pcOf q.2 : Int)) && av_lwk pc pcOf t u
  | _, _ => false
def av_ck2 (K : av_KT) (o mi0 rb : Nat) (nL : Nat) (pcOf : Nat → Nat) (i pc len : Nat) (ins : Instr) (a b c d : Nat) (zi : Int32) (zl : Int64) (ts : List (Int32 × Nat)) : Bool :=
  match ins with
  | .iconst n => decide (len = 1) && decide (pcOf (i + 1) = pc + 1) && decide (Int32.ofInt n = zi)
  | .bipush n => decide (len = 2) && decide (pcOf (i + 1) = pc + 2) && decide ((Int8.ofInt n).toInt32 = zi)
  | .sipush n => decide (len = 3) && decide (pcOf (i + 1) = pc + 3) && decide ((Int16.ofInt n).toInt32 = zi)
  | .ldc n => decide (len = 2) && decide (pcOf (i + 1) = pc + 2) && (match c with
    | 0 => K.2.1.contains (o, n, zi)
    | _ => K.2.2.2.1.contains (o, n, a))
  | .ldc_w n => decide (len = 3) && decide (pcOf (i + 1) = pc + 3) && K.2.1.contains (o, n, zi)
  | .lconst n => decide (len = 1) && decide (pcOf (i + 1) = pc + 1) && decide (Int64.ofNat (n : Nat) = zl)
  | .ldc2_w n => decide (len = 3) && decide (pcOf (i + 1) = pc + 3) && K.2.2.1.contains (o, n, zl)
  | .getstatic n => decide (len = 3) && decide (pcOf (i + 1) = pc + 3) && K.2.2.2.2.1.contains (o, n, a)
  | .iload _ => decide (len = 2) && decide (pcOf (i + 1) = pc + 2)
  | .iload_n _ => decide (len = 1) && decide (pcOf (i + 1) = pc + 1)
  | .lload _ => decide (len = 2) && decide (pcOf (i + 1) = pc + 2)
  | .lload_n _ => decide (len = 1) && decide (pcOf (i + 1) = pc + 1)
  | .aload _ => decide (len = 2) && decide (pcOf (i + 1) = pc + 2)
  | .aload_n _ => decide (len = 1) && decide (pcOf (i + 1) = pc + 1)
  | .istore n => decide (len = 2) && decide (pcOf (i + 1) = pc + 2) && decide (n < nL)
  | .istore_n n => decide (len = 1) && decide (pcOf (i + 1) = pc + 1) && decide (n.val < nL)
  | .astore n => decide (len = 2) && decide (pcOf (i + 1) = pc + 2) && decide (n < nL)
  | .astore_n n => decide (len = 1) && decide (pcOf (i + 1) = pc + 1) && decide (n.val < nL)
  | .lstore n => decide (len = 2) && decide (pcOf (i + 1) = pc + 2) && decide (n + 1 < nL)
  | .lstore_n n => decide (len = 1) && decide (pcOf (i + 1) = pc + 1) && decide (n.val + 1 < nL)
  | .iinc n k => decide (len = 3) && decide (pcOf (i + 1) = pc + 3) && decide (n < nL) && decide (Int32.ofInt k = zi)
  | .iadd => decide (len = 1) && decide (pcOf (i + 1) = pc + 1)
  | .isub => decide (len = 1) && decide (pcOf (i + 1) = pc + 1)
  | .imul => decide (len = 1) && decide (pcOf (i + 1) = pc + 1)
  | .iand => decide (len = 1) && decide (pcOf (i + 1) = pc + 1)
  | .ior => decide (len = 1) && decide (pcOf (i + 1) = pc + 1)
  | .ixor => decide (len = 1) && decide (pcOf (i + 1) = pc + 1)
  | .ishl => decide (len = 1) && decide (pcOf (i + 1) = pc + 1)
  | .ishr => decide (len = 1) && decide (pcOf (i + 1) = pc + 1)
  | .iushr => decide (len = 1) && decide (pcOf (i + 1) = pc + 1)
  | .idiv => decide (len = 1) && decide (pcOf (i + 1) = pc + 1)
  | .irem => decide (len = 1) && decide (pcOf (i + 1) = pc + 1)
  | .ineg => decide (len = 1) && decide (pcOf (i + 1) = pc + 1)
  | .ladd => decide (len = 1) && decide (pcOf (i + 1) = pc + 1)
  | .lsub => decide (len = 1) && decide (pcOf (i + 1) = pc + 1)
  | .lmul => decide (len = 1) && decide (pcOf (i + 1) = pc + 1)
  | .land => decide (len = 1) && decide (pcOf (i + 1) = pc + 1)
  | .lor => decide (len = 1) && decide (pcOf (i + 1) = pc + 1)
  | .lxor => decide (len = 1) && decide (pcOf (i + 1) = pc + 1)
  | .ldiv => decide (len = 1) && decide (pcOf (i + 1) = pc + 1)
  | .lrem => decide (len = 1) && decide (pcOf (i + 1) = pc + 1)
  | .lshl => decide (len = 1) && decide (pcOf (i + 1) = pc + 1)
  | .lshr => decide (len = 1) && decide (pcOf (i + 1) = pc + 1)
  | .lushr => decide (len = 1) && decide (pcOf (i + 1) = pc + 1)
  | .lcmp => decide (len = 1) && decide (pcOf (i + 1) = pc + 1)
  | .i2l => decide (len = 1) && decide (pcOf (i + 1) = pc + 1)
  | .l2i => decide (len = 1) && decide (pcOf (i + 1) = pc + 1)
  | .i2c => decide (len = 1) && decide (pcOf (i + 1) = pc + 1)
  | .dup => decide (len = 1) && decide (pcOf (i + 1) = pc + 1)
  | .dup2 => decide (len = 1) && decide (pcOf (i + 1) = pc + 1)
  | .pop => decide (len = 1) && decide (pcOf (i + 1) = pc + 1)
  | .ifCond _ off => decide (len = 3) && decide (pcOf (i + 1) = pc + 3) && decide ((pc : Int) + off = (pcOf a : Int))
  | .if_icmp _ off => decide (len = 3) && decide (pcOf (i + 1) = pc + 3) && decide ((pc : Int) + off = (pcOf a : Int))
  | .ifnull off => decide (len = 3) && decide (pcOf (i + 1) = pc + 3) && decide ((pc : Int) + off = (pcOf a : Int))
  | .ifnonnull off => decide (len = 3) && decide (pcOf (i + 1) = pc + 3) && decide ((pc : Int) + off = (pcOf a : Int))
  | .goto off => decide (len = 3) && decide ((pc : Int) + off = (pcOf a : Int))
  | .tableswitch df lo hi offs => decide ((pc : Int) + df = (pcOf a : Int)) && decide (hi = lo + (offs.size : Int) - 1) && av_swk pc pcOf lo offs.toList ts
  | .lookupswitch df ps => decide ((pc : Int) + df = (pcOf a : Int)) && (ps.toList.zip (ps.toList.drop 1)).all (fun (a, next) => decide (a.1 < next.1)) && av_lwk pc pcOf ps.toList ts
  | .getfield n => decide (len = 3) && decide (pcOf (i + 1) = pc + 3) && K.1.any (fun q => decide (q.1 = o) && decide (q.2.1 = n) && decide (q.2.2.1 = a) && decide (q.2.2.2.1 = b) && decide ((if q.2.2.2.2.1 = 3 then 0 else q.2.2.2.2.1) = c))
  | .putfield n => decide (len = 3) && decide (pcOf (i + 1) = pc + 3) && K.1.any (fun q => decide (q.1 = o) && decide (q.2.1 = n) && decide (q.2.2.1 = a) && decide (q.2.2.2.1 = b) && decide (q.2.2.2.2.1 = c) && (decide (q.2.2.2.2.2 = 0) || decide (mi0 = 1 ∧ a = o)))
  | .iaload => decide (len = 1) && decide (pcOf (i + 1) = pc + 1)
  | .caload => decide (len = 1) && decide (pcOf (i + 1) = pc + 1)
  | .baload => decide (len = 1) && decide (pcOf (i + 1) = pc + 1)
  | .laload => decide (len = 1) && decide (pcOf (i + 1) = pc + 1)
  | .iastore => decide (len = 1) && decide (pcOf (i + 1) = pc + 1)
  | .castore => decide (len = 1) && decide (pcOf (i + 1) = pc + 1)
  | .bastore => decide (len = 1) && decide (pcOf (i + 1) = pc + 1)
  | .lastore => decide (len = 1) && decide (pcOf (i + 1) = pc + 1)
  | .arraylength => decide (len = 1) && decide (pcOf (i + 1) = pc + 1)
  | .aaload => decide (len = 1) && decide (pcOf (i + 1) = pc + 1) && decide (a = 104 ∨ a = 105)
  | .aastore => decide (len = 1) && decide (pcOf (i + 1) = pc + 1) && decide ((a = 104 ∧ b = 9) ∨ (a = 105 ∧ b = 0))
  | .new n => match c with
    | 0 => decide (len = 3) && decide (pcOf (i + 1) = pc + 3) && K.2.2.2.2.2.1.contains (o, n, a)
    | _ => true
  | .newarray t => decide (len = 2) && decide (pcOf (i + 1) = pc + 2) && decide ((t = .int ∧ a = 100) ∨ (t = .long ∧ a = 101) ∨ (t = .char ∧ a = 102) ∨ (t = .boolean ∧ a = 103))
  | .anewarray n => decide (len = 3) && decide (pcOf (i + 1) = pc + 3) && K.2.2.2.2.2.2.1.contains (o, n, a)
  | .invokestatic n => decide (len = 3) && decide (pcOf (i + 1) = pc + 3) && K.2.2.2.2.2.2.2.2.contains (o, n, a, 0, b, c, 0)
  | .invokevirtual n => decide (len = 3) && decide (pcOf (i + 1) = pc + 3) && K.2.2.2.2.2.2.2.2.contains (o, n, a, 1, b, c, d)
  | .invokespecial n => decide (len = 3) && decide (pcOf (i + 1) = pc + 3) && (match c with
    | 9 => decide (b = 0) && K.2.2.2.2.2.2.2.1.contains (o, n)
    | _ => K.2.2.2.2.2.2.2.2.contains (o, n, a, 2, b, c, d))
  | .ireturn => decide (len = 1) && decide (rb = 1 ∨ rb = 4)
  | .lreturn => decide (len = 1) && decide (rb = 2)
  | .return_ => decide (len = 1) && decide (rb = 0)
  | _ => true
def av_ck (K : av_KT) (o mi0 rb : Nat) (cc : ByteArray) (nL : Nat) (pcOf : Nat → Nat) (i : Nat) (r : av_R) : Bool :=
  decide (decode cc r.1 = .ok (r.2.2.1, r.2.1)) && decide (pcOf i = r.1) && av_ck2 K o mi0 rb nL pcOf i r.1 r.2.1 r.2.2.1 r.2.2.2.1 r.2.2.2.2.1 r.2.2.2.2.2.1 r.2.2.2.2.2.2.1 r.2.2.2.2.2.2.2.1 r.2.2.2.2.2.2.2.2.1 r.2.2.2.2.2.2.2.2.2
/-- what is known of the classes and of the links -/
def av_KF (tb : List Cond) (cl : List vw_C) (ty : Nat → Nat → FieldType) (ON : Nat → String) (K : av_KT) : Prop :=
  (∀ cn C T N, cl[cn]? = some (C, T, N) → cn < 12 ∧ (∀ w ∈ u_ws C T N, w ∈ tb) ∧ (∀ k, k < N → parseFieldDescriptor (T k).2.2.1 = some (ty cn k)) ∧ (∀ a, a < N → ∀ b, b < N → a ≠ b → (T a).2.1 ≠ (T b).2.1) ∧ Cond.instantiable C N ∈ tb ∧ Cond.initialized C ∈ tb ∧ ON cn = C ∧ ∀ k, k < N → (T k).1 = C ∧ defaultValue (ty cn k) = (match av_kd (T k).2.2.1 with
    | 0 => Value.int 0
    | 1 => Value.long 0
    | _ => Value.null)) ∧
  (∀ o n cn k kc fi, (o, n, cn, k, kc, fi) ∈ K.1 → ∃ C T N, cl[cn]? = some (C, T, N) ∧ k < N ∧ Cond.fieldLink (ON o) n C (T k).2.1 (T k).2.2.1 ∈ tb ∧
    ((kc = 0 ∧ (T k).2.2.1 = "I" ∧ ty cn k = .int) ∨ (kc = 1 ∧ (T k).2.2.1 = "J" ∧ ty cn k = .long) ∨ (kc = 2 ∧ av_kd (T k).2.2.1 = 2 ∧ ((∃ t, ty cn k = .array t) ∨ ∃ C, ty cn k = .object C)) ∨ (kc = 3 ∧ (T k).2.2.1 = "Z" ∧ ty cn k = .boolean)) ∧ (T k).2.2.2 = decide (fi ≠ 0)) ∧
  (∀ o n z, (o, n, z) ∈ K.2.1 → Cond.constant (ON o) n z ∈ tb) ∧
  (∀ o n z, (o, n, z) ∈ K.2.2.1 → Cond.constantLong (ON o) n z ∈ tb) ∧
  (∀ o n c, (o, n, c) ∈ K.2.2.2.2.2.1 → ∃ C T N, cl[c]? = some (C, T, N) ∧ Cond.classLink (ON o) n C ∈ tb) ∧
  (∀ o n c, (o, n, c) ∈ K.2.2.2.2.2.2.1 → ∃ C, ((c = 104 ∧ C = ON 9) ∨ (c = 105 ∧ C = ON 0)) ∧ Cond.classLink (ON o) n C ∈ tb) ∧
  (∀ o n, (o, n) ∈ K.2.2.2.2.2.2.2.1 → Cond.methodLink (ON o) n Lib.objectInit ∈ tb) ∧
  Cond.instanceMethod Lib.objectInit ∈ tb ∧ Cond.code Lib.objectInit ⟨#[0xb1]⟩ 1 none ∈ tb ∧
  Cond.arrayClass .int ∈ tb ∧ Cond.arrayClass .long ∈ tb ∧ Cond.arrayClass .char ∈ tb ∧ Cond.arrayClass .boolean ∈ tb
def av_tys (kA : Nat → ClassId) (ON : Nat → String) : List (ClassId × FieldType) := [(kA 100, .int), (kA 101, .long), (kA 102, .char), (kA 103, .boolean), (kA 104, .object (ON 9)), (kA 105, .object (ON 0))]
/-- an int array that lies outside -/
def av_XA (b L : Nat) (xs : Nat → Int32) (U : State) (H : Heap) : Prop := ∃ scr : Cell, H[b]? = some scr ∧ U.isArrayOf scr .int ∧ scr.vm ≠ .unknown ∧ L ≤ scr.slots.size ∧ scr.slots.size.toInt32 = Int32.ofNat L ∧ ∀ j : Nat, j < L → scr.slots[j]? = some (.int (xs j))
/-- what is known of the cells outside -/
def av_XF (K : av_KT) (ON : Nat → String) (f : Nat → Nat) (B : Nat) (X : av_X) (tb : List Cond) (s : State) : Prop :=
  (∀ a q, X a = some q → 1000000 ≤ a ∧ f a < B ∧ f a < s.heap.size ∧ av_XA (f a) q.1 q.2 s s.heap) ∧
  (∀ o n a, (o, n, a) ∈ K.2.2.2.1 → ∃ tx, vk_R (ON o) n tx (f a) s) ∧
  (∀ o n a, (o, n, a) ∈ K.2.2.2.2.1 → ∃ C nm d, va_Z C nm d (.ref (f a)) (fun q => B ≤ q) s s.heap ∧ Cond.fieldLink (ON o) n C nm d ∈ tb) ∧
  va_AO (ON 9) s ∧ va_AO (ON 0) s
/-- the machine stands as the abstract one does -/
def av_AT (Wf : Heap → List Loc → Nat → Nat → JFrame → Prop) (RH : av_H → Heap → Prop) (sz : av_H → Nat) (H0 : Heap) (B nL n0 z0 : Nat) (f : Nat → Nat) (m : MethodId) (pcOf : Nat → Nat) (i : Nat) (ls : av_L) (st : List av_V) (h : av_H) : Prop :=
  ∀ (H : Heap) (locs : List Loc) (sl : Array Slot) (n1 z1 : Nat), n0 + n1 = h.1.length → z0 + z1 = sz h → RH h H → va_S (fun q => B ≤ q) H0 H locs → lv_has sl nL (av_lm f ls) → Wf H locs n1 z1 (F0 m (pcOf i) sl (st.map (av_vl f)))
section
variable {p : Program} {l : Launch} {e : Env} {R : Room} {s : State} {m : MethodId} {args : Array Value} {below : List Frame} {meth : Method} {cd : Code} {Q : State → Prop} {H : Heap} {locs : List Loc} {cells slots : Nat} {g : JFrame}
theorem av_bound (k : H.size ≤ s.heap.size + cells → W p l e R s m args below meth cd H locs cells slots Q g) : W p l e R s m args below meth cd H locs cells slots Q g := by
  intro T hT X
  refine k ?_ T hT X
  have := X.same.2.2.1
  rw [← hT]
  exact this
end
theorem av_S_trans {A : Nat → Prop} {H0 H H1 : Heap} {locs locs1 : List Loc} (h : va_S A H0 H locs) (h1 : va_S A H H1 locs1) : va_S A H0 H1 locs1 :=
  ⟨Nat.le_trans h.1 h1.1, fun q a b => (h1.2.1 q (Nat.lt_of_lt_of_le a h.1) b).trans (h.2.1 q a b), h1.2.2⟩
theorem av_S_self {A : Nat → Prop} {H0 H : Heap} {locs : List Loc} (h : va_S A H0 H locs) : va_S A H H locs := ⟨Nat.le_refl _, fun _ _ _ => rfl, h.2.2⟩
theorem av_sw_some {f : Nat → av_T} {x : Int32} {d : Nat} {r : Option (Option av_V) × av_H} : ∀ {ts : List (Int32 × Nat)}, av_sw f x d ts = some r → (∃ q ∈ ts, x = q.1 ∧ f q.2 = some r) ∨ ((∀ q ∈ ts, x ≠ q.1) ∧ f d = some r)
  | [], h => Or.inr ⟨fun _ h => absurd h List.not_mem_nil, h⟩
  | q :: t, h => by
    simp only [av_sw] at h
    split at h
    · exact Or.inl ⟨q, List.mem_cons_self, by assumption, h⟩
    · rename_i hne
      rcases av_sw_some h with ⟨q2, a, b⟩ | ⟨a, b⟩
      · exact Or.inl ⟨q2, List.mem_cons_of_mem _ a, b⟩
      · exact Or.inr ⟨fun z hz => (List.mem_cons.mp hz).elim (fun e => by rw [e]; exact hne) (a z), b⟩
theorem av_swk_in {pc : Nat} {pcOf : Nat → Nat} : ∀ {lo : Int} {offs : List Int} {ts : List (Int32 × Nat)}, av_swk pc pcOf lo offs ts = true → ∀ q ∈ ts, ∃ (j : Nat) (off : Int), q.1.toInt = lo + j ∧ offs[j]? = some off ∧ (pc : Int) + off = (pcOf q.2 : Int) ∧ j < offs.length
  | lo, [], [], _, q, hq => absurd hq List.not_mem_nil
  | lo, [], _ :: _, h, q, hq => by simp [av_swk] at h
  | lo, _ :: _, [], h, q, hq => absurd hq List.not_mem_nil
  | lo, x :: t, y :: u, h, q, hq => by
    simp only [av_swk, Bool.and_eq_true, decide_eq_true_eq] at h
    rcases List.mem_cons.mp hq with rfl | hq
    · exact ⟨0, x, by simp [h.1.1], rfl, h.1.2, by simp⟩
    · obtain ⟨j, off, a, b, c, d⟩ := av_swk_in h.2 q hq
      exact ⟨j + 1, off, by rw [a]; push_cast; omega, by simpa using b, c, by simp; omega⟩
theorem av_swk_all {pc : Nat} {pcOf : Nat → Nat} {x : Int32} : ∀ {lo : Int} {offs : List Int} {ts : List (Int32 × Nat)}, av_swk pc pcOf lo offs ts = true → (∀ q ∈ ts, x ≠ q.1) → x.toInt < lo ∨ lo + offs.length - 1 < x.toInt
  | lo, [], [], _, _ => by simp; omega
  | lo, [], _ :: _, h, _ => by simp [av_swk] at h
  | lo, _ :: _, [], h, _ => by simp [av_swk] at h
  | lo, y :: t, q :: u, h, hx => by
    simp only [av_swk, Bool.and_eq_true, decide_eq_true_eq] at h
    have h1 := av_swk_all (x := x) h.2 (fun z hz => hx z (List.mem_cons_of_mem _ hz))
    have h2 : x.toInt ≠ lo := fun e => hx q List.mem_cons_self (Int32.toInt_inj.mp (by rw [e, h.1.1]))
    simp only [List.length_cons]
    omega
theorem av_lwk_sw {pc : Nat} {pcOf : Nat → Nat} {x : Int32} {df : Int} {f : Nat → av_T} {d : Nat} {r : Option (Option av_V) × av_H} (hd : (pc : Int) + df = (pcOf d : Int)) : ∀ {ps : List (Int × Int)} {ts : List (Int32 × Nat)}, av_lwk pc pcOf ps ts = true → av_sw f x d ts = some r → ∃ t, f t = some r ∧ (pc : Int) + Op.lookupswitch.offset ps df x.toInt = (pcOf t : Int)
  | [], [], _, h => ⟨d, h, hd⟩
  | [], _ :: _, h, _ => by simp [av_lwk] at h
  | _ :: _, [], h, _ => by simp [av_lwk] at h
  | (a, o) :: t, z :: u, h, hq => by
    simp only [av_lwk, Bool.and_eq_true, decide_eq_true_eq] at h
    simp only [av_sw] at hq
    split at hq
    · rename_i e
      exact ⟨z.2, hq, by rw [Op.lookupswitch.offset_cons, if_pos (by rw [e, h.1.1]), h.1.2]⟩
    · rename_i e
      obtain ⟨t2, e1, e2⟩ := av_lwk_sw hd h.2 hq
      exact ⟨t2, e1, by rw [lv_osw e h.1.1]; exact e2⟩
theorem av_res_some {next : av_B} {c i : Nat} {ls : av_L} {st : List av_V} {x : av_T} {r : Option (Option av_V) × av_H} (h : av_res next c i ls st x = some r) : ∃ (ov : Option av_V) (h3 : av_H), x = some (some ov, h3) ∧ next (i + 1) ls (ov.toList ++ st) h3 = some r := by
  unfold av_res at h
  split at h
  · obtain ⟨q, e1, e2⟩ := Option.bind_eq_some_iff.mp h
    obtain ⟨z, e3, e4⟩ := Option.bind_eq_some_iff.mp e1
    obtain ⟨z1, z2⟩ := z
    split at e4
    · cases e4
      rename_i ez
      cases ez
      exact ⟨none, _, e3, e2⟩
    · cases e4
  · obtain ⟨q, e1, e2⟩ := Option.bind_eq_some_iff.mp h
    obtain ⟨z, e3, e4⟩ := Option.bind_eq_some_iff.mp e1
    obtain ⟨z1, z2⟩ := z
    split at e4
    · cases e4
      rename_i ez
      cases ez
      exact ⟨some (.inl _), _, e3, e2⟩
    · cases e4
  · obtain ⟨q, e1, e2⟩ := Option.bind_eq_some_iff.mp h
    obtain ⟨z, e3, e4⟩ := Option.bind_eq_some_iff.mp e1
    obtain ⟨z1, z2⟩ := z
    split at e4
    · cases e4
      rename_i ez
      cases ez
      exact ⟨some (.inr (.inl _)), _, e3, e2⟩
    · cases e4
theorem av_is_some {h : av_H} {r : Option Nat} {c : Nat} (hi : av_is h r c = true) : ∃ (x n : Nat), r = some x ∧ h.1[x]? = some (c, n) := by
  unfold av_is at hi
  split at hi
  · cases hi
  · split at hi
    · cases hi
    · rename_i x q hq
      obtain ⟨q1, q2⟩ := q
      have : q1 = c := Nat.eq_of_beq_eq_true hi
      subst this
      exact ⟨_, q2, rfl, hq⟩
theorem av_at_some {h : av_H} {r : Option Nat} {c : Nat} {i : Int32} (hi : av_at h r c i = true) : ∃ (x n : Nat), r = some x ∧ h.1[x]? = some (c, n) ∧ vp_in i n ∧ i.toNatClampNeg < n := by
  unfold av_at at hi
  split at hi
  · cases hi
  · split at hi
    · cases hi
    · rename_i x q hq
      obtain ⟨q1, q2⟩ := q
      simp only [Bool.and_eq_true, Bool.not_eq_true', decide_eq_false_iff_not] at hi
      have : q1 = c := Nat.eq_of_beq_eq_true hi.1
      subst this
      have h3 : i.toNatClampNeg < q2 := Nat.lt_of_lt_of_le (Nat.lt_succ_self _) (Nat.le_of_ble_eq_true hi.2.2)
      exact ⟨_, q2, rfl, hq, fun z => z.elim hi.2.1 (fun z => absurd h3 (by omega)), h3⟩
section
variable {D : va_G} {cl : List vw_C} {kA : Nat → ClassId} {f : Nat → Nat} {B : Nat}
theorem av_ce_obj {h : av_H} {x c n : Nat} {C : String} {T : u_T} {N : Nat} (hx : h.1[x]? = some (c, n)) (hc : cl[c]? = some (C, T, N)) : av_ce cl kA f h x = .inr (c, (List.range N).map (av_fv f T h x)) := by
  simp only [av_ce, hx, hc]
theorem av_ce_arr {h : av_H} {x c n : Nat} (hx : h.1[x]? = some (c, n)) (hc : cl.length ≤ c) : av_ce cl kA f h x = .inl (kA c, n, av_ac f h x c) := by
  have : cl[c]? = none := List.getElem?_eq_none_iff.mpr hc
  simp only [av_ce, hx, this]
theorem av_fv_get {h : av_H} {T : u_T} {N k x : Nat} (hk : k < N) : ((List.range N).map (av_fv f T h x))[k]? = some (av_fv f T h x k) := by
  simp [hk]
theorem av_fv_set {h g : av_H} {T : u_T} {N k x : Nat} {v : Value} (hk : k < N) (e1 : av_fv f T g x k = v) (e2 : ∀ j, j ≠ k → av_fv f T g x j = av_fv f T h x j) : ((List.range N).map (av_fv f T h x)).set k v = (List.range N).map (av_fv f T g x) := by
  refine List.ext_getElem? fun j => ?_
  by_cases hj : k = j
  · subst hj
    rw [List.getElem?_set_self (by simpa using hk), av_fv_get hk, e1]
  · rw [List.getElem?_set_ne hj]
    simp only [List.getElem?_map]
    cases hr : (List.range N)[j]? with
    | none => rfl
    | some z =>
      have hz : z = j := by
        have := List.getElem?_eq_some_iff.mp hr
        obtain ⟨h1, h2⟩ := this
        rw [List.getElem_range] at h2
        exact h2.symm
      subst hz
      simp only [Option.map_some]
      rw [e2 z (fun e => hj e.symm)]
/-- a field, an array's element, a reference is written: the other cells are as they were -/
theorem av_uI_ce {h : av_H} {a k : Nat} {v : Int32} {x : Nat} (hx : x ≠ a) : av_ce cl kA f (av_uI h a k v) x = av_ce cl kA f h x := av_ce_congr rfl (va_up_ne _ _ hx) rfl rfl
theorem av_uL_ce {h : av_H} {a k : Nat} {v : Int64} {x : Nat} (hx : x ≠ a) : av_ce cl kA f (av_uL h a k v) x = av_ce cl kA f h x := av_ce_congr rfl rfl (va_up_ne _ _ hx) rfl
theorem av_uR_ce {h : av_H} {a k : Nat} {v : Option Nat} {x : Nat} (hx : x ≠ a) : av_ce cl kA f (av_uR h a k v) x = av_ce cl kA f h x := av_ce_congr rfl rfl rfl (va_up_ne _ _ hx)
end

