/-! a throw that the method's only handler takes, its catch type named in the pool: own proof over the library's step laws -/
def kq_fin (e : Env) (s : State) (f : JFrame) (a : Addr) (pc : Nat) (V : Vm) : Prop :=
  ∀ (Q : Handler → Pre) (E : CtlPost) (d : Bool) (acts : List Action), wp (findHandler f a) Q E e d acts s ↔ Q (.found pc) d acts (s.setVm V)
theorem kq_find {e : Env} {s : State} {f : JFrame} {a : Addr} {meth : Method} {code : Code} (hm : s.vm.method? f.method = some meth) (hc : meth.code = some code) {x : ExceptionTableEntry} (ht : code.exceptionTable.toList = [x]) (hx : covers x f.pc = true) (h0 : x.catchType ≠ 0) {c : ClassId} {cell : Cell}
    (hl : s.vm.ClassLinks e.platform f.method.cls x.catchType c) (hcell : s.heap[a]? = some cell) (hobj : ∀ k, cell.vm ≠ .statics k) (hk : ∃ k, s.vm.classes[cell.cls]? = some k) (hcl : ∃ k, s.vm.classes[c]? = some k) (hfit : s.vm.assignable cell.cls c = true) :
    kq_fin e s f a x.handlerPc (s.vm.noted f.method.cls x.catchType (.cls c)) := by
  obtain ⟨q1, q2⟩ := hk
  obtain ⟨r1, r2⟩ := hcl
  have al : s.vm.Alike (s.vm.noted f.method.cls x.catchType (.cls c)) := (Vm.Alike.refl s.vm).noted _ _ _
  obtain ⟨q3, q4, -⟩ := al.2.2 _ _ q2
  obtain ⟨r3, r4, -⟩ := al.2.2 _ _ r2
  have fit2 : (s.vm.noted f.method.cls x.catchType (.cls c)).assignable cell.cls c = true := by
    rw [al.assignable]
    exact hfit
  obtain ⟨o1, o2⟩ := (resolveClass_links e.toSetting hl).op (op := VmOp.resolveClass f.method.cls x.catchType) rfl
  simp only [covers] at hx
  intro Q E d acts
  rw [Jvm.W.findHandler_eq hm hc, ht]
  simp [findHandler.go, hx, h0, o1, o2, hcell, hobj, q4, r4, fit2, VmOp.dirties, VmOp.acts]
theorem kq_step {e : Env} {s : State} {a : Addr} {f : JFrame} {r : List Frame} {pc : Nat} {V : Vm} (h : kq_fin e s f a pc V) : (stepThrowing e s a (.java f :: r)).Is ((s.setVm V).setFrames (.java { f with pc := pc, stack := [.ref a] } :: r)) [] := by
  simp only [stepThrowing, searchFrame, vmDo]
  generalize hr : Sem.go _ e false [] s = res
  obtain ⟨as, rfl, ha⟩ := Sem.eq_ok_of hr (a := Handler.found pc) (s' := s.setVm V) (acts' := []) (by simp [h _ _ _ _])
  exact ⟨rfl, ha⟩
theorem kq_fr (u : State) (V : Vm) (F G : List Frame) : ((u.setFrames F).setVm V).setFrames G = (u.setVm V).setFrames G := by
  show ((u.setVm V).setFrames F).setFrames G = _
  rw [State.setFrames_setFrames]
theorem kq_go {tb : Tables} {e : Env} {s target : State} {g : JFrame} {c : Code} {below : List Frame} {a : Addr} (h : At s g.method c below) {pc : Nat} {V : Vm} (hf : kq_fin e ((s.setTop g).pushFrame (.throwing a)) g a pc V)
    (hr : Steps tb e below ((s.setVm V).setTop { g with pc := pc, stack := [.ref a] }) target) : Steps tb e below ((s.setTop g).pushFrame (.throwing a)) target := by
  obtain ⟨w1, w2⟩ := h.throwing a
  obtain ⟨g0, hg⟩ := Option.isSome_iff_exists.mp h.top
  obtain ⟨rs, hrs⟩ := State.topJava?_eq_some.mp hg
  have hv : (s.setVm V).frames = .java g0 :: rs := hrs
  refine Steps.head w1 w2 ?_
  rw [stepThread_throwing (frames_entered h.top _), (kq_step (s := (s.setTop g).pushFrame (.throwing a)) hf).1]
  rw [State.setTop_of_frames _ hv] at hr
  rw [hrs, List.tail_cons, State.pushFrame, kq_fr, State.setTop_of_frames _ hrs, kq_fr]
  exact hr
theorem kq_caught {p : Program} {l : Launch} {e : Env} {R : Room} {s : State} {m : MethodId} {args : Array Value} {below : List Frame} {meth : Method} {c : Code} {T : State} {locs : List Loc} {cells slots : Nat} (X : Stand p l e R s m args below meth c T locs cells slots) (a : Addr) {g : JFrame} (hg : g.method = m)
    {own name : String} (hown : s.vm.findClass own = some m.cls) {x : ExceptionTableEntry} (ht : c.exceptionTable.toList = [x]) (hx : covers x g.pc = true) (h0 : x.catchType ≠ 0) (hlink : (Cond.classLink own x.catchType name).before args s = true) {cT : ClassId} {cell : Cell} (hcT : s.vm.findClass name = some cT)
    (hcell : T.heap[a]? = some cell) (hobj : cell.vm.isStatics = false) (hfit : s.vm.assignable cell.cls cT = true) :
    ∃ V : Vm, Stand p l e R s m args below meth c (T.setVm V) locs cells slots ∧ Steps p.tables e below ((T.setTop g).pushFrame (.throwing a)) ((T.setVm V).setTop { g with pc := x.handlerPc, stack := [.ref a] }) := by
  have hpl : e.platform.magicAccessors = ({} : Platform).magicAccessors := by rw [X.admits.platform]
  obtain ⟨c9, u1, u2⟩ := Cond.classLink_spec hown hlink e.platform hpl
  cases hcT.symm.trans u1
  obtain ⟨dk, _, _, kt, hd, _, _, _, _, hkt, _, hopen⟩ := u2.here
  have al := X.warmed.alike
  obtain ⟨k3, k4, -⟩ := al.2.2 _ _ hkt
  have fit2 : T.vm.assignable cell.cls cT = true := by
    rw [al.assignable]
    exact hfit
  refine ⟨_, X.noted (X.warmed.noted hd hopen (State.rightAt_cls u2)), ?_⟩
  subst hg
  exact kq_go X.here (kq_find (s := (T.setTop g).pushFrame (.throwing a)) (meth := meth) (code := c) X.method' X.code ht hx h0 (c := cT) (cell := cell) (X.warmed.classLinks u2) hcell (VmData.ne_statics_of hobj) (Vm.classAt_of_assignable fit2 ⟨k3, k4⟩) ⟨k3, k4⟩ fit2) (Steps.refl _)
