/-- the search through a table of handlers: what it gives, and the tables that it leaves -/
def GoTo (e : Env) (s : State) (f : JFrame) (a : Addr) (es : List ExceptionTableEntry) (h : Handler) (vm' : Vm) : Prop :=
  ∀ (Q : Handler → Pre) (E : CtlPost) (d : Bool) (acts : List Action), wp (findHandler.go f a es) Q E e d acts s ↔ Q h d acts (s.setVm vm')
theorem go_link {Q : Handler → Pre} {E : CtlPost} {e : Env} {d : Bool} {acts : List Action} {s : State} {f : JFrame} {a : Addr} {x : ExceptionTableEntry} {t : List ExceptionTableEntry} {c : ClassId} {cell : Cell} (hx : covers x f.pc = true) (h0 : x.catchType ≠ 0)
    (hl : s.vm.ClassLinks e.platform f.method.cls x.catchType c) (hcell : s.heap[a]? = some cell) (hobj : ∀ k, cell.vm ≠ .statics k) (hk : ∃ k, s.vm.classes[cell.cls]? = some k) (hc : ∃ k, s.vm.classes[c]? = some k) :
    wp (findHandler.go f a (x :: t)) Q E e d acts s ↔ if s.vm.assignable cell.cls c = true then Q (.found x.handlerPc) d acts (s.setVm (s.vm.noted f.method.cls x.catchType (.cls c))) else wp (findHandler.go f a t) Q E e d acts (s.setVm (s.vm.noted f.method.cls x.catchType (.cls c))) := by
  obtain ⟨r1, r2⟩ := (resolveClass_links e.toSetting hl).op (op := VmOp.resolveClass f.method.cls x.catchType) rfl
  have hal : s.vm.Alike (s.vm.noted f.method.cls x.catchType (.cls c)) := (Vm.Alike.refl s.vm).noted _ _ _
  obtain ⟨k1, hk1⟩ := hk
  obtain ⟨k2, hk2⟩ := hc
  obtain ⟨k3, hk3, -⟩ := hal.2.2 _ _ hk1
  obtain ⟨k4, hk4, -⟩ := hal.2.2 _ _ hk2
  simp only [covers] at hx
  cases hfit : s.vm.assignable cell.cls c
  · have hfit' : (s.vm.noted f.method.cls x.catchType (.cls c)).assignable cell.cls c = false := by rw [hal.assignable]; exact hfit
    simp [findHandler.go, hx, h0, r1, r2, hcell, hobj, hk3, hk4, hfit', VmOp.dirties, VmOp.acts]
  · have hfit' : (s.vm.noted f.method.cls x.catchType (.cls c)).assignable cell.cls c = true := by rw [hal.assignable]; exact hfit
    simp [findHandler.go, hx, h0, r1, r2, hcell, hobj, hk3, hk4, hfit', VmOp.dirties, VmOp.acts]
/-- entries, all over the pc, the classes that they name linked: the first one that takes an object of the class goes to hpc -/
def Catches (s : State) (args : Array Value) (own : String) (k : ClassId) (pc : Nat) : List ExceptionTableEntry → Nat → Prop
  | [], _ => False
  | x :: r, hpc => covers x pc = true ∧ x.catchType ≠ 0 ∧ ∃ (name : String) (cT : ClassId), (Cond.classLink own x.catchType name).before args s = true ∧ s.vm.findClass name = some cT ∧ ((s.vm.assignable k cT = true ∧ x.handlerPc = hpc) ∨ (s.vm.assignable k cT = false ∧ Catches s args own k pc r hpc))
section Cat
variable {p : Program} {l : Launch} {e : Env} {R : Room} {s : State} {m : MethodId} {args : Array Value} {below : List Frame} {meth : Method} {c : Code} {T : State} {locs : List Loc} {cells slots : Nat}
theorem st_go {g : JFrame} (hg : g.method = m) {own : String} (hown : s.vm.findClass own = some m.cls) {a : Addr} {cell : Cell} (hobj : cell.vm.isStatics = false) (hkc : ∃ k, s.vm.classes[cell.cls]? = some k) :
    ∀ (es : List ExceptionTableEntry) (hpc : Nat), Catches s args own cell.cls g.pc es hpc → ∀ T : State, Stand p l e R s m args below meth c T locs cells slots → T.heap[a]? = some cell →
      ∃ vm', Stand p l e R s m args below meth c (T.setVm vm') locs cells slots ∧ GoTo e ((T.setTop g).pushFrame (.throwing a)) g a es (.found hpc) vm' := by
  subst hg
  intro es
  induction es with
  | nil => intro hpc h; exact h.elim
  | cons x r ih =>
    intro hpc h T X hcell
    obtain ⟨hx, h0, name, cT, hlink, hcT, h⟩ := h
    have hpl : e.platform.magicAccessors = ({} : Platform).magicAccessors := by rw [X.admits.platform]
    obtain ⟨c', hc', hcl⟩ := Cond.classLink_spec hown hlink e.platform hpl
    cases hcT.symm.trans hc'
    obtain ⟨dk, _, _, kt, hd, _, _, _, _, hkt, _, hopen⟩ := hcl.here
    have hcl₀ := X.warmed.classLinks hcl
    have hW' : s.WarmedH (T.vm.noted g.method.cls x.catchType (.cls cT)) := X.warmed.noted hd hopen (State.rightAt_cls hcl)
    have hal := X.warmed.alike
    obtain ⟨kt', hkt', -⟩ := hal.2.2 _ _ hkt
    obtain ⟨kc, hkc0⟩ := hkc
    obtain ⟨kc', hkc', -⟩ := hal.2.2 _ _ hkc0
    have key : ∀ (Q : Handler → Pre) (E : CtlPost) (d : Bool) (acts : List Action), wp (findHandler.go g a (x :: r)) Q E e d acts ((T.setTop g).pushFrame (.throwing a)) ↔ if T.vm.assignable cell.cls cT = true then Q (.found x.handlerPc) d acts (((T.setTop g).pushFrame (.throwing a)).setVm (T.vm.noted g.method.cls x.catchType (.cls cT))) else wp (findHandler.go g a r) Q E e d acts (((T.setTop g).pushFrame (.throwing a)).setVm (T.vm.noted g.method.cls x.catchType (.cls cT))) :=
      fun Q E d acts => go_link (s := (T.setTop g).pushFrame (.throwing a)) hx h0 hcl₀ hcell (VmData.ne_statics_of hobj) ⟨kc', hkc'⟩ ⟨kt', hkt'⟩
    rcases h with ⟨hfit, rfl⟩ | ⟨hfit, h⟩
    · refine ⟨_, X.noted hW', fun Q E d acts => ?_⟩
      rw [key, if_pos (by rw [hal.assignable]; exact hfit)]
    · obtain ⟨vm', X', hgo⟩ := ih hpc h _ (X.noted hW') hcell
      refine ⟨vm', X', fun Q E d acts => ?_⟩
      rw [key, if_neg (by rw [hal.assignable, hfit]; exact Bool.false_ne_true)]
      exact hgo Q E d acts
theorem st_caught (X : Stand p l e R s m args below meth c T locs cells slots) {g : JFrame} (hg : g.method = m) {a : Addr} {hpc : Nat} {vm' : Vm} (hgo : GoTo e ((T.setTop g).pushFrame (.throwing a)) g a c.exceptionTable.toList (.found hpc) vm') {target : State}
    (hrest : Steps p.tables e below ((T.setVm vm').setTop { g with pc := hpc, stack := [.ref a] }) target) : Steps p.tables e below ((T.setTop g).pushFrame (.throwing a)) target := by
  subst hg
  have hfind : ∀ (Q : Handler → Pre) (E : CtlPost) (d : Bool) (acts : List Action), wp (findHandler g a) Q E e d acts ((T.setTop g).pushFrame (.throwing a)) ↔ Q (.found hpc) d acts (((T.setTop g).pushFrame (.throwing a)).setVm vm') :=
    fun Q E d acts => (W.findHandler_eq (s := (T.setTop g).pushFrame (.throwing a)) (meth := meth) (code := c) X.method' X.code).trans (hgo Q E d acts)
  obtain ⟨h1, h2⟩ := X.here.throwing (g := g) a
  refine Steps.head h1 h2 ?_
  rw [stepThread_throwing (frames_entered X.here.top _)]
  have hIs : (stepThrowing e ((T.setTop g).pushFrame (.throwing a)) a (.java g :: T.frames.tail)).Is ((((T.setTop g).pushFrame (.throwing a)).setVm vm').setFrames (.java { g with pc := hpc, stack := [.ref a] } :: T.frames.tail)) [] := by
    simp only [stepThrowing, searchFrame, vmDo]
    generalize hr : Sem.go _ e false [] _ = res
    obtain ⟨as, rfl, ha⟩ := Sem.eq_ok_of hr (a := Handler.found hpc) (s' := ((T.setTop g).pushFrame (.throwing a)).setVm vm') (acts' := []) (by simp [hfind _ _ _ _])
    exact ⟨rfl, ha⟩
  rw [hIs.1]
  obtain ⟨g₀, hgT⟩ := Option.isSome_iff_exists.mp X.here.top
  obtain ⟨r, hr⟩ := State.topJava?_eq_some.mp hgT
  have e1 : (((T.setTop g).pushFrame (.throwing a)).setVm vm').setFrames (.java { g with pc := hpc, stack := [.ref a] } :: T.frames.tail) = (T.setVm vm').setTop { g with pc := hpc, stack := [.ref a] } := by
    have hr' : (T.setVm vm').frames = .java g₀ :: r := hr
    rw [State.setTop_of_frames _ hr', hr, State.pushFrame, State.setTop_of_frames _ hr]
    show (((T.setFrames (.java g :: r)).setFrames _).setVm vm').setFrames _ = _
    rw [State.setFrames_setFrames]
    show ((T.setVm vm').setFrames _).setFrames _ = _
    rw [State.setFrames_setFrames]
    rfl
  rw [e1]
  exact hrest
end Cat
section CallT
variable {p : Program} {l : Launch} {e : Env} {R : Room} {s : State} {m : MethodId} {args : Array Value} {below : List Frame} {meth : Method} {c : Code} {H : Heap} {locs : List Loc} {cells slots : Nat} {Q : State → Prop}
/-- a callee that throws comes back with the note on the caller's frame -/
theorem back_T {y : MethodName} {ws : List Cond} {rm : Room} {Pc : Array Value → State → Prop} {Qt : Array Value → State → Nat → State → Prop} {mc ms : Nat} {free : Addr → Prop} {bytes : ByteArray} {maxL Wd : Nat} {ret : Option FieldType}
    (hM : MetT l y ws rm Pc Qt mc ms free) (hblind : FrameBlind Pc) (hrc : rm.cells = mc) (hrs : rm.slots = ms) (hframes : rm.frames + 1 ≤ R.frames) (hlocals : Wd + (maxL + 11) + rm.locals ≤ R.locals)
    (hws : ∀ w ∈ ws, ∀ (a' : Array Value) (U : State), s.WarmedH U.vm → w.before a' U = true) (hcode : Cond.code y bytes maxL ret ∈ ws) (hinit : ∀ (a' : Array Value) (U : State), s.WarmedH U.vm → (Cond.initialized y.cls).before a' U = true)
    {U : State} (X : Stand p l e R s m args below meth c U locs cells slots) {g : JFrame} (hg : g.method = m) (hsize : g.locals.size = c.maxLocals) {ig : Instr} {len : Nat} (hdg : decode c.code g.pc = .ok (ig, len))
    (hW : 2 * g.monitorRoom + (g.stack.map fun v => v.category).sum ≤ Wd) {mk : MethodId} (hn : U.methodNamed? y = some mk) {a : Array Value} (hc : cells + mc ≤ R.cells) (hs : slots + ms ≤ R.slots) (hp : Pc a U) :
    ∃ (x : Nat) (t T' : State) (L : List Loc), Stand p l e R s m args below meth c T' (locs ++ L) (cells + mc) (slots + ms) ∧ (∀ q ∈ L, free q.base) ∧ T'.heap = t.heap ∧ T'.vm = t.vm ∧ Qt a (U.calling g mk a) x t ∧ Steps p.tables e below (doInvoke e (U.setTop g) [] mk a).1 ((T'.setTop g).pushFrame (.throwing x)) := by
  have h1 : (headSpec ws rm).pre.before a U = true := atoms_intro fun w hw => hws w hw _ _ X.warmed
  have h2 := hws _ hcode a U X.warmed
  have h3 := hinit a U X.warmed
  obtain ⟨methY, cY, hmY, hcY, -, hlY, -, -, -, -⟩ := Cond.code_spec hn h2
  obtain ⟨kY, hkY, -⟩ := className_of_methodNamed hn
  have hinitY : kY.init = .initialized := Cond.initialized_spec (findClass_of_methodNamed hn) hkY h3
  have h : At U g.method c below := by rw [hg]; exact X.here
  have happ : (headSpec ws rm).appliesLoose y e.platform (U.calling g mk a) = true :=
    Spec.appliesLoose_calling (g := g) h hdg hn hkY hinitY
      (X.room_calling (g := g) (R' := rm) hsize hmY hcY hframes (by rw [hlY]; omega) (by rw [hrc]; exact hc) (by rw [hrs]; exact hs)) h1
  obtain ⟨mid, hmid⟩ := h.above
  have hfr : (U.setTop g).frames = (.java g :: mid) ++ below := by rw [State.frames_setTop' g h.top, hmid]; rfl
  obtain ⟨o, s₂, hsteps, -, hend, hq⟩ := Steps.callFree hM p X.admits X.cas X.clock (acts := []) hfr happ (hblind _ _ _ _ hp) trivial
  rw [State.frames_setTop' g h.top, X.tail] at hend
  obtain ⟨x, rfl, hQ, hWm, L, hsame, hL⟩ := hq
  obtain ⟨T', X', -, hsm, ht⟩ := X.outOfThrown hg (mk := mk) (a := a) (t := s₂) (x := x) (L := L) hend hWm hsame
  refine ⟨x, s₂, T', L, X', hL, ?_, ?_, hQ, by rw [← ht]; exact hsteps⟩
  · rw [ht]; rfl
  · rw [ht]; rfl
end CallT
