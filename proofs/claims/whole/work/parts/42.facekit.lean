def QT (D : va_G) (ar : Nat → ClassId) (w1 : va_W) (E : String) (A : Nat → Prop) : Array Value → State → Nat → State → Prop := fun _ st x t =>
  (∃ ce : Cell, t.heap[x]? = some ce ∧ ce.vm = .none ∧ t.vm.findClass E = some ce.cls) ∧ va_P D vwCl w1 t.heap ∧ va_K D vwCl (TY ar) t ∧ va_D A w1 ∧ va_F A st t
def StdT (l : Launch) (y : MethodName) (ws : List Cond) (rm : Room) (D : va_G) (ar : Nat → ClassId) (argv : List Value) (wc w1 : va_W) (E : String) : Prop :=
  ∀ sz : Nat, MetT l y ws rm (StdPc D ar argv wc sz) (QT D ar w1 E (va_A wc sz)) 1 6 (va_A wc sz)
def StdI1 (l : Launch) (y : MethodName) (ws : List Cond) (rm : Room) (D : va_G) (ar : Nat → ClassId) (argv : List Value) (wc w1 : va_W) (v : Int32) : Prop :=
  ∀ sz : Nat, Met l y ws rm (StdPc D ar argv wc sz) (QI D ar w1 v (va_A wc sz)) 1 6 (va_A wc sz)
def StdJ1 (l : Launch) (y : MethodName) (ws : List Cond) (rm : Room) (D : va_G) (ar : Nat → ClassId) (argv : List Value) (wc w1 : va_W) (v : Int64) : Prop :=
  ∀ sz : Nat, Met l y ws rm (StdPc D ar argv wc sz) (QJ D ar w1 v (va_A wc sz)) 1 6 (va_A wc sz)
def excN : Nat → String
  | 1 => "java/lang/IndexOutOfBoundsException"
  | 2 => "java/lang/IllegalArgumentException"
  | 3 => "java/lang/UnsupportedOperationException"
  | _ => "java/lang/IllegalStateException"
theorem sd_metI1 {l : Launch} {y : MethodName} {ws : List Cond} {rm : Room} {D : va_G} {ar : Nat → ClassId} {argv : List Value} {wc w1 : va_W} {v : Int32} {cc : ByteArray} {maxL : Nat} {ret : Option FieldType} {own : String} (hy : plainName y.cls = true) (hw : ws = Cond.code y cc maxL ret :: gt) (ho : y.cls = own) (hlen : (lg_sl argv).length ≤ maxL)
    (body : ∀ (p : Program) (e : Env) (s : State) (m : MethodId) (below : List Frame) (meth : Method) (c : Code) (A : Nat → Prop) (ls : Array Slot), CX p s m meth c argv.toArray cc maxL ret own D ar A → va_P D vwCl wc s.heap → va_D A wc → lv_has ls maxL (lv_args 0 argv) →
      W p l e rm s m argv.toArray below meth c s.heap [] 0 0 (MQ below (QI D ar w1 v A) argv.toArray s 1 6 A) (F0 m 0 ls [])) : StdI1 l y ws rm D ar argv wc w1 v := by
  intro sz
  refine Met.ofW (cc := cc) (maxL := maxL) (ret := ret) hy hw ?_
  intro p e s m args below meth c s₁ B hml hv
  obtain ⟨rfl, hsz, hP, hK, hD0, hZ⟩ := hv
  have hown : s.vm.findClass own = some m.cls := ho ▸ findClass_of_methodNamed B.named
  have hts : ∀ w ∈ gt, w.before argv.toArray s = true := fun w h => atoms_spec (ws := ws) B.pre w (by rw [hw]; exact List.mem_cons_of_mem _ h)
  subst hsz
  have hl := lv_entry argv (n := maxL) hlen
  rw [lg_entry_eq]
  exact body p e s m below meth c (va_A wc s.heap.size) _ ⟨B.exec, B.bytes, B.returns, hml, hown, hts, B.notSynchronized, fun q h => Or.inr h, hK, hZ⟩ hP hD0.self hl
theorem sd_metJ1 {l : Launch} {y : MethodName} {ws : List Cond} {rm : Room} {D : va_G} {ar : Nat → ClassId} {argv : List Value} {wc w1 : va_W} {v : Int64} {cc : ByteArray} {maxL : Nat} {ret : Option FieldType} {own : String} (hy : plainName y.cls = true) (hw : ws = Cond.code y cc maxL ret :: gt) (ho : y.cls = own) (hlen : (lg_sl argv).length ≤ maxL)
    (body : ∀ (p : Program) (e : Env) (s : State) (m : MethodId) (below : List Frame) (meth : Method) (c : Code) (A : Nat → Prop) (ls : Array Slot), CX p s m meth c argv.toArray cc maxL ret own D ar A → va_P D vwCl wc s.heap → va_D A wc → lv_has ls maxL (lv_args 0 argv) →
      W p l e rm s m argv.toArray below meth c s.heap [] 0 0 (MQ below (QJ D ar w1 v A) argv.toArray s 1 6 A) (F0 m 0 ls [])) : StdJ1 l y ws rm D ar argv wc w1 v := by
  intro sz
  refine Met.ofW (cc := cc) (maxL := maxL) (ret := ret) hy hw ?_
  intro p e s m args below meth c s₁ B hml hv
  obtain ⟨rfl, hsz, hP, hK, hD0, hZ⟩ := hv
  have hown : s.vm.findClass own = some m.cls := ho ▸ findClass_of_methodNamed B.named
  have hts : ∀ w ∈ gt, w.before argv.toArray s = true := fun w h => atoms_spec (ws := ws) B.pre w (by rw [hw]; exact List.mem_cons_of_mem _ h)
  subst hsz
  have hl := lv_entry argv (n := maxL) hlen
  rw [lg_entry_eq]
  exact body p e s m below meth c (va_A wc s.heap.size) _ ⟨B.exec, B.bytes, B.returns, hml, hown, hts, B.notSynchronized, fun q h => Or.inr h, hK, hZ⟩ hP hD0.self hl
theorem sd_metT {l : Launch} {y : MethodName} {ws : List Cond} {rm : Room} {D : va_G} {ar : Nat → ClassId} {argv : List Value} {wc w1 : va_W} {E : String} {cc : ByteArray} {maxL : Nat} {ret : Option FieldType} {own : String} (hy : plainName y.cls = true) (hw : ws = Cond.code y cc maxL ret :: gt) (ho : y.cls = own) (hlen : (lg_sl argv).length ≤ maxL)
    (body : ∀ (p : Program) (e : Env) (s : State) (m : MethodId) (below : List Frame) (meth : Method) (c : Code) (A : Nat → Prop) (ls : Array Slot), c.exceptionTable.isEmpty = true → CX p s m meth c argv.toArray cc maxL ret own D ar A → va_P D vwCl wc s.heap → va_D A wc → lv_has ls maxL (lv_args 0 argv) →
      W p l e rm s m argv.toArray below meth c s.heap [] 0 0 (MQT below (QT D ar w1 E A) argv.toArray s 1 6 A) (F0 m 0 ls [])) : StdT l y ws rm D ar argv wc w1 E := by
  intro sz
  refine MetT.ofW (cc := cc) (maxL := maxL) (ret := ret) hy hw ?_
  intro p e s m args below meth c s₁ B hml hv
  obtain ⟨rfl, hsz, hP, hK, hD0, hZ⟩ := hv
  have hown : s.vm.findClass own = some m.cls := ho ▸ findClass_of_methodNamed B.named
  have hws := atoms_spec (ws := ws) B.pre
  have hts : ∀ w ∈ gt, w.before argv.toArray s = true := fun w h => hws w (by rw [hw]; exact List.mem_cons_of_mem _ h)
  have hno := B.noHandlers (hws (Cond.code y cc maxL ret) (by rw [hw]; exact List.mem_cons_self))
  subst hsz
  have hl := lv_entry argv (n := maxL) hlen
  rw [lg_entry_eq]
  exact body p e s m below meth c (va_A wc s.heap.size) _ hno ⟨B.exec, B.bytes, B.returns, hml, hown, hts, B.notSynchronized, fun q h => Or.inr h, hK, hZ⟩ hP hD0.self hl
section FaceRows
variable {p : Program} {l : Launch} {e : Env} {R : Room} {s : State} {m : MethodId} {args : Array Value} {below : List Frame} {meth : Method} {c : Code} {H : Heap} {locs : List Loc} {cells slots : Nat} {Q : State → Prop} {cc : ByteArray} {D : va_G} {ar : Nat → ClassId} {A : Nat → Prop} {w1 ws wc wr : va_W} {pc : Nat} {ls : Array Slot} {st0 rest : List Value} {a : Array Value}
theorem sd_iret1 {v : Int32} (hx : p.tables.exec = Jvm.exec) (hb : c.code = cc) (hr : meth.sig.returnType = some .int) (hlocks : meth.locks = false) (hP : va_P D vwCl w1 H) (hD : va_D A w1) (hK : va_K D vwCl (TY ar) s) (hS : va_S A s.heap H locs) (hdg : decode cc pc = .ok (.ireturn, 1)) (h1 : cells ≤ 1) (h2 : slots ≤ 6) :
    W p l e R s m args below meth c H locs cells slots (MQ below (QI D ar w1 v A) args s 1 6 A) (F0 m pc ls [.int v]) := by
  refine W.widen (k := 1) (n := 6) h1 h2 ?_
  exact W.iret hx hb hr (fun t ht hW => ⟨⟨v, (), rfl, rfl, by rw [ht]; exact hP, va_K.moved hW.alike hK, hD⟩, hS.F ht⟩) hS.2.2 hdg hlocks
theorem sd_lret1 {v : Int64} (hx : p.tables.exec = Jvm.exec) (hb : c.code = cc) (hr : meth.sig.returnType = some .long) (hlocks : meth.locks = false) (hP : va_P D vwCl w1 H) (hD : va_D A w1) (hK : va_K D vwCl (TY ar) s) (hS : va_S A s.heap H locs) (hdg : decode cc pc = .ok (.lreturn, 1)) (h1 : cells ≤ 1) (h2 : slots ≤ 6) :
    W p l e R s m args below meth c H locs cells slots (MQ below (QJ D ar w1 v A) args s 1 6 A) (F0 m pc ls [.long v]) := by
  refine W.widen (k := 1) (n := 6) h1 h2 ?_
  exact W.lret hx hb hr (fun t ht hW => ⟨⟨v, (), rfl, rfl, by rw [ht]; exact hP, va_K.moved hW.alike hK, hD⟩, hS.F ht⟩) hS.2.2 hdg hlocks
theorem sd_throw (hx : p.tables.exec = Jvm.exec) (hb : c.code = cc) (hown : s.vm.findClass "FreeWavelets" = some m.cls) (hts : ∀ w ∈ gt, w.before args s = true) (hZ : ZF A s s.heap) (hS : va_S A s.heap H locs) (hfl : l.flags = flags0) (hno : c.exceptionTable.isEmpty = true) (hml : c.maxLocals = ls.size) (hlocks : meth.locks = false)
    (hP : va_P D vwCl w1 H) (hD : va_D A w1) (hK : va_K D vwCl (TY ar) s)
    {E tx : String} {ic is ii : Nat} (kcl : Cond.classLink "FreeWavelets" ic E ∈ gt) (kin : Cond.instantiable E 6 ∈ gt) (kini : Cond.initialized E ∈ gt) (kstr : Cond.stringRef "FreeWavelets" is tx ∈ lw_tbl) (hfit : Bundle.fit E = true) (hat : (Bundle.ownAtoms "FreeWavelets" ii E exN).all athOK = true)
    (d0 : decode cc pc = .ok (.new ic, 3)) (d3 : decode cc (pc + 3) = .ok (.dup, 1)) (d4 : decode cc (pc + 4) = .ok (.ldc is, 2)) (d6 : decode cc (pc + 6) = .ok (.invokespecial ii, 3)) (d9 : decode cc (pc + 9) = .ok (.athrow, 1))
    (hRf : 6 ≤ R.frames) (hRl : 100 ≤ R.locals) (hRc : 1 ≤ R.cells) (hRs : 6 ≤ R.slots) :
    W p l e R s m args below meth c H locs 0 0 (MQT below (QT D ar w1 E A) args s 1 6 A) (F0 m pc ls []) := by
  refine th_row hx hb hown hts hZ hS hfl hno hml hlocks hS.2.2 kcl kin kini kstr hfit hat d0 d3 d4 d6 d9 hRf hRl hRc hRs (fun t a ce h1 h2 h3 h4 h5 h6 h7 => ?_)
  refine ⟨⟨ce, h2, h4, by rw [h7.alike.findClass]; exact h3⟩, hP.kept (fun k x hx => h5 x.1 ((hP k x hx).lt)), va_K.moved h7.alike hK, hD, Nat.le_trans hS.1 h6, fun q hq hA => ?_⟩
  rw [h5 q (Nat.lt_of_lt_of_le hq hS.1)]
  exact hS.2.1 q hq hA
end FaceRows
