def MQT (below : List Frame) (Qt : Array Value → State → Nat → State → Prop) (a : Array Value) (s : State) (mc ms : Nat) (free : Addr → Prop) : State → Prop := fun t =>
  ∃ x : Nat, t.status = .running ∧ Ended t below (.threw x) ∧ Qt a s x t ∧ s.WarmedH t.vm ∧ ∃ L, s.sameButNew ({ t with vm := s.vm } : State) L mc ms ∧ ∀ q ∈ L, free q.base
/-- a contract of a call that throws -/
def MetT (l : Launch) (y : MethodName) (ws : List Cond) (rm : Room) (Pc : Array Value → State → Prop) (Qt : Array Value → State → Nat → State → Prop) (mc ms : Nat) (free : Addr → Prop) : Prop :=
  MetFree l y (headSpec ws rm) Pc (fun _ _ _ _ _ => True) (fun a st o t => ∃ x : Nat, o = .threw x ∧ Qt a st x t ∧ st.WarmedH t.vm ∧ ∃ L, st.sameButNew ({ t with vm := st.vm } : State) L mc ms ∧ ∀ q ∈ L, free q.base)
theorem MetT.ofW {l : Launch} {y : MethodName} {ws ws' : List Cond} {rm : Room} {Pc : Array Value → State → Prop} {Qt : Array Value → State → Nat → State → Prop} {mc ms : Nat} {free : Addr → Prop} {cc : ByteArray} {maxL : Nat} {ret : Option FieldType}
    (hy : plainName y.cls = true) (hw : ws = Cond.code y cc maxL ret :: ws')
    (body : ∀ p e s m args below meth c s₁, BodyLoose p l y (headSpec ws rm) cc maxL ret e s m args below meth c s₁ → c.maxLocals = maxL → Pc args s →
      W p l e (headSpec ws rm).room s m args below meth c s.heap [] 0 0 (MQT below Qt args s mc ms free) (entryFrame m args maxL)) : MetT l y ws rm Pc Qt mc ms free := by
  refine MetFree.of_bodyS (code := cc) (maxLocals := maxL) (ret := ret) hy ?_ ?_
  · intro args s m h hn
    obtain ⟨meth, c, h1, h2, h3, h4, h5, h6, -, -⟩ := Cond.code_spec hn (atoms_spec (ws := ws) h _ (by rw [hw]; exact List.mem_cons_self))
    exact ⟨meth, c, h1, h2, h3, h4, h5, h6⟩
  · intro p e s m args below meth c s₁ B hml hP _
    have hh0 : s₁.heap = s.heap := by rw [B.state]; rfl
    obtain ⟨t, a1, x, b1, b2, b3⟩ := body p e s m args below meth c s₁ B hml hP s₁ hh0 (Stand.of_body B)
    exact ⟨t, .threw x, a1, b1, b2, x, rfl, b3⟩
/-- the method's state anew: as if it had been called where it now stands (nothing new has been made so far) -/
theorem re_base {p : Program} {l : Launch} {e : Env} {R : Room} {s : State} {m : MethodId} {args : Array Value} {below : List Frame} {meth : Method} {c : Code} {T : State} {locs : List Loc}
    (X : Stand p l e R s m args below meth c T locs 0 0) : Stand p l e R (T.setFrames (.invoking m args :: below)) m args below meth c T [] 0 0 := by
  obtain ⟨g₀, hr⟩ := X.frames_eq
  obtain ⟨th, hth, -⟩ := State.frames_cons hr
  have hcur : T.cur < T.threads.size := (Array.getElem?_eq_some_iff.mp hth).1
  have hfr : (T.setFrames (.invoking m args :: below)).frames = .invoking m args :: below := State.frames_setFrames _ hcur
  have hal := X.warmed.alike
  have hmeth : T.vm.method? m = some meth := by rw [hal.method?]; exact X.method
  have hloc : (T.setFrames (.invoking m args :: below)).localsInUse = s.localsInUse := by
    simp only [State.localsInUse, hfr, X.frames]
    show stackWeight (.invoking m args :: below) + (((T.vm.method? m).bind (·.code)).map (·.maxLocals)).getD 0 + 11 = stackWeight (.invoking m args :: below) + (((s.vm.method? m).bind (·.code)).map (·.maxLocals)).getD 0 + 11
    rw [hal.method?]
  have hroom : (T.setFrames (.invoking m args :: below)).hasRoom e.platform R = true := by
    have h := X.room
    have hsz := X.heapSize
    have hus := X.used
    have hbk := X.book
    simp only [State.hasRoom, Bool.and_eq_true, decide_eq_true_eq] at h ⊢
    obtain ⟨⟨⟨⟨h1, h2, h3, h4, h5, h6⟩, h7⟩, h8⟩, h9⟩ := h
    rw [hloc, hfr, State.stackLimits_setFrames, State.stackBytes_setFrames, X.limits, X.bytes]
    rw [X.frames] at h2 h3
    refine ⟨⟨⟨⟨h1, h2, h3, h4, h5, h6⟩, ?_⟩, ?_⟩, hbk⟩
    · show T.heap.size + R.cells ≤ _
      omega
    · show T.slotsUsed + R.slots ≤ _
      omega
  have hhears : (T.setFrames (.invoking m args :: below)).hears m below = true := by
    have h := X.hears
    cases below with
    | nil => simp only [State.hears] at h ⊢; show (T.vm.method? m).any _ = true; rw [hal.method?]; exact h
    | cons f r =>
      cases f <;> simp only [State.hears] at h ⊢ <;> first | rfl | (show (T.vm.method? m).any _ = true; rw [hal.method?]; exact h) | (rw [State.code?_eq] at h ⊢; show ((Option.bind (T.vm.method? _) _).bind _).isSome = true; rw [hal.method?]; exact h)
  refine ⟨X.admits, X.cas, X.clock, hfr, hroom, hhears, hmeth, X.code, X.here, X.tail, State.WarmedH.refl _, ?_, ?_, ?_⟩
  · rw [State.stackLimits_setFrames]
  · rw [State.stackBytes_setFrames]
  · refine ⟨?_, Nat.le_refl _, Nat.le_refl _, ?_, ?_, ?_⟩
    · show T = { (T.setFrames (.invoking m args :: below)).setFrames T.frames with heap := T.heap, slotsUsed := T.slotsUsed }
      rw [State.setFrames_setFrames, State.setFrames_self hth]
    · show T.slotsUsed = T.slotsUsed + ((T.heap.toList.drop T.heap.size).map _).sum
      rw [List.drop_eq_nil_of_le (by simp)]; rfl
    · show ((T.heap.toList.drop T.heap.size).map _).sum ≤ 0
      rw [List.drop_eq_nil_of_le (by simp)]; exact Nat.le_refl _
    · intro a cl h
      exact ⟨cl, h, rfl, rfl, fun _ _ => rfl⟩
/-- what the statics of Throwable hold is a reference or null -/
theorem zq_isRef {C n d : String} {A : Nat → Prop} {U : State} {args : Array Value} (h : va_Zq C n d A U U.heap) : (Cond.isRef (.static C n d)).before args U = true := by
  have key : ∀ v : Value, va_Z C n d v A U U.heap → (Term.static C n d).eval args U none [] U = some v := by
    intro v hz
    obtain ⟨cf, kf, fi, f, a, cell, h1, h2, h3, h4, h5, h6, h7, h8⟩ := hz
    simp [Term.eval, State.fieldNamed?, h1, h2, h4, h5, h6, h7]
  rcases h with h | ⟨t, h⟩
  · simp [Cond.before, Cond.holds, Cond.value, key _ h]
  · simp [Cond.before, Cond.holds, Cond.value, key _ h]
def athOK (a : Cond) : Bool := decide (a ∈ gt) || (nwok a && decide (a ∈ lw_tbl)) || decide (a = Cond.isRef (.static "java/lang/Throwable" "UNASSIGNED_STACK" "[Ljava/lang/StackTraceElement;")) || decide (a = Cond.isRef (.static "java/lang/Throwable" "SUPPRESSED_SENTINEL" "Ljava/util/List;")) || decide (a = Cond.laysStatic "java/lang/Throwable" "UNASSIGNED_STACK" "[Ljava/lang/StackTraceElement;") || decide (a = Cond.laysStatic "java/lang/Throwable" "SUPPRESSED_SENTINEL" "Ljava/util/List;")
theorem nw_tab {w : Cond} (hw : nwok w = true) : w.onTables = true := by
  cases w <;> first | rfl | cases hw
theorem ath_at {s U : State} {args : Array Value} {A : Nat → Prop} (hW : s.WarmedH U.vm) (hts : ∀ w ∈ gt, w.before args s = true) (hZ : ZF A U U.heap) {a : Cond} (h : athOK a = true) : a.before args U = true := by
  simp only [athOK, Bool.or_eq_true, Bool.and_eq_true, decide_eq_true_eq] at h
  rcases h with ((((h | ⟨h1, h2⟩) | h) | h) | h) | h
  · exact word_at hW (good_of_word (List.mem_filter.mp h).2) (hts a h)
  · exact va_Nw.use (nw_tab h1) (hZ.nw h2 h1)
  · rw [h]; exact zq_isRef hZ.2.1
  · rw [h]; exact zq_isRef hZ.2.2.1
  · rw [h]; exact LZs.back hZ.2.2.2.2.2.2.1
  · rw [h]; exact LZs.back hZ.2.2.2.2.2.2.2
def exN : List String := ["java/lang/RuntimeException", "java/lang/Exception"]
set_option maxHeartbeats 4000000 in
/-- 'throw new E("..")' where nothing catches it -/
theorem th_row {p : Program} {l : Launch} {e : Env} {R : Room} {s : State} {m : MethodId} {args : Array Value} {below : List Frame} {meth : Method} {c : Code} {H : Heap} {locs : List Loc} {cc : ByteArray} {A : Nat → Prop} {Qt : Array Value → State → Nat → State → Prop} {free : Addr → Prop} {pc : Nat} {ls : Array Slot}
    (hx : p.tables.exec = Jvm.exec) (hb : c.code = cc) (hown : s.vm.findClass "FreeWavelets" = some m.cls) (hts : ∀ w ∈ gt, w.before args s = true) (hZ : ZF A s s.heap) (hS : va_S A s.heap H locs) (hfl : l.flags = flags0) (hno : c.exceptionTable.isEmpty = true) (hml : c.maxLocals = ls.size) (hlocks : meth.locks = false) (hloc : ∀ x ∈ locs, free x.base)
    {E tx : String} {ic is ii : Nat} (kcl : Cond.classLink "FreeWavelets" ic E ∈ gt) (kin : Cond.instantiable E 6 ∈ gt) (kini : Cond.initialized E ∈ gt) (kstr : Cond.stringRef "FreeWavelets" is tx ∈ lw_tbl) (hfit : Bundle.fit E = true) (hat : (Bundle.ownAtoms "FreeWavelets" ii E exN).all athOK = true)
    (d0 : decode cc pc = .ok (.new ic, 3)) (d3 : decode cc (pc + 3) = .ok (.dup, 1)) (d4 : decode cc (pc + 4) = .ok (.ldc is, 2)) (d6 : decode cc (pc + 6) = .ok (.invokespecial ii, 3)) (d9 : decode cc (pc + 9) = .ok (.athrow, 1))
    (hRf : 6 ≤ R.frames) (hRl : 100 ≤ R.locals) (hRc : 1 ≤ R.cells) (hRs : 6 ≤ R.slots)
    (hq : ∀ (t : State) (a : Nat) (ce : Cell), H.size ≤ a → t.heap[a]? = some ce → s.vm.findClass E = some ce.cls → ce.vm = .none → (∀ q : Nat, q < H.size → t.heap[q]? = H[q]?) → H.size ≤ t.heap.size → s.WarmedH t.vm → Qt args s a t) :
    W p l e R s m args below meth c H locs 0 0 (MQT below Qt args s 1 6 free) (F0 m pc ls []) := by
  intro T hT X
  have X2 := re_base X
  have hW2 : s.WarmedH (T.setFrames (.invoking m args :: below)).vm := X.warmed
  generalize hs2 : T.setFrames (.invoking m args :: below) = s2 at X2 hW2
  have hh2 : s2.heap = T.heap := by rw [← hs2]; rfl
  have hZ2 : ZF A s2 s2.heap := by
    rw [hh2, hT]
    exact ZF.warm hW2 (ZF.kept hZ (fun a h1 h2 => hS.2.1 a h1 h2))
  have hts2 : ∀ w ∈ gt, w.before args s2 = true := fun w h => word_at hW2 (good_of_word (List.mem_filter.mp h).2) (hts w h)
  have hown2 : s2.vm.findClass "FreeWavelets" = some m.cls := by rw [hW2.alike.findClass]; exact hown
  obtain ⟨cE, -, -, hfE⟩ : ∃ cE : ClassId, True ∧ True ∧ s2.vm.findClass E = some cE := by
    have h := hts2 _ kini
    simp only [Cond.before, Cond.holds, Cond.value] at h
    cases hc : s2.vm.findClass E with
    | none => simp [hc] at h
    | some cE => exact ⟨cE, trivial, trivial, rfl⟩
  obtain ⟨aS, hstr⟩ := hZ2.2.2.2.2.1 is tx kstr
  have htr : e.platform.stackTraces = false := by
    rw [X.admits.platform]
    show l.stackTraces = false
    unfold Launch.stackTraces
    rw [hfl]
    decide +kernel
  have K : W p l e R s2 m args below meth c s2.heap [] 0 0 (fun U => ∃ a ce, U.status = .running ∧ Ended U below (.threw a) ∧ s2.WarmedH U.vm ∧ s2.sameButNew ({ U with vm := s2.vm } : State) [] 1 6 ∧ s2.heap.size ≤ a ∧ U.heap[a]? = some ce ∧ s2.vm.findClass E = some ce.cls ∧ ce.vm = .none) (F0 m pc ls []) := by
    refine W.newcK (g := F0 m pc ls []) hx hb hown2 (hts2 _ kcl) (hts2 _ kin) (hts2 _ kini) rfl d0 (by omega) (by omega) hfE rfl fun H1 kC hkC e1 z1 o1 => ?_
    refine W.eq (g2 := F0 m (pc + 3) ls [.ref s2.heap.size]) rfl ?_
    refine lv_dup hx hb d3 rfl ?_
    refine va_ldcS (tx := tx) (q := aS) hx hb hown2 hstr d4 ?_
    intro T3 hT3 X3
    obtain ⟨U, u1, u2, u3, u4, u5, ce, u6, u7⟩ := X3.ctorThrowS hx htr (own := "FreeWavelets") (cls := E) (names := exN) (ic := ii) hown2 hfit (by decide +kernel) (fun a h => ath_at (State.WarmedH.refl s2) hts2 hZ2 (List.all_eq_true.mp hat a h)) (fun x h => absurd h List.not_mem_nil) (a := s2.heap.size) (cX := cE) (kX := kC) hfE hkC (by rw [hT3]; exact e1) (Nat.le_refl _) (msg := .ref aS) rfl (g := F0 m (pc + 6) ls [.ref aS, .ref s2.heap.size, .ref s2.heap.size]) rfl hml.symm rfl rfl (rest := []) rfl (by rw [hb]; exact d6) (by rw [hb]; exact d9) (fun x h => by have h2 := Array.isEmpty_iff.mp hno; rw [h2] at h; cases h) (by show 2 + 3 < R.frames; omega) (by show 2 * 0 + _ + _ ≤ R.locals; simp [exN, Value.category]; omega) hlocks
    exact ⟨U, u1, s2.heap.size, ce, u2, u3, u4, u5, Nat.le_refl _, u6, u7.cls, u7.vm⟩
  obtain ⟨U, u0, a, ce, u1, u2, u3, u4, u5, u6, u7, u8⟩ := K T hh2.symm X2
  have hWU : s.WarmedH U.vm := State.WarmedH.trans (t := s2) hW2 u3
  have hsz : H.size = s2.heap.size := by rw [hh2, hT]
  refine ⟨U, u0, a, u1, u2, hq U a ce (by rw [hsz]; exact u5) u6 ((hW2.alike.findClass _ _).symm.trans u7) u8 (fun q h => ?_) (by rw [hsz]; exact u4.2.1) hWU, hWU, locs, ?_, hloc⟩
  · have h1 : q < s2.heap.size := by rw [← hsz]; exact h
    obtain ⟨c1, hc1⟩ : ∃ c1, s2.heap[q]? = some c1 := ⟨_, Array.getElem?_eq_getElem h1⟩
    have h2 := u4.old_cell hc1
    have h3 : U.heap[q]? = some c1 := h2
    rw [h3, ← hT, ← hh2, hc1]
  · have h1 : T.sameButNew (U.setVm T.vm) [] 1 6 := by
      have hv : s2.vm = T.vm := by rw [← hs2]; rfl
      have h2 := u4
      rw [← hs2] at h2
      refine ⟨?_, h2.2⟩
      have h3 := h2.1
      rw [State.setFrames_setFrames] at h3
      exact h3
    have h2 := X.same.trans (h1.setVm s.vm)
    rw [List.append_nil] at h2
    exact h2.mono (by omega) (by omega)
