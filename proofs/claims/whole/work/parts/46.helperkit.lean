def hq4 (h : ExceptionTableEntry) : Nat × Nat × Nat × Nat := (h.startPc, h.endPc, h.handlerPc, h.catchType)
section CatchList
variable {s : State} {args : Array Value} {own : String} {k : ClassId} {pc : Nat} {es : List ExceptionTableEntry} {a b hp hp' t : Nat} {r : List (Nat × Nat × Nat × Nat)} {name E : String}
theorem catches_hit (hm : es.map hq4 = (a, b, hp, t) :: r) (hcov : (decide (a ≤ pc) && decide (pc < b)) = true) (ht : t ≠ 0) (hlink : (Cond.classLink own t name).before args s = true) (hk : s.vm.findClass name = some k) (hself : va_Nw (.castable name name) s) : Catches s args own k pc es hp := by
  cases es with
  | nil => cases hm
  | cons x es =>
    rw [List.map_cons, List.cons.injEq] at hm
    obtain ⟨h1, -⟩ := hm
    simp only [hq4, Prod.mk.injEq] at h1
    obtain ⟨e1, e2, e3, e4⟩ := h1
    refine ⟨by simp only [covers, e1, e2]; exact hcov, by rw [e4]; exact ht, name, k, by rw [e4]; exact hlink, hk, Or.inl ⟨?_, e3⟩⟩
    have h := hself
    simp only [va_Nw, Cond.before, Cond.holds, Cond.value, hk] at h
    simpa using h
theorem catches_miss (hm : es.map hq4 = (a, b, hp', t) :: r) (hcov : (decide (a ≤ pc) && decide (pc < b)) = true) (ht : t ≠ 0) (hlink : (Cond.classLink own t name).before args s = true) (hk : s.vm.findClass E = some k) (hno : va_Nc E name s) (ih : ∀ es' : List ExceptionTableEntry, es'.map hq4 = r → Catches s args own k pc es' hp) : Catches s args own k pc es hp := by
  cases es with
  | nil => cases hm
  | cons x es =>
    rw [List.map_cons, List.cons.injEq] at hm
    obtain ⟨h1, h2⟩ := hm
    simp only [hq4, Prod.mk.injEq] at h1
    obtain ⟨e1, e2, e3, e4⟩ := h1
    obtain ⟨c, cT, hc, hT, hf⟩ := hno
    cases hk.symm.trans hc
    exact ⟨by simp only [covers, e1, e2]; exact hcov, by rw [e4]; exact ht, name, cT, by rw [e4]; exact hlink, hT, Or.inr ⟨hf, ih es h2⟩⟩
end CatchList
theorem sd_metW {l : Launch} {y : MethodName} {ws : List Cond} {rm : Room} {D : va_G} {ar : Nat → ClassId} {argv : List Value} {wc w1 : va_W} {v : Int32} {cc : ByteArray} {maxL : Nat} {ret : Option FieldType} {own : String} {hh : List (Nat × Nat × Nat × Nat)} (hy : plainName y.cls = true) (hw : ws = Cond.codeWith y cc maxL ret hh :: gt) (ho : y.cls = own) (hlen : (lg_sl argv).length ≤ maxL)
    (body : ∀ (p : Program) (e : Env) (s : State) (m : MethodId) (below : List Frame) (meth : Method) (c : Code) (A : Nat → Prop) (ls : Array Slot), c.exceptionTable.toList.map hq4 = hh → CX p s m meth c argv.toArray cc maxL ret own D ar A → va_P D vwCl wc s.heap → va_D A wc → lv_has ls maxL (lv_args 0 argv) →
      W p l e rm s m argv.toArray below meth c s.heap [] 0 0 (MQ below (QI D ar w1 v A) argv.toArray s 1 6 A) (F0 m 0 ls [])) : StdI1 l y ws rm D ar argv wc w1 v := by
  intro sz
  refine va_MetW (cc := cc) (maxL := maxL) (ret := ret) (hh := hh) hy hw ?_
  intro p e s m args below meth c s₁ B hml hv
  obtain ⟨rfl, hsz, hP, hK, hD0, hZ⟩ := hv
  have hown : s.vm.findClass own = some m.cls := ho ▸ findClass_of_methodNamed B.named
  have hws := atoms_spec (ws := ws) B.pre
  have hts : ∀ w ∈ gt, w.before argv.toArray s = true := fun w h => hws w (by rw [hw]; exact List.mem_cons_of_mem _ h)
  obtain ⟨m9, meth9, c9, hn9, h1, h2, -, -, htab, -, -, -⟩ := Cond.codeWith_spec (hws (Cond.codeWith y cc maxL ret hh) (by rw [hw]; exact List.mem_cons_self))
  cases B.named.symm.trans hn9
  cases B.method.symm.trans h1
  cases (Stand.of_body B).code.symm.trans h2
  subst hsz
  have hl := lv_entry argv (n := maxL) hlen
  rw [lg_entry_eq]
  exact body p e s m below meth c (va_A wc s.heap.size) _ htab ⟨B.exec, B.bytes, B.returns, hml, hown, hts, B.notSynchronized, fun q h => Or.inr h, hK, hZ⟩ hP hD0.self hl
section HelpRows
variable {p : Program} {l : Launch} {e : Env} {R : Room} {s : State} {m : MethodId} {args : Array Value} {below : List Frame} {meth : Method} {c : Code} {H : Heap} {locs : List Loc} {cells slots : Nat} {Q : State → Prop} {cc : ByteArray} {D : va_G} {ar : Nat → ClassId} {A : Nat → Prop} {w1 ws wc wr : va_W} {pc : Nat} {ls : Array Slot} {st0 rest : List Value} {a : Array Value}
theorem sd_i1 {v : Int32} (hr : va_Run p l e R s m args below meth c H locs cells slots 1 6 (F0 m pc ls st0) rest (QI D ar w1 v (va_A wc H.size) a) (va_A wc H.size)) (hP : va_P D vwCl ws H) (hD : va_D A ws) (hS : va_S A s.heap H locs) (hA : ∀ q : Nat, s.heap.size ≤ q → A q) (isC isR : List Nat) (hC : isC.map (fun i => ws[i]?) = wc.map some) (hR : isR.map (fun i => ws[i]?) = wr.map some) (hn : va_nd isR = true) (hdis : ∀ i ∈ isR, i ∉ isC)
    (kk : ∀ (H1 : Heap) (locs1 : List Loc), va_P D vwCl (wr ++ w1) H1 → va_D A (wr ++ w1) → va_S A s.heap H1 locs1 → W p l e R s m args below meth c H1 locs1 (cells + 1) (slots + 6) Q (F0 m (pc + 3) ls (.int v :: rest))) : W p l e R s m args below meth c H locs cells slots Q (F0 m pc ls st0) := by
  have hFc := va_free hD hS hA isC hC
  refine va_calli hr hS (fun q _ h => hFc q h) hFc (fun r u t H1 locs1 ht hvm hw hB hz1 hk1 hS1 => ?_)
  obtain ⟨hP1, hK1, hD1⟩ := hB
  rw [ht] at hP1
  obtain ⟨hP2, hD2⟩ := va_join hP hD isC isR hC hR hn hdis hk1 hFc hP1 hD1
  have hw : r = v := hw
  subst hw
  exact kk H1 locs1 hP2 hD2 hS1
theorem sd_j1 {v : Int64} (hr : va_Run p l e R s m args below meth c H locs cells slots 1 6 (F0 m pc ls st0) rest (QJ D ar w1 v (va_A wc H.size) a) (va_A wc H.size)) (hP : va_P D vwCl ws H) (hD : va_D A ws) (hS : va_S A s.heap H locs) (hA : ∀ q : Nat, s.heap.size ≤ q → A q) (isC isR : List Nat) (hC : isC.map (fun i => ws[i]?) = wc.map some) (hR : isR.map (fun i => ws[i]?) = wr.map some) (hn : va_nd isR = true) (hdis : ∀ i ∈ isR, i ∉ isC)
    (kk : ∀ (H1 : Heap) (locs1 : List Loc), va_P D vwCl (wr ++ w1) H1 → va_D A (wr ++ w1) → va_S A s.heap H1 locs1 → W p l e R s m args below meth c H1 locs1 (cells + 1) (slots + 6) Q (F0 m (pc + 3) ls (.long v :: rest))) : W p l e R s m args below meth c H locs cells slots Q (F0 m pc ls st0) := by
  have hFc := va_free hD hS hA isC hC
  refine va_calll hr hS (fun q _ h => hFc q h) hFc (fun r u t H1 locs1 ht hvm hw hB hz1 hk1 hS1 => ?_)
  obtain ⟨hP1, hK1, hD1⟩ := hB
  rw [ht] at hP1
  obtain ⟨hP2, hD2⟩ := va_join hP hD isC isR hC hR hn hdis hk1 hFc hP1 hD1
  have hw : r = v := hw
  subst hw
  exact kk H1 locs1 hP2 hD2 hS1
set_option maxHeartbeats 4000000 in
/-- a call that throws, and a handler of the method takes it -/
theorem sd_t {y : MethodName} {rm : Room} {E own C : String} {index n maxL nL hpc : Nat} {bytes : ByteArray} {ret : Option FieldType} {wsy : List Cond} {b : Addr} {As : List Value}
    (S : CallFix p m c cc nL s args gt own) (hM : StdT l y wsy rm D ar (.ref b :: As) wc w1 E) (cw : CallW R s args own C index y bytes maxL ret wsy rm 1 6 n) (hp : PreV s H C b (StdPc D ar (.ref b :: As) wc H.size) As)
    (hn0 : As.length = n) (hsize : ls.size = nL) (hstack : st0 = As.reverse ++ .ref b :: rest) (hW : (rest.map fun v => v.category).sum ≤ 8) (hdg : decode cc pc = .ok (.invokevirtual index, 3)) (hf : cells + 1 ≤ R.cells ∧ slots + 6 ≤ R.slots)
    (hP : va_P D vwCl ws H) (hD : va_D A ws) (hS : va_S A s.heap H locs) (hA : ∀ q : Nat, s.heap.size ≤ q → A q) (isC isR : List Nat) (hC : isC.map (fun i => ws[i]?) = wc.map some) (hR : isR.map (fun i => ws[i]?) = wr.map some) (hn : va_nd isR = true) (hdis : ∀ i ∈ isR, i ∉ isC)
    (hcat : ∀ k : ClassId, s.vm.findClass E = some k → Catches s args own k pc c.exceptionTable.toList hpc)
    (kk : ∀ (x : Nat) (H1 : Heap) (locs1 : List Loc), va_P D vwCl (wr ++ w1) H1 → va_D A (wr ++ w1) → va_S A s.heap H1 locs1 → W p l e R s m args below meth c H1 locs1 (cells + 1) (slots + 6) Q (F0 m hpc ls [.ref x])) : W p l e R s m args below meth c H locs cells slots Q (F0 m pc ls st0) := by
  obtain ⟨⟨hrc, hrs, hfr, hlo, hws, hcw, hcode, hini, hy, hlen, hl⟩, hin, hse⟩ := cw
  obtain ⟨hx, hb, hml, ho, -⟩ := S
  obtain ⟨hbl, ⟨cellB, hcB, hoB, hclB⟩, hPc⟩ := hp
  intro T hT X
  obtain ⟨mk, methM, hnamed, hmethM, hstM, habM⟩ := Cond.instanceMethod_spec hin
  obtain ⟨methM', cM, hmethM', -, -, -, -, -, -, hsigM⟩ := Cond.code_spec hnamed hcode
  cases hmethM.symm.trans hmethM'
  obtain ⟨c2, r2, m2, q1, q2, q3, q4, kP, hkP, hkPi⟩ := Cond.selects_spec hse
  cases hclB.symm.trans q1
  cases (State.methodFound?_of_named hnamed hy).symm.trans q2
  cases hnamed.symm.trans q3
  have hselP : selectMethod e.platform s.vm cellB.cls mk = .method mk := by rw [Launch.admits_selectMethod X.admits]; exact q4
  obtain ⟨vm₁, X₁, hstep₁⟩ := X.invokevirtual hx ho hl hnamed hmethM hstM hkP hkPi hy (a := b) (cell := cellB) (by rw [hT]; exact hcB)
    (fun z h => by rw [h] at hoB; cases hoB) hselP hmethM habM hkP hkPi (g := F0 m pc ls st0) rfl (argsL := As) (rest := rest) (hn0.trans (hlen _ hsigM)) hstack (by rw [hb]; exact hdg)
  obtain ⟨x, t, T', L, X', hL, e1, e2, hq, hsteps⟩ := back_T (Wd := 8) (bytes := bytes) (maxL := maxL) (ret := ret) (hM H.size) hbl hrc hrs hfr hlo hws hcw (fun a' U hW => word_at hW (Or.inl (by first | rfl | simp [Cond.onTables, Cond.keeps, Cond.steady])) hini) X₁ (g := { (F0 m pc ls st0) with stack := rest }) rfl (hsize.trans hml.symm) (by rw [hb]; exact hdg) (by show 2 * 0 + (rest.map fun v => v.category).sum ≤ 8; omega) (X₁.named hnamed) (a := (Value.ref b :: As).toArray) hf.1 hf.2 (hPc (T.setVm vm₁) hT X₁.warmed)
  obtain ⟨⟨ce, hce, hcv, hcE⟩, hP1, hK1, hD1, hz, hk⟩ := hq
  have hal := X'.warmed.alike
  have hE : s.vm.findClass E = some ce.cls := by rw [← e2] at hcE; rw [← hal.findClass]; exact hcE
  have hFc := va_free hD hS hA isC hC
  obtain ⟨vm', X'', hgo⟩ := st_go (g := { (F0 m pc ls st0) with stack := rest }) rfl ho (a := x) (cell := ce) (by rw [hcv]; rfl) (Vm.classAt_of_findClass hE) c.exceptionTable.toList hpc (hcat ce.cls hE) T' X' (by rw [e1]; exact hce)
  have hHs : (T.setVm vm₁).heap = H := hT
  have hz : H.size ≤ t.heap.size := by rw [← hHs]; exact hz
  have hk : ∀ q : Nat, q < H.size → ¬ va_A wc H.size q → t.heap[q]? = H[q]? := fun q h1 h2 => by rw [← hHs]; exact hk q (by rw [← hHs] at h1; exact h1) h2
  obtain ⟨hP2, hD2⟩ := va_join hP hD isC isR hC hR hn hdis hk hFc hP1 hD1
  have hS2 : va_S A s.heap t.heap (locs ++ L) := ⟨Nat.le_trans hS.1 hz, fun q h1 h2 => by
    rw [hk q (Nat.lt_of_lt_of_le h1 hS.1) (fun z => h2 (hFc q z))]; exact hS.2.1 q h1 h2, fun q hq => by
      rcases List.mem_append.mp hq with h | h
      · exact hS.2.2 q h
      · exact hFc _ (hL q h)⟩
  obtain ⟨tg, g1, g2⟩ := kk x t.heap (locs ++ L) hP2 hD2 hS2 (T'.setVm vm') e1 X''
  refine ⟨tg, hstep₁ _ fun acts => ?_, g2⟩
  rw [doInvoke_state]
  exact hsteps.trans (st_caught X' (g := { (F0 m pc ls st0) with stack := rest }) rfl hgo g1)
end HelpRows
