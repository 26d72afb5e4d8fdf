-- ===== PART A: goes FIRST, ahead of the names: the tables' words, and 'selects' of the private methods out of them =====
/-- a private method of a class that the tables say can be made, by its rows of tables_1 -/
def lw_okq (q : MethodName × Nat) : Prop := (q.1.cls ≠ "java/lang/invoke/MethodHandle" ∧ q.1.cls ≠ "java/lang/invoke/VarHandle") ∧ Cond.instantiable q.1.cls q.2 ∈ tables_1 ∧ Cond.privateMethod q.1 ∈ tables_1 ∧ Cond.instanceMethod q.1 ∈ tables_1
theorem lw_p0 : lw_okq (⟨"FreeWavelets$Shape", "spread", "(I)V"⟩, 9) := ⟨⟨by decide +kernel, by decide +kernel⟩, List.mem_of_getElem? (i := 37) (by decide +kernel), List.mem_of_getElem? (i := 251) (by decide +kernel), List.mem_of_getElem? (i := 252) (by decide +kernel)⟩
theorem lw_p1 : lw_okq (⟨"FreeWavelets$Shape", "join", "(II)I"⟩, 9) := ⟨⟨by decide +kernel, by decide +kernel⟩, List.mem_of_getElem? (i := 37) (by decide +kernel), List.mem_of_getElem? (i := 255) (by decide +kernel), List.mem_of_getElem? (i := 256) (by decide +kernel)⟩
theorem lw_p2 : lw_okq (⟨"FreeWavelets$Lifting", "sweep", "(IZII)V"⟩, 2) := ⟨⟨by decide +kernel, by decide +kernel⟩, List.mem_of_getElem? (i := 90) (by decide +kernel), List.mem_of_getElem? (i := 319) (by decide +kernel), List.mem_of_getElem? (i := 320) (by decide +kernel)⟩
theorem lw_p3 : lw_okq (⟨"FreeWavelets$Lifting", "change", "(IIIII)I"⟩, 2) := ⟨⟨by decide +kernel, by decide +kernel⟩, List.mem_of_getElem? (i := 90) (by decide +kernel), List.mem_of_getElem? (i := 324) (by decide +kernel), List.mem_of_getElem? (i := 325) (by decide +kernel)⟩
theorem lw_p4 : lw_okq (⟨"FreeWavelets", "headBits", "()I"⟩, 11) := ⟨⟨by decide +kernel, by decide +kernel⟩, List.mem_of_getElem? (i := 23) (by decide +kernel), List.mem_of_getElem? (i := 339) (by decide +kernel), List.mem_of_getElem? (i := 340) (by decide +kernel)⟩
theorem lw_p5 : lw_okq (⟨"FreeWavelets", "toldOfSeen", "(I)I"⟩, 11) := ⟨⟨by decide +kernel, by decide +kernel⟩, List.mem_of_getElem? (i := 23) (by decide +kernel), List.mem_of_getElem? (i := 405) (by decide +kernel), List.mem_of_getElem? (i := 406) (by decide +kernel)⟩
theorem lw_p6 : lw_okq (⟨"java/lang/Throwable", "fillInStackTrace", "(I)Ljava/lang/Throwable;"⟩, 6) := ⟨⟨by decide +kernel, by decide +kernel⟩, List.mem_of_getElem? (i := 477) (by decide +kernel), List.mem_of_getElem? (i := 475) (by decide +kernel), List.mem_of_getElem? (i := 476) (by decide +kernel)⟩
theorem lw_p7 : lw_okq (⟨"FreeWavelets$Walk", "measure", "()V"⟩, 7) := ⟨⟨by decide +kernel, by decide +kernel⟩, List.mem_of_getElem? (i := 198) (by decide +kernel), List.mem_of_getElem? (i := 562) (by decide +kernel), List.mem_of_getElem? (i := 563) (by decide +kernel)⟩
theorem lw_p8 : lw_okq (⟨"FreeWavelets$Walk", "greatestBelow", "(III)I"⟩, 7) := ⟨⟨by decide +kernel, by decide +kernel⟩, List.mem_of_getElem? (i := 198) (by decide +kernel), List.mem_of_getElem? (i := 572) (by decide +kernel), List.mem_of_getElem? (i := 573) (by decide +kernel)⟩
theorem lw_p9 : lw_okq (⟨"FreeWavelets$Walk", "goThrough", "(III)V"⟩, 7) := ⟨⟨by decide +kernel, by decide +kernel⟩, List.mem_of_getElem? (i := 198) (by decide +kernel), List.mem_of_getElem? (i := 577) (by decide +kernel), List.mem_of_getElem? (i := 578) (by decide +kernel)⟩
theorem lw_p10 : lw_okq (⟨"FreeWavelets$Walk", "opens", "(II)Z"⟩, 7) := ⟨⟨by decide +kernel, by decide +kernel⟩, List.mem_of_getElem? (i := 198) (by decide +kernel), List.mem_of_getElem? (i := 581) (by decide +kernel), List.mem_of_getElem? (i := 582) (by decide +kernel)⟩
theorem lw_p11 : lw_okq (⟨"FreeWavelets$Walk", "learn", "(IZ)V"⟩, 7) := ⟨⟨by decide +kernel, by decide +kernel⟩, List.mem_of_getElem? (i := 198) (by decide +kernel), List.mem_of_getElem? (i := 586) (by decide +kernel), List.mem_of_getElem? (i := 587) (by decide +kernel)⟩
theorem lw_p12 : lw_okq (⟨"FreeWaveletsModel", "isSample", "(II)Z"⟩, 26) := ⟨⟨by decide +kernel, by decide +kernel⟩, List.mem_of_getElem? (i := 736) (by decide +kernel), List.mem_of_getElem? (i := 829) (by decide +kernel), List.mem_of_getElem? (i := 830) (by decide +kernel)⟩
theorem lw_p13 : lw_okq (⟨"FreeWaveletsModel", "makeWaves", "()I"⟩, 26) := ⟨⟨by decide +kernel, by decide +kernel⟩, List.mem_of_getElem? (i := 736) (by decide +kernel), List.mem_of_getElem? (i := 842) (by decide +kernel), List.mem_of_getElem? (i := 843) (by decide +kernel)⟩
theorem lw_p14 : lw_okq (⟨"FreeWaveletsModel", "number", "([Z[I)I"⟩, 26) := ⟨⟨by decide +kernel, by decide +kernel⟩, List.mem_of_getElem? (i := 736) (by decide +kernel), List.mem_of_getElem? (i := 846) (by decide +kernel), List.mem_of_getElem? (i := 847) (by decide +kernel)⟩
theorem lw_p15 : lw_okq (⟨"FreeWaveletsModel", "begin", "(II)V"⟩, 26) := ⟨⟨by decide +kernel, by decide +kernel⟩, List.mem_of_getElem? (i := 736) (by decide +kernel), List.mem_of_getElem? (i := 868) (by decide +kernel), List.mem_of_getElem? (i := 869) (by decide +kernel)⟩
def lw_privs_1 : List (MethodName × Nat) := [(⟨"FreeWavelets$Shape", "spread", "(I)V"⟩, 9), (⟨"FreeWavelets$Shape", "join", "(II)I"⟩, 9), (⟨"FreeWavelets$Lifting", "sweep", "(IZII)V"⟩, 2), (⟨"FreeWavelets$Lifting", "change", "(IIIII)I"⟩, 2), (⟨"FreeWavelets", "headBits", "()I"⟩, 11), (⟨"FreeWavelets", "toldOfSeen", "(I)I"⟩, 11), (⟨"java/lang/Throwable", "fillInStackTrace", "(I)Ljava/lang/Throwable;"⟩, 6), (⟨"FreeWavelets$Walk", "measure", "()V"⟩, 7), (⟨"FreeWavelets$Walk", "greatestBelow", "(III)I"⟩, 7), (⟨"FreeWavelets$Walk", "goThrough", "(III)V"⟩, 7), (⟨"FreeWavelets$Walk", "opens", "(II)Z"⟩, 7), (⟨"FreeWavelets$Walk", "learn", "(IZ)V"⟩, 7), (⟨"FreeWaveletsModel", "isSample", "(II)Z"⟩, 26), (⟨"FreeWaveletsModel", "makeWaves", "()I"⟩, 26), (⟨"FreeWaveletsModel", "number", "([Z[I)I"⟩, 26), (⟨"FreeWaveletsModel", "begin", "(II)V"⟩, 26)]
theorem lw_r1 : ∀ q ∈ lw_privs_1, lw_okq q := List.forall_mem_cons.mpr ⟨lw_p0, List.forall_mem_cons.mpr ⟨lw_p1, List.forall_mem_cons.mpr ⟨lw_p2, List.forall_mem_cons.mpr ⟨lw_p3, List.forall_mem_cons.mpr ⟨lw_p4, List.forall_mem_cons.mpr ⟨lw_p5, List.forall_mem_cons.mpr ⟨lw_p6, List.forall_mem_cons.mpr ⟨lw_p7, List.forall_mem_cons.mpr ⟨lw_p8, List.forall_mem_cons.mpr ⟨lw_p9, List.forall_mem_cons.mpr ⟨lw_p10, List.forall_mem_cons.mpr ⟨lw_p11, List.forall_mem_cons.mpr ⟨lw_p12, List.forall_mem_cons.mpr ⟨lw_p13, List.forall_mem_cons.mpr ⟨lw_p14, List.forall_mem_cons.mpr ⟨lw_p15, fun _ h => absurd h List.not_mem_nil⟩⟩⟩⟩⟩⟩⟩⟩⟩⟩⟩⟩⟩⟩⟩⟩
theorem lw_p16 : lw_okq (⟨"FreeWaveletsModel", "tellHead", "()V"⟩, 26) := ⟨⟨by decide +kernel, by decide +kernel⟩, List.mem_of_getElem? (i := 736) (by decide +kernel), List.mem_of_getElem? (i := 872) (by decide +kernel), List.mem_of_getElem? (i := 873) (by decide +kernel)⟩
theorem lw_p17 : lw_okq (⟨"FreeWaveletsModel", "tell", "(II)Z"⟩, 26) := ⟨⟨by decide +kernel, by decide +kernel⟩, List.mem_of_getElem? (i := 736) (by decide +kernel), List.mem_of_getElem? (i := 876) (by decide +kernel), List.mem_of_getElem? (i := 877) (by decide +kernel)⟩
theorem lw_p18 : lw_okq (⟨"FreeWaveletsModel", "bit", "(I)I"⟩, 26) := ⟨⟨by decide +kernel, by decide +kernel⟩, List.mem_of_getElem? (i := 736) (by decide +kernel), List.mem_of_getElem? (i := 880) (by decide +kernel), List.mem_of_getElem? (i := 881) (by decide +kernel)⟩
theorem lw_p19 : lw_okq (⟨"FreeWaveletsModel", "planesNow", "()I"⟩, 26) := ⟨⟨by decide +kernel, by decide +kernel⟩, List.mem_of_getElem? (i := 736) (by decide +kernel), List.mem_of_getElem? (i := 884) (by decide +kernel), List.mem_of_getElem? (i := 885) (by decide +kernel)⟩
theorem lw_p20 : lw_okq (⟨"FreeWaveletsModel", "goThrough", "([Z[II)V"⟩, 26) := ⟨⟨by decide +kernel, by decide +kernel⟩, List.mem_of_getElem? (i := 736) (by decide +kernel), List.mem_of_getElem? (i := 891) (by decide +kernel), List.mem_of_getElem? (i := 892) (by decide +kernel)⟩
theorem lw_p21 : lw_okq (⟨"FreeWaveletsModel", "goSquare", "([Z[III)Z"⟩, 26) := ⟨⟨by decide +kernel, by decide +kernel⟩, List.mem_of_getElem? (i := 736) (by decide +kernel), List.mem_of_getElem? (i := 895) (by decide +kernel), List.mem_of_getElem? (i := 896) (by decide +kernel)⟩
theorem lw_p22 : lw_okq (⟨"FreeWaveletsModel", "goSample", "(I[IIZ)Z"⟩, 26) := ⟨⟨by decide +kernel, by decide +kernel⟩, List.mem_of_getElem? (i := 736) (by decide +kernel), List.mem_of_getElem? (i := 905) (by decide +kernel), List.mem_of_getElem? (i := 906) (by decide +kernel)⟩
theorem lw_p23 : lw_okq (⟨"FreeWaveletsModel", "streamBytes", "()I"⟩, 26) := ⟨⟨by decide +kernel, by decide +kernel⟩, List.mem_of_getElem? (i := 736) (by decide +kernel), List.mem_of_getElem? (i := 916) (by decide +kernel), List.mem_of_getElem? (i := 917) (by decide +kernel)⟩
theorem lw_p24 : lw_okq (⟨"FreeWaveletsModel", "hearHead", "()Z"⟩, 26) := ⟨⟨by decide +kernel, by decide +kernel⟩, List.mem_of_getElem? (i := 736) (by decide +kernel), List.mem_of_getElem? (i := 944) (by decide +kernel), List.mem_of_getElem? (i := 945) (by decide +kernel)⟩
theorem lw_p25 : lw_okq (⟨"FreeWaveletsModel", "hear", "(I)I"⟩, 26) := ⟨⟨by decide +kernel, by decide +kernel⟩, List.mem_of_getElem? (i := 736) (by decide +kernel), List.mem_of_getElem? (i := 948) (by decide +kernel), List.mem_of_getElem? (i := 949) (by decide +kernel)⟩
theorem lw_p26 : lw_okq (⟨"FreeWaveletsModel", "hearRun", "()I"⟩, 26) := ⟨⟨by decide +kernel, by decide +kernel⟩, List.mem_of_getElem? (i := 736) (by decide +kernel), List.mem_of_getElem? (i := 952) (by decide +kernel), List.mem_of_getElem? (i := 953) (by decide +kernel)⟩
theorem lw_p27 : lw_okq (⟨"FreeWaveletsModel", "headBits", "()I"⟩, 26) := ⟨⟨by decide +kernel, by decide +kernel⟩, List.mem_of_getElem? (i := 736) (by decide +kernel), List.mem_of_getElem? (i := 974) (by decide +kernel), List.mem_of_getElem? (i := 975) (by decide +kernel)⟩
def lw_privs_2 : List (MethodName × Nat) := [(⟨"FreeWaveletsModel", "tellHead", "()V"⟩, 26), (⟨"FreeWaveletsModel", "tell", "(II)Z"⟩, 26), (⟨"FreeWaveletsModel", "bit", "(I)I"⟩, 26), (⟨"FreeWaveletsModel", "planesNow", "()I"⟩, 26), (⟨"FreeWaveletsModel", "goThrough", "([Z[II)V"⟩, 26), (⟨"FreeWaveletsModel", "goSquare", "([Z[III)Z"⟩, 26), (⟨"FreeWaveletsModel", "goSample", "(I[IIZ)Z"⟩, 26), (⟨"FreeWaveletsModel", "streamBytes", "()I"⟩, 26), (⟨"FreeWaveletsModel", "hearHead", "()Z"⟩, 26), (⟨"FreeWaveletsModel", "hear", "(I)I"⟩, 26), (⟨"FreeWaveletsModel", "hearRun", "()I"⟩, 26), (⟨"FreeWaveletsModel", "headBits", "()I"⟩, 26)]
theorem lw_r2 : ∀ q ∈ lw_privs_2, lw_okq q := List.forall_mem_cons.mpr ⟨lw_p16, List.forall_mem_cons.mpr ⟨lw_p17, List.forall_mem_cons.mpr ⟨lw_p18, List.forall_mem_cons.mpr ⟨lw_p19, List.forall_mem_cons.mpr ⟨lw_p20, List.forall_mem_cons.mpr ⟨lw_p21, List.forall_mem_cons.mpr ⟨lw_p22, List.forall_mem_cons.mpr ⟨lw_p23, List.forall_mem_cons.mpr ⟨lw_p24, List.forall_mem_cons.mpr ⟨lw_p25, List.forall_mem_cons.mpr ⟨lw_p26, List.forall_mem_cons.mpr ⟨lw_p27, fun _ h => absurd h List.not_mem_nil⟩⟩⟩⟩⟩⟩⟩⟩⟩⟩⟩⟩
def lw_privs : List (MethodName × Nat) := lw_privs_1 ++ (lw_privs_2)
def lw_tbl : List Cond := k2_sels lw_privs ++ tables_1
theorem lw_privs_ok : ∀ q ∈ lw_privs, lw_okq q := by
  show ∀ q ∈ lw_privs_1 ++ (lw_privs_2), lw_okq q
  exact List.forall_mem_append.mpr ⟨lw_r1, lw_r2⟩
def gt : List Cond := lw_tbl.filter goodWord
theorem gt_in : ∀ w ∈ gt, w ∈ lw_tbl := fun _ h => (List.mem_filter.mp h).1
theorem tbl_good : GoodIn gt gt := fun _ h => ⟨h, good_of_word (List.mem_filter.mp h).2⟩
theorem mem_gt {w : Cond} (h : w ∈ lw_tbl) (hg : goodWord w = true) : w ∈ gt := List.mem_filter.mpr ⟨h, hg⟩
theorem g_code {y : MethodName} {bytes : ByteArray} {maxL : Nat} {ret : Option FieldType} (hc : Cond.code y bytes maxL ret ∈ gt) : GoodIn gt (Cond.code y bytes maxL ret :: gt) := fun w h => tbl_good w ((List.mem_cons.mp h).elim (fun e => by rw [e]; exact hc) id)
theorem g_cons {ws0 : List Cond} (h0 : ∀ w ∈ ws0, w ∈ gt) {y : MethodName} {bytes : ByteArray} {maxL : Nat} {ret : Option FieldType} (hc : Cond.code y bytes maxL ret ∈ gt) : GoodIn gt (ws0 ++ (Cond.code y bytes maxL ret :: gt)) := fun w h => (List.mem_append.mp h).elim (fun q => tbl_good w (h0 w q)) (g_code hc w)
/-- words that stay but are no good words: of nests, casts, declarations -/
def nwok : Cond → Bool
  | .methodLinkNest .. => true
  | .fieldLinkNest .. => true
  | .castable .. => true
  | .declares .. => true
  | _ => false
theorem nw_warm {w : Cond} (hw : nwok w = true) {s U : State} (hW : s.WarmedH U.vm) (h : va_Nw w s) : va_Nw w U := by
  cases w <;> first | exact va_Nw.warmM hW h | exact va_Nw.warmF hW h | exact va_Nw.warmC hW h | exact va_Nw.warmD hW h | cases hw
theorem in_c {L r : List Cond} {a : Cond} (h1 : a ∈ L) (h2 : ∀ w ∈ r, w ∈ L) : ∀ w ∈ a :: r, w ∈ L := fun w h => (List.mem_cons.mp h).elim (fun e => by rw [e]; exact h1) (h2 w)
theorem in_0 {L : List Cond} : ∀ w ∈ ([] : List Cond), w ∈ L := fun w h => absurd h List.not_mem_nil
section Cw
variable {R : Room} {s : State} {args : Array Value} {own C owner host : String} {index maxL mc ms : Nat} {x y : MethodName} {bytes : ByteArray} {ret : Option FieldType} {rm : Room}
theorem cw_V (n : Nat) (hts : ∀ w ∈ gt, w.before args s = true) (h1 : Cond.methodLink own index y ∈ gt) (h2 : Cond.instanceMethod y ∈ gt) (h3 : Cond.selects C y y ∈ gt) (h4 : Cond.initialized C ∈ gt) (h5 : Cond.code y bytes maxL ret ∈ gt) (hrc : rm.cells = mc) (hrs : rm.slots = ms)
    (hd : y.cls = C ∧ y.cls ≠ "java/lang/invoke/MethodHandle" ∧ y.cls ≠ "java/lang/invoke/VarHandle" ∧ (parseMethodDescriptor y.desc).map (fun d => d.parameters.length) = some n) (hR : rm.frames + 1 ≤ R.frames ∧ 8 + (maxL + 11) + rm.locals ≤ R.locals) :
    CallW R s args own C index y bytes maxL ret (Cond.code y bytes maxL ret :: gt) rm mc ms n :=
  cwV n hts (g_cons (ws0 := [.methodLink own index y, .instanceMethod y, .selects C y y, .initialized C]) (in_c h1 (in_c h2 (in_c h3 (in_c h4 in_0)))) h5) rfl hrc hrs hd hR
theorem cw_S (n : Nat) (hts : ∀ w ∈ gt, w.before args s = true) (h1 : Cond.methodLink own index y ∈ gt) (h2 : Cond.static y ∈ gt) (h4 : Cond.initialized y.cls ∈ gt) (h5 : Cond.code y bytes maxL ret ∈ gt) (hrc : rm.cells = mc) (hrs : rm.slots = ms)
    (hd : y.cls ≠ "java/lang/invoke/MethodHandle" ∧ y.cls ≠ "java/lang/invoke/VarHandle" ∧ (parseMethodDescriptor y.desc).map (fun d => d.parameters.length) = some n) (hR : rm.frames + 1 ≤ R.frames ∧ 8 + (maxL + 11) + rm.locals ≤ R.locals) :
    CallB R s args own index y bytes maxL ret (Cond.code y bytes maxL ret :: gt) rm mc ms n ∧ (Cond.static y).before args s = true :=
  va_cwS n hts (g_cons (ws0 := [.methodLink own index y, .static y, .initialized y.cls]) (in_c h1 (in_c h2 (in_c h4 in_0))) h5) rfl hrc hrs hd hR
theorem cw_SN (n : Nat) (hts : ∀ w ∈ gt, w.before args s = true) (h1 : va_Nw (Cond.methodLinkNest own index y host) s) (h2 : Cond.static y ∈ gt) (h4 : Cond.initialized y.cls ∈ gt) (h5 : Cond.code y bytes maxL ret ∈ gt) (hrc : rm.cells = mc) (hrs : rm.slots = ms)
    (hd : y.cls ≠ "java/lang/invoke/MethodHandle" ∧ y.cls ≠ "java/lang/invoke/VarHandle" ∧ (parseMethodDescriptor y.desc).map (fun d => d.parameters.length) = some n) (hR : rm.frames + 1 ≤ R.frames ∧ 8 + (maxL + 11) + rm.locals ≤ R.locals) :
    va_CN R s args own index y host bytes maxL ret (Cond.code y bytes maxL ret :: gt) rm mc ms n ∧ (Cond.static y).before args s = true ∧ True :=
  ⟨va_cnB n hts (g_code h5) rfl hrc hrs h1 (hts _ h4) hd hR, hts _ h2, trivial⟩
theorem cw_I (n : Nat) (hts : ∀ w ∈ gt, w.before args s = true) (h1 : Cond.methodLink own index y ∈ gt) (h2 : Cond.instanceMethod y ∈ gt) (h4 : Cond.initialized y.cls ∈ gt) (h5 : Cond.code y bytes maxL none ∈ gt) (hrc : rm.cells = mc) (hrs : rm.slots = ms) (hy : y.name = "<init>")
    (hd : y.cls ≠ "java/lang/invoke/MethodHandle" ∧ y.cls ≠ "java/lang/invoke/VarHandle" ∧ (parseMethodDescriptor y.desc).map (fun d => d.parameters.length) = some n) (hR : rm.frames + 1 ≤ R.frames ∧ 8 + (maxL + 11) + rm.locals ≤ R.locals) :
    CallB R s args own index y bytes maxL none (Cond.code y bytes maxL none :: gt) rm mc ms n ∧ y.name = "<init>" ∧ (Cond.instanceMethod y).before args s = true :=
  cwI n hts (g_code h5) rfl hrc hrs (hts _ h4) (hts _ h1) (hts _ h2) hy hd hR
theorem cw_IN (n : Nat) (hts : ∀ w ∈ gt, w.before args s = true) (h1 : va_Nw (Cond.methodLinkNest own index y host) s) (h2 : Cond.instanceMethod y ∈ gt) (h4 : Cond.initialized y.cls ∈ gt) (h5 : Cond.code y bytes maxL none ∈ gt) (hrc : rm.cells = mc) (hrs : rm.slots = ms) (hy : y.name = "<init>")
    (hd : y.cls ≠ "java/lang/invoke/MethodHandle" ∧ y.cls ≠ "java/lang/invoke/VarHandle" ∧ (parseMethodDescriptor y.desc).map (fun d => d.parameters.length) = some n) (hR : rm.frames + 1 ≤ R.frames ∧ 8 + (maxL + 11) + rm.locals ≤ R.locals) :
    va_CN R s args own index y host bytes maxL none (Cond.code y bytes maxL none :: gt) rm mc ms n ∧ y.name = "<init>" ∧ (Cond.instanceMethod y).before args s = true :=
  ⟨va_cnB n hts (g_code h5) rfl hrc hrs h1 (hts _ h4) hd hR, hy, hts _ h2⟩
theorem cw_U (n : Nat) (hts : ∀ w ∈ gt, w.before args s = true) (h1 : Cond.methodLink own index x ∈ gt) (h2 : Cond.sameMethod x.cls owner x.name x.desc ∈ gt) (h3 : Cond.selects C x y ∈ gt) (h6 : Cond.instanceMethod y ∈ gt) (h4 : Cond.initialized y.cls ∈ gt) (h5 : Cond.code y bytes maxL ret ∈ gt) (hrc : rm.cells = mc) (hrs : rm.slots = ms)
    (hyx : y = ⟨owner, x.name, x.desc⟩) (hd : owner ≠ "java/lang/invoke/MethodHandle" ∧ owner ≠ "java/lang/invoke/VarHandle" ∧ (parseMethodDescriptor x.desc).map (fun d => d.parameters.length) = some n) (hR : rm.frames + 1 ≤ R.frames ∧ 8 + (maxL + 11) + rm.locals ≤ R.locals) :
    va_CU R s args own C owner index x y bytes maxL ret (Cond.code y bytes maxL ret :: gt) rm mc ms n :=
  va_cwU n hts (g_cons (ws0 := [.methodLink own index x, .sameMethod x.cls owner x.name x.desc, .selects C x y, .instanceMethod y, .initialized y.cls]) (in_c h1 (in_c h2 (in_c h3 (in_c h6 (in_c h4 in_0))))) h5) rfl hrc hrs hyx hd hR
theorem cw_O (n : Nat) (hts : ∀ w ∈ gt, w.before args s = true) (h1 : Cond.methodLink own index x ∈ gt) (h2 : Cond.sameMethod x.cls owner x.name x.desc ∈ gt) (h7 : Cond.instanceMethod ⟨owner, x.name, x.desc⟩ ∈ gt) (h3 : Cond.selects C x y ∈ gt) (h6 : Cond.instanceMethod y ∈ gt) (h4 : Cond.initialized y.cls ∈ gt) (h5 : Cond.code y bytes maxL ret ∈ gt) (hrc : rm.cells = mc) (hrs : rm.slots = ms)
    {b0 : ByteArray} {m0 : Nat} {r0 : Option FieldType} (h0 : Cond.code ⟨owner, x.name, x.desc⟩ b0 m0 r0 ∈ gt) (hd : owner ≠ "java/lang/invoke/MethodHandle" ∧ owner ≠ "java/lang/invoke/VarHandle" ∧ (parseMethodDescriptor x.desc).map (fun d => d.parameters.length) = some n) (hR : rm.frames + 1 ≤ R.frames ∧ 8 + (maxL + 11) + rm.locals ≤ R.locals) :
    va_CU R s args own C owner index x y bytes maxL ret (Cond.code y bytes maxL ret :: gt) rm mc ms n :=
  va_cwO n hts (g_cons (ws0 := [.methodLink own index x, .sameMethod x.cls owner x.name x.desc, .instanceMethod ⟨owner, x.name, x.desc⟩, .selects C x y, .instanceMethod y, .initialized y.cls]) (in_c h1 (in_c h2 (in_c h7 (in_c h3 (in_c h6 (in_c h4 in_0)))))) h5) rfl hrc hrs h0 hd hR
theorem cw_SU (n : Nat) (hts : ∀ w ∈ gt, w.before args s = true) (h1 : Cond.methodLink own index y ∈ gt) (h2 : Cond.sameMethod y.cls y.cls y.name y.desc ∈ gt) (h3 : Cond.superclass own y.cls ∈ gt) (h6 : Cond.instanceMethod y ∈ gt) (h4 : Cond.initialized y.cls ∈ gt) (h5 : Cond.code y bytes maxL ret ∈ gt) (hrc : rm.cells = mc) (hrs : rm.slots = ms)
    (hd : y.name ≠ "<init>" ∧ (parseMethodDescriptor y.desc).map (fun d => d.parameters.length) = some n) (hR : rm.frames + 1 ≤ R.frames ∧ 8 + (maxL + 11) + rm.locals ≤ R.locals) : va_CS R s args own index y bytes maxL ret (Cond.code y bytes maxL ret :: gt) rm mc ms n :=
  va_cwSU n hts (g_cons (ws0 := [.methodLink own index y, .sameMethod y.cls y.cls y.name y.desc, .superclass own y.cls, .instanceMethod y, .initialized y.cls]) (in_c h1 (in_c h2 (in_c h3 (in_c h6 (in_c h4 in_0))))) h5) rfl hrc hrs hd hR
end Cw
def R_FW : String := "FreeWavelets"
def F_FW : u_T := fun k => match k with
  | 0 => ("FreeWavelets", "drawn", "LFreeWavelets$Picture;", true)
  | 1 => ("FreeWavelets", "seen", "LFreeWavelets$Picture;", true)
  | 2 => ("FreeWavelets", "made", "LFreeWavelets$Bytes;", true)
  | 3 => ("FreeWavelets", "fed", "LFreeWavelets$Bytes;", true)
  | 4 => ("FreeWavelets", "pen", "LFreeWavelets$Pen;", true)
  | 5 => ("FreeWavelets", "eye", "LFreeWavelets$Eye;", true)
  | 6 => ("FreeWavelets", "ruler", "LFreeWavelets$Tape;", true)
  | 7 => ("FreeWavelets", "writing", "LFreeWavelets$Walk;", true)
  | 8 => ("FreeWavelets", "reading", "LFreeWavelets$Walk;", true)
  | 9 => ("FreeWavelets", "weighing", "LFreeWavelets$Walk;", true)
  | _ => ("FreeWavelets", "wasRead", "Z", false)
def t_FW : Nat → FieldType := fun k => match k with
  | 0 => .object "FreeWavelets$Picture"
  | 1 => .object "FreeWavelets$Picture"
  | 2 => .object "FreeWavelets$Bytes"
  | 3 => .object "FreeWavelets$Bytes"
  | 4 => .object "FreeWavelets$Pen"
  | 5 => .object "FreeWavelets$Eye"
  | 6 => .object "FreeWavelets$Tape"
  | 7 => .object "FreeWavelets$Walk"
  | 8 => .object "FreeWavelets$Walk"
  | 9 => .object "FreeWavelets$Walk"
  | _ => .boolean
theorem n_FW : ∀ a, a < 11 → ∀ b, b < 11 → a ≠ b → (F_FW a).2.1 ≠ (F_FW b).2.1 := by decide +kernel
theorem t_FW_ok : ∀ k, k < 11 → parseFieldDescriptor (F_FW k).2.2.1 = some (t_FW k) := by decide +kernel
theorem in_FW : ∀ w ∈ u_ws R_FW F_FW 11, w ∈ gt := by decide +kernel
def R_Bytes : String := "FreeWavelets$Bytes"
def F_Bytes : u_T := fun k => match k with
  | 0 => ("FreeWavelets$Bytes", "count", "I", false)
  | _ => ("FreeWavelets$Bytes", "row", "[B", true)
def t_Bytes : Nat → FieldType := fun k => match k with
  | 0 => .int
  | _ => .array .byte
theorem n_Bytes : ∀ a, a < 2 → ∀ b, b < 2 → a ≠ b → (F_Bytes a).2.1 ≠ (F_Bytes b).2.1 := by decide +kernel
theorem t_Bytes_ok : ∀ k, k < 2 → parseFieldDescriptor (F_Bytes k).2.2.1 = some (t_Bytes k) := by decide +kernel
theorem in_Bytes : ∀ w ∈ u_ws R_Bytes F_Bytes 2, w ∈ gt := by decide +kernel
def R_Eye : String := "FreeWavelets$Eye"
def F_Eye : u_T := fun k => match k with
  | 0 => ("FreeWavelets$Tape", "place", "I", false)
  | 1 => ("FreeWavelets$Tape", "ended", "Z", false)
  | 2 => ("FreeWavelets$Tape", "limit", "I", false)
  | _ => ("FreeWavelets$Eye", "bytes", "LFreeWavelets$Bytes;", true)
def t_Eye : Nat → FieldType := fun k => match k with
  | 0 => .int
  | 1 => .boolean
  | 2 => .int
  | _ => .object "FreeWavelets$Bytes"
theorem n_Eye : ∀ a, a < 4 → ∀ b, b < 4 → a ≠ b → (F_Eye a).2.1 ≠ (F_Eye b).2.1 := by decide +kernel
theorem t_Eye_ok : ∀ k, k < 4 → parseFieldDescriptor (F_Eye k).2.2.1 = some (t_Eye k) := by decide +kernel
theorem in_Eye : ∀ w ∈ u_ws R_Eye F_Eye 4, w ∈ gt := by decide +kernel
def R_Pen : String := "FreeWavelets$Pen"
def F_Pen : u_T := fun k => match k with
  | 0 => ("FreeWavelets$Tape", "place", "I", false)
  | 1 => ("FreeWavelets$Tape", "ended", "Z", false)
  | 2 => ("FreeWavelets$Tape", "limit", "I", false)
  | _ => ("FreeWavelets$Pen", "bytes", "LFreeWavelets$Bytes;", true)
def t_Pen : Nat → FieldType := fun k => match k with
  | 0 => .int
  | 1 => .boolean
  | 2 => .int
  | _ => .object "FreeWavelets$Bytes"
theorem n_Pen : ∀ a, a < 4 → ∀ b, b < 4 → a ≠ b → (F_Pen a).2.1 ≠ (F_Pen b).2.1 := by decide +kernel
theorem t_Pen_ok : ∀ k, k < 4 → parseFieldDescriptor (F_Pen k).2.2.1 = some (t_Pen k) := by decide +kernel
theorem in_Pen : ∀ w ∈ u_ws R_Pen F_Pen 4, w ∈ gt := by decide +kernel
def R_Tape : String := "FreeWavelets$Tape"
def F_Tape : u_T := fun k => match k with
  | 0 => ("FreeWavelets$Tape", "place", "I", false)
  | 1 => ("FreeWavelets$Tape", "ended", "Z", false)
  | _ => ("FreeWavelets$Tape", "limit", "I", false)
def t_Tape : Nat → FieldType := fun k => match k with
  | 0 => .int
  | 1 => .boolean
  | _ => .int
theorem n_Tape : ∀ a, a < 3 → ∀ b, b < 3 → a ≠ b → (F_Tape a).2.1 ≠ (F_Tape b).2.1 := by decide +kernel
theorem t_Tape_ok : ∀ k, k < 3 → parseFieldDescriptor (F_Tape k).2.2.1 = some (t_Tape k) := by decide +kernel
theorem in_Tape : ∀ w ∈ u_ws R_Tape F_Tape 3, w ∈ gt := by decide +kernel
def R_Lifting : String := "FreeWavelets$Lifting"
def F_Lifting : u_T := fun k => match k with
  | 0 => ("FreeWavelets$Lifting", "shape", "LFreeWavelets$Shape;", true)
  | _ => ("FreeWavelets$Lifting", "values", "[I", true)
def t_Lifting : Nat → FieldType := fun k => match k with
  | 0 => .object "FreeWavelets$Shape"
  | _ => .array .int
theorem n_Lifting : ∀ a, a < 2 → ∀ b, b < 2 → a ≠ b → (F_Lifting a).2.1 ≠ (F_Lifting b).2.1 := by decide +kernel
theorem t_Lifting_ok : ∀ k, k < 2 → parseFieldDescriptor (F_Lifting k).2.2.1 = some (t_Lifting k) := by decide +kernel
theorem in_Lifting : ∀ w ∈ u_ws R_Lifting F_Lifting 2, w ∈ gt := by decide +kernel
def R_Picture : String := "FreeWavelets$Picture"
def F_Picture : u_T := fun k => match k with
  | 0 => ("FreeWavelets$Picture", "shape", "LFreeWavelets$Shape;", true)
  | 1 => ("FreeWavelets$Picture", "samples", "[I", true)
  | 2 => ("FreeWavelets$Picture", "waves", "[I", true)
  | 3 => ("FreeWavelets$Picture", "planes", "I", false)
  | 4 => ("FreeWavelets$Picture", "lifting", "LFreeWavelets$Lifting;", true)
  | _ => ("FreeWavelets$Picture", "stale", "Z", false)
def t_Picture : Nat → FieldType := fun k => match k with
  | 0 => .object "FreeWavelets$Shape"
  | 1 => .array .int
  | 2 => .array .int
  | 3 => .int
  | 4 => .object "FreeWavelets$Lifting"
  | _ => .boolean
theorem n_Picture : ∀ a, a < 6 → ∀ b, b < 6 → a ≠ b → (F_Picture a).2.1 ≠ (F_Picture b).2.1 := by decide +kernel
theorem t_Picture_ok : ∀ k, k < 6 → parseFieldDescriptor (F_Picture k).2.2.1 = some (t_Picture k) := by decide +kernel
theorem in_Picture : ∀ w ∈ u_ws R_Picture F_Picture 6, w ∈ gt := by decide +kernel
def R_Shape : String := "FreeWavelets$Shape"
def F_Shape : u_T := fun k => match k with
  | 0 => ("FreeWavelets$Shape", "inside", "[Z", true)
  | 1 => ("FreeWavelets$Shape", "partOf", "[I", true)
  | 2 => ("FreeWavelets$Shape", "sizeOf", "[I", true)
  | 3 => ("FreeWavelets$Shape", "firstOf", "[I", true)
  | 4 => ("FreeWavelets$Shape", "width", "I", false)
  | 5 => ("FreeWavelets$Shape", "height", "I", false)
  | 6 => ("FreeWavelets$Shape", "parts", "I", false)
  | 7 => ("FreeWavelets$Shape", "count", "I", false)
  | _ => ("FreeWavelets$Shape", "queue", "[I", true)
def t_Shape : Nat → FieldType := fun k => match k with
  | 0 => .array .boolean
  | 1 => .array .int
  | 2 => .array .int
  | 3 => .array .int
  | 4 => .int
  | 5 => .int
  | 6 => .int
  | 7 => .int
  | _ => .array .int
theorem n_Shape : ∀ a, a < 9 → ∀ b, b < 9 → a ≠ b → (F_Shape a).2.1 ≠ (F_Shape b).2.1 := by decide +kernel
theorem t_Shape_ok : ∀ k, k < 9 → parseFieldDescriptor (F_Shape k).2.2.1 = some (t_Shape k) := by decide +kernel
theorem in_Shape : ∀ w ∈ u_ws R_Shape F_Shape 9, w ∈ gt := by decide +kernel
def R_Walk : String := "FreeWavelets$Walk"
def F_Walk : u_T := fun k => match k with
  | 0 => ("FreeWavelets$Walk", "known", "[I", true)
  | 1 => ("FreeWavelets$Walk", "left", "[I", true)
  | 2 => ("FreeWavelets$Walk", "tape", "LFreeWavelets$Tape;", true)
  | 3 => ("FreeWavelets$Walk", "picture", "LFreeWavelets$Picture;", true)
  | 4 => ("FreeWavelets$Walk", "greatest", "[I", true)
  | 5 => ("FreeWavelets$Walk", "open", "[Z", true)
  | _ => ("FreeWavelets$Walk", "plane", "I", false)
def t_Walk : Nat → FieldType := fun k => match k with
  | 0 => .array .int
  | 1 => .array .int
  | 2 => .object "FreeWavelets$Tape"
  | 3 => .object "FreeWavelets$Picture"
  | 4 => .array .int
  | 5 => .array .boolean
  | _ => .int
theorem n_Walk : ∀ a, a < 7 → ∀ b, b < 7 → a ≠ b → (F_Walk a).2.1 ≠ (F_Walk b).2.1 := by decide +kernel
theorem t_Walk_ok : ∀ k, k < 7 → parseFieldDescriptor (F_Walk k).2.2.1 = some (t_Walk k) := by decide +kernel
theorem in_Walk : ∀ w ∈ u_ws R_Walk F_Walk 7, w ∈ gt := by decide +kernel
def R_Md : String := "FreeWaveletsModel"
def F_Md : u_T := fun k => match k with
  | 0 => ("FreeWaveletsModel", "code", "I", false)
  | 1 => ("FreeWaveletsModel", "width", "I", true)
  | 2 => ("FreeWaveletsModel", "height", "I", true)
  | 3 => ("FreeWaveletsModel", "inside", "[Z", true)
  | 4 => ("FreeWaveletsModel", "values", "[I", true)
  | 5 => ("FreeWaveletsModel", "partOf", "[I", true)
  | 6 => ("FreeWaveletsModel", "waves", "[I", true)
  | 7 => ("FreeWaveletsModel", "isRead", "Z", false)
  | 8 => ("FreeWaveletsModel", "readWide", "I", false)
  | 9 => ("FreeWaveletsModel", "readHigh", "I", false)
  | 10 => ("FreeWaveletsModel", "readPlanes", "I", false)
  | 11 => ("FreeWaveletsModel", "readInside", "[Z", true)
  | 12 => ("FreeWaveletsModel", "readPart", "[I", true)
  | 13 => ("FreeWaveletsModel", "readValues", "[I", true)
  | 14 => ("FreeWaveletsModel", "stream", "[I", true)
  | 15 => ("FreeWaveletsModel", "streamBits", "I", false)
  | 16 => ("FreeWaveletsModel", "zeros", "[I", true)
  | 17 => ("FreeWaveletsModel", "fed", "[I", true)
  | 18 => ("FreeWaveletsModel", "fedMany", "I", false)
  | 19 => ("FreeWaveletsModel", "pile", "[I", true)
  | 20 => ("FreeWaveletsModel", "mode", "I", false)
  | 21 => ("FreeWaveletsModel", "limit", "I", false)
  | 22 => ("FreeWaveletsModel", "count", "I", false)
  | 23 => ("FreeWaveletsModel", "open", "[Z", true)
  | 24 => ("FreeWaveletsModel", "sizes", "[I", true)
  | _ => ("FreeWaveletsModel", "below", "[Z", true)
def t_Md : Nat → FieldType := fun k => match k with
  | 0 => .int
  | 1 => .int
  | 2 => .int
  | 3 => .array .boolean
  | 4 => .array .int
  | 5 => .array .int
  | 6 => .array .int
  | 7 => .boolean
  | 8 => .int
  | 9 => .int
  | 10 => .int
  | 11 => .array .boolean
  | 12 => .array .int
  | 13 => .array .int
  | 14 => .array .int
  | 15 => .int
  | 16 => .array .int
  | 17 => .array .int
  | 18 => .int
  | 19 => .array .int
  | 20 => .int
  | 21 => .int
  | 22 => .int
  | 23 => .array .boolean
  | 24 => .array .int
  | _ => .array .boolean
theorem n_Md : ∀ a, a < 26 → ∀ b, b < 26 → a ≠ b → (F_Md a).2.1 ≠ (F_Md b).2.1 := by decide +kernel
theorem t_Md_ok : ∀ k, k < 26 → parseFieldDescriptor (F_Md k).2.2.1 = some (t_Md k) := by decide +kernel
theorem in_Md : ∀ w ∈ u_ws R_Md F_Md 26, w ∈ gt := by decide +kernel
abbrev vwCl : List vw_C := [(R_FW, F_FW, 11), (R_Bytes, F_Bytes, 2), (R_Eye, F_Eye, 4), (R_Pen, F_Pen, 4), (R_Tape, F_Tape, 3), (R_Lifting, F_Lifting, 2), (R_Picture, F_Picture, 6), (R_Shape, F_Shape, 9), (R_Walk, F_Walk, 7), (R_Md, F_Md, 26)]
