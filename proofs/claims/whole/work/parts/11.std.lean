def fsq : Nat → Int32 := fun j => if j = 0 then 0 else if j = 1 then 256 else if j = 2 then 320 else 336
def NC (U : State) : Prop := va_Nc "java/lang/IllegalArgumentException" "java/lang/IndexOutOfBoundsException" U ∧ va_Nc "java/lang/IndexOutOfBoundsException" "java/lang/IllegalArgumentException" U ∧ va_Nc "java/lang/UnsupportedOperationException" "java/lang/IllegalArgumentException" U ∧ va_Nc "java/lang/UnsupportedOperationException" "java/lang/IndexOutOfBoundsException" U ∧ va_Nc "java/lang/IndexOutOfBoundsException" "java/lang/IllegalStateException" U
theorem NC.moved {u U : State} (hvm : u.vm.Alike U.vm) (h : NC u) : NC U := ⟨va_Nc.moved hvm h.1, va_Nc.moved hvm h.2.1, va_Nc.moved hvm h.2.2.1, va_Nc.moved hvm h.2.2.2.1, va_Nc.moved hvm h.2.2.2.2⟩
def LZs (C n d : String) (A : Nat → Prop) (U : State) (H : Heap) : Prop := ∃ (c : ClassId) (k : Class) (i : Nat) (f : Field) (a : Nat) (cell : Cell), U.vm.findClass C = some c ∧ U.fieldFound? C n d = some (c, k, i, f) ∧ f.isStatic = true ∧ k.statics = some a ∧ H[a]? = some cell ∧ cell.vm.isStatics = true ∧ cell.cls = c ∧ f.slot < cell.slots.size ∧ k.staticTypes[f.slot]? = some f.type ∧ ¬ A a
theorem LZs.of {args : Array Value} {s : State} {C n d : String} {A : Nat → Prop} (hl : (Cond.laysStatic C n d).before args s = true) (hA : ∀ a : Nat, a < s.heap.size → ¬ A a) : LZs C n d A s s.heap := by
  obtain ⟨c, k, i, f, a, cell, h1, h2, h3, h4, h5, h6, h7, h8, h9⟩ := Cond.laysStatic_spec hl
  exact ⟨c, k, i, f, a, cell, h1, h2, h3, h4, h5, h6, h7, h8, h9, hA a (Array.getElem?_eq_some_iff.mp h5).1⟩
theorem LZs.moved {C n d : String} {A : Nat → Prop} {u U : State} {H : Heap} (hvm : u.vm.Alike U.vm) (h : LZs C n d A u H) : LZs C n d A U H := by
  obtain ⟨c, k, i, f, a, cell, h1, h2, h3, h4, h5, h6, h7, h8, h9, h10⟩ := h
  obtain ⟨k', hi', he⟩ := State.fieldFound?_setVm hvm h2
  exact ⟨c, k', i, f, a, cell, by rw [hvm.findClass]; exact h1, hi', h3, by rw [he]; exact h4, h5, h6, h7, h8, by rw [he]; exact h9, h10⟩
theorem LZs.kept {C n d : String} {A : Nat → Prop} {U : State} {H H1 : Heap} (h : LZs C n d A U H) (hq : ∀ a : Nat, a < H.size → ¬ A a → H1[a]? = H[a]?) : LZs C n d A U H1 := by
  obtain ⟨c, k, i, f, a, cell, h1, h2, h3, h4, h5, h6, h7, h8, h9, h10⟩ := h
  exact ⟨c, k, i, f, a, cell, h1, h2, h3, h4, by rw [hq a (Array.getElem?_eq_some_iff.mp h5).1 h10]; exact h5, h6, h7, h8, h9, h10⟩
theorem LZs.narrow {C n d : String} {A B : Nat → Prop} {U : State} {H : Heap} (h : LZs C n d A U H) (hAB : ∀ q, B q → A q) : LZs C n d B U H := by
  obtain ⟨c, k, i, f, a, cell, h1, h2, h3, h4, h5, h6, h7, h8, h9, h10⟩ := h
  exact ⟨c, k, i, f, a, cell, h1, h2, h3, h4, h5, h6, h7, h8, h9, fun z => h10 (hAB a z)⟩
theorem LZs.back {C n d : String} {A : Nat → Prop} {U : State} {args : Array Value} (h : LZs C n d A U U.heap) : (Cond.laysStatic C n d).before args U = true := by
  obtain ⟨c, k, i, f, a, cell, h1, h2, h3, h4, h5, h6, h7, h8, h9, h10⟩ := h
  simp [Cond.before, Cond.holds, Cond.value, h1, h2, h3, h4, h5, h6, h7, h8, h9]
def ZF (A : Nat → Prop) (U : State) (H : Heap) : Prop :=
  (∃ t : Nat, va_Z "FreeWavelets" "FIRST_SQUARE" "[I" (.ref t) A U H ∧ va_T .int t 4 (fun j => .int (fsq j)) A U H) ∧ va_Zq "java/lang/Throwable" "UNASSIGNED_STACK" "[Ljava/lang/StackTraceElement;" A U H ∧ va_Zq "java/lang/Throwable" "SUPPRESSED_SENTINEL" "Ljava/util/List;" A U H ∧ (∀ w ∈ lw_tbl, nwok w = true → va_Nw w U) ∧ (∀ (k : Nat) (tx : String), Cond.stringRef "FreeWavelets" k tx ∈ lw_tbl → ∃ a : Nat, vk_R "FreeWavelets" k tx a U) ∧ NC U ∧ LZs "java/lang/Throwable" "UNASSIGNED_STACK" "[Ljava/lang/StackTraceElement;" A U H ∧ LZs "java/lang/Throwable" "SUPPRESSED_SENTINEL" "Ljava/util/List;" A U H
theorem ZF.warm {A : Nat → Prop} {u U : State} {H : Heap} (hW : u.WarmedH U.vm) (h : ZF A u H) : ZF A U H := by
  obtain ⟨⟨t, h1, h2⟩, h3, h4, h5, h6, h7, h8, h9⟩ := h
  exact ⟨⟨t, va_Z.moved hW.alike h1, va_T.moved hW.alike h2⟩, va_Zq.moved hW.alike h3, va_Zq.moved hW.alike h4, fun w h hw => nw_warm hw hW (h5 w h hw), fun k tx h => (h6 k tx h).imp (fun _ q => vk_R.warm hW q), NC.moved hW.alike h7, LZs.moved hW.alike h8, LZs.moved hW.alike h9⟩
theorem ZF.kept {A : Nat → Prop} {U : State} {H H1 : Heap} (h : ZF A U H) (hq : ∀ a : Nat, a < H.size → ¬ A a → H1[a]? = H[a]?) : ZF A U H1 := by
  obtain ⟨⟨t, h1, h2⟩, h3, h4, h5, h6, h7, h8, h9⟩ := h
  exact ⟨⟨t, va_Z.kept h1 hq, va_T.kept h2 hq⟩, va_Zq.kept h3 hq, va_Zq.kept h4 hq, h5, h6, h7, h8.kept hq, h9.kept hq⟩
theorem ZF.narrow {A B : Nat → Prop} {U : State} {H : Heap} (h : ZF A U H) (hAB : ∀ q, B q → A q) : ZF B U H := by
  obtain ⟨⟨t, h1, h2⟩, h3, h4, h5, h6, h7, h8, h9⟩ := h
  exact ⟨⟨t, va_Z.narrow h1 hAB, va_T.narrow h2 hAB⟩, va_Zq.narrow h3 hAB, va_Zq.narrow h4 hAB, h5, h6, h7, h8.narrow hAB, h9.narrow hAB⟩
theorem ZF.nw {A : Nat → Prop} {U : State} {H : Heap} (h : ZF A U H) {w : Cond} (hw : w ∈ lw_tbl) (hn : nwok w = true) : va_Nw w U := h.2.2.2.1 w hw hn
def letB {α β : Type} (e : α) (k : α → Option β) : Option β := k e
theorem letB_at {α β : Type} {e y : α} {k : α → Option β} {r : Option β} (ey : y = e) (h : letB e k = r) : k y = r := by subst ey; exact h
def chk {β : Type} (i : Int32) (n : Nat) (k : Option β) : Option β := if i < 0 ∨ n ≤ i.toNatClampNeg then none else k
theorem chk_some {β : Type} {i : Int32} {n : Nat} {k : Option β} {r : β} (h : chk i n k = some r) : vp_in i n ∧ k = some r := by
  unfold chk at h
  by_cases q : i < 0 ∨ n ≤ i.toNatClampNeg
  · rw [if_pos q] at h; cases h
  · rw [if_neg q] at h; exact ⟨q, h⟩
theorem chk_ok {β : Type} {i : Int32} {n : Nat} {k : Option β} (h : vp_in i n) : chk i n k = k := if_neg h
def chkB {β : Type} (x : Int32) (k : Option β) : Option β := if x = 0 ∨ x = 1 then k else none
theorem chkB_some {β : Type} {x : Int32} {k : Option β} {r : β} (h : chkB x k = some r) : (x = 0 ∨ x = 1) ∧ k = some r := by
  unfold chkB at h
  by_cases q : x = 0 ∨ x = 1
  · rw [if_pos q] at h; exact ⟨q, h⟩
  · rw [if_neg q] at h; cases h
theorem chkB_ok {β : Type} {x : Int32} {k : Option β} (h : x = 0 ∨ x = 1) : chkB x k = k := if_pos h
theorem nar_z {x : Int32} (h : x = 0 ∨ x = 1) : narrow .boolean (.int x) = .int x := by rcases h with rfl | rfl <;> rfl
theorem fit_z {x : Int32} (h : x = 0 ∨ x = 1) : fits .boolean (.int x) = true := by rcases h with rfl | rfl <;> rfl
def nz {β : Type} (y : Int32) (k : Option β) : Option β := if y = 0 then none else k
theorem nz_some {β : Type} {y : Int32} {k : Option β} {r : β} (h : nz y k = some r) : ¬ y = 0 ∧ k = some r := by
  unfold nz at h
  by_cases q : y = 0
  · rw [if_pos q] at h; cases h
  · rw [if_neg q] at h; exact ⟨q, h⟩
theorem no0 {ρ : Type} {o : ρ} (h : (none : Option ρ) = some o) : False := by cases h
def bn1 {α1 β : Type} (o : Option (α1)) (k : α1 → Option β) : Option β := match o with | some a1 => k a1 | none => none
theorem bn1_some {α1 β : Type} {o : Option (α1)} {k : α1 → Option β} {r : β} (h : bn1 o k = some r) : ∃ (a1 : α1), o = some a1 ∧ k a1 = some r := by
  match o, h with
  | some a1, h => exact ⟨a1, rfl, h⟩
theorem bn1_eq {α1 β : Type} {k : α1 → Option β} {a1 : α1} {o : Option (α1)} (h : o = some a1) : bn1 o k = k a1 := by subst h; rfl
def bn2 {α1 α2 β : Type} (o : Option (α1 × α2)) (k : α1 → α2 → Option β) : Option β := match o with | some (a1, a2) => k a1 a2 | none => none
theorem bn2_some {α1 α2 β : Type} {o : Option (α1 × α2)} {k : α1 → α2 → Option β} {r : β} (h : bn2 o k = some r) : ∃ (a1 : α1) (a2 : α2), o = some (a1, a2) ∧ k a1 a2 = some r := by
  match o, h with
  | some (a1, a2), h => exact ⟨a1, a2, rfl, h⟩
theorem bn2_eq {α1 α2 β : Type} {k : α1 → α2 → Option β} {a1 : α1} {a2 : α2} {o : Option (α1 × α2)} (h : o = some (a1, a2)) : bn2 o k = k a1 a2 := by subst h; rfl
def un2 {α1 α2 β : Type} (u : α1 × α2) (k : α1 → α2 → Option β) : Option β := match u with | (a1, a2) => k a1 a2
theorem un2_at {α1 α2 β : Type} {a1 : α1} {a2 : α2} {k : α1 → α2 → Option β} {r : Option β} (h : un2 (a1, a2) k = r) : k a1 a2 = r := h
def bn3 {α1 α2 α3 β : Type} (o : Option (α1 × α2 × α3)) (k : α1 → α2 → α3 → Option β) : Option β := match o with | some (a1, a2, a3) => k a1 a2 a3 | none => none
theorem bn3_some {α1 α2 α3 β : Type} {o : Option (α1 × α2 × α3)} {k : α1 → α2 → α3 → Option β} {r : β} (h : bn3 o k = some r) : ∃ (a1 : α1) (a2 : α2) (a3 : α3), o = some (a1, a2, a3) ∧ k a1 a2 a3 = some r := by
  match o, h with
  | some (a1, a2, a3), h => exact ⟨a1, a2, a3, rfl, h⟩
theorem bn3_eq {α1 α2 α3 β : Type} {k : α1 → α2 → α3 → Option β} {a1 : α1} {a2 : α2} {a3 : α3} {o : Option (α1 × α2 × α3)} (h : o = some (a1, a2, a3)) : bn3 o k = k a1 a2 a3 := by subst h; rfl
def un3 {α1 α2 α3 β : Type} (u : α1 × α2 × α3) (k : α1 → α2 → α3 → Option β) : Option β := match u with | (a1, a2, a3) => k a1 a2 a3
theorem un3_at {α1 α2 α3 β : Type} {a1 : α1} {a2 : α2} {a3 : α3} {k : α1 → α2 → α3 → Option β} {r : Option β} (h : un3 (a1, a2, a3) k = r) : k a1 a2 a3 = r := h
def bn4 {α1 α2 α3 α4 β : Type} (o : Option (α1 × α2 × α3 × α4)) (k : α1 → α2 → α3 → α4 → Option β) : Option β := match o with | some (a1, a2, a3, a4) => k a1 a2 a3 a4 | none => none
theorem bn4_some {α1 α2 α3 α4 β : Type} {o : Option (α1 × α2 × α3 × α4)} {k : α1 → α2 → α3 → α4 → Option β} {r : β} (h : bn4 o k = some r) : ∃ (a1 : α1) (a2 : α2) (a3 : α3) (a4 : α4), o = some (a1, a2, a3, a4) ∧ k a1 a2 a3 a4 = some r := by
  match o, h with
  | some (a1, a2, a3, a4), h => exact ⟨a1, a2, a3, a4, rfl, h⟩
theorem bn4_eq {α1 α2 α3 α4 β : Type} {k : α1 → α2 → α3 → α4 → Option β} {a1 : α1} {a2 : α2} {a3 : α3} {a4 : α4} {o : Option (α1 × α2 × α3 × α4)} (h : o = some (a1, a2, a3, a4)) : bn4 o k = k a1 a2 a3 a4 := by subst h; rfl
def un4 {α1 α2 α3 α4 β : Type} (u : α1 × α2 × α3 × α4) (k : α1 → α2 → α3 → α4 → Option β) : Option β := match u with | (a1, a2, a3, a4) => k a1 a2 a3 a4
theorem un4_at {α1 α2 α3 α4 β : Type} {a1 : α1} {a2 : α2} {a3 : α3} {a4 : α4} {k : α1 → α2 → α3 → α4 → Option β} {r : Option β} (h : un4 (a1, a2, a3, a4) k = r) : k a1 a2 a3 a4 = r := h
def bn5 {α1 α2 α3 α4 α5 β : Type} (o : Option (α1 × α2 × α3 × α4 × α5)) (k : α1 → α2 → α3 → α4 → α5 → Option β) : Option β := match o with | some (a1, a2, a3, a4, a5) => k a1 a2 a3 a4 a5 | none => none
theorem bn5_some {α1 α2 α3 α4 α5 β : Type} {o : Option (α1 × α2 × α3 × α4 × α5)} {k : α1 → α2 → α3 → α4 → α5 → Option β} {r : β} (h : bn5 o k = some r) : ∃ (a1 : α1) (a2 : α2) (a3 : α3) (a4 : α4) (a5 : α5), o = some (a1, a2, a3, a4, a5) ∧ k a1 a2 a3 a4 a5 = some r := by
  match o, h with
  | some (a1, a2, a3, a4, a5), h => exact ⟨a1, a2, a3, a4, a5, rfl, h⟩
theorem bn5_eq {α1 α2 α3 α4 α5 β : Type} {k : α1 → α2 → α3 → α4 → α5 → Option β} {a1 : α1} {a2 : α2} {a3 : α3} {a4 : α4} {a5 : α5} {o : Option (α1 × α2 × α3 × α4 × α5)} (h : o = some (a1, a2, a3, a4, a5)) : bn5 o k = k a1 a2 a3 a4 a5 := by subst h; rfl
def un5 {α1 α2 α3 α4 α5 β : Type} (u : α1 × α2 × α3 × α4 × α5) (k : α1 → α2 → α3 → α4 → α5 → Option β) : Option β := match u with | (a1, a2, a3, a4, a5) => k a1 a2 a3 a4 a5
theorem un5_at {α1 α2 α3 α4 α5 β : Type} {a1 : α1} {a2 : α2} {a3 : α3} {a4 : α4} {a5 : α5} {k : α1 → α2 → α3 → α4 → α5 → Option β} {r : Option β} (h : un5 (a1, a2, a3, a4, a5) k = r) : k a1 a2 a3 a4 a5 = r := h
def bn6 {α1 α2 α3 α4 α5 α6 β : Type} (o : Option (α1 × α2 × α3 × α4 × α5 × α6)) (k : α1 → α2 → α3 → α4 → α5 → α6 → Option β) : Option β := match o with | some (a1, a2, a3, a4, a5, a6) => k a1 a2 a3 a4 a5 a6 | none => none
theorem bn6_some {α1 α2 α3 α4 α5 α6 β : Type} {o : Option (α1 × α2 × α3 × α4 × α5 × α6)} {k : α1 → α2 → α3 → α4 → α5 → α6 → Option β} {r : β} (h : bn6 o k = some r) : ∃ (a1 : α1) (a2 : α2) (a3 : α3) (a4 : α4) (a5 : α5) (a6 : α6), o = some (a1, a2, a3, a4, a5, a6) ∧ k a1 a2 a3 a4 a5 a6 = some r := by
  match o, h with
  | some (a1, a2, a3, a4, a5, a6), h => exact ⟨a1, a2, a3, a4, a5, a6, rfl, h⟩
theorem bn6_eq {α1 α2 α3 α4 α5 α6 β : Type} {k : α1 → α2 → α3 → α4 → α5 → α6 → Option β} {a1 : α1} {a2 : α2} {a3 : α3} {a4 : α4} {a5 : α5} {a6 : α6} {o : Option (α1 × α2 × α3 × α4 × α5 × α6)} (h : o = some (a1, a2, a3, a4, a5, a6)) : bn6 o k = k a1 a2 a3 a4 a5 a6 := by subst h; rfl
def un6 {α1 α2 α3 α4 α5 α6 β : Type} (u : α1 × α2 × α3 × α4 × α5 × α6) (k : α1 → α2 → α3 → α4 → α5 → α6 → Option β) : Option β := match u with | (a1, a2, a3, a4, a5, a6) => k a1 a2 a3 a4 a5 a6
theorem un6_at {α1 α2 α3 α4 α5 α6 β : Type} {a1 : α1} {a2 : α2} {a3 : α3} {a4 : α4} {a5 : α5} {a6 : α6} {k : α1 → α2 → α3 → α4 → α5 → α6 → Option β} {r : Option β} (h : un6 (a1, a2, a3, a4, a5, a6) k = r) : k a1 a2 a3 a4 a5 a6 = r := h
def bn7 {α1 α2 α3 α4 α5 α6 α7 β : Type} (o : Option (α1 × α2 × α3 × α4 × α5 × α6 × α7)) (k : α1 → α2 → α3 → α4 → α5 → α6 → α7 → Option β) : Option β := match o with | some (a1, a2, a3, a4, a5, a6, a7) => k a1 a2 a3 a4 a5 a6 a7 | none => none
theorem bn7_some {α1 α2 α3 α4 α5 α6 α7 β : Type} {o : Option (α1 × α2 × α3 × α4 × α5 × α6 × α7)} {k : α1 → α2 → α3 → α4 → α5 → α6 → α7 → Option β} {r : β} (h : bn7 o k = some r) : ∃ (a1 : α1) (a2 : α2) (a3 : α3) (a4 : α4) (a5 : α5) (a6 : α6) (a7 : α7), o = some (a1, a2, a3, a4, a5, a6, a7) ∧ k a1 a2 a3 a4 a5 a6 a7 = some r := by
  match o, h with
  | some (a1, a2, a3, a4, a5, a6, a7), h => exact ⟨a1, a2, a3, a4, a5, a6, a7, rfl, h⟩
theorem bn7_eq {α1 α2 α3 α4 α5 α6 α7 β : Type} {k : α1 → α2 → α3 → α4 → α5 → α6 → α7 → Option β} {a1 : α1} {a2 : α2} {a3 : α3} {a4 : α4} {a5 : α5} {a6 : α6} {a7 : α7} {o : Option (α1 × α2 × α3 × α4 × α5 × α6 × α7)} (h : o = some (a1, a2, a3, a4, a5, a6, a7)) : bn7 o k = k a1 a2 a3 a4 a5 a6 a7 := by subst h; rfl
def un7 {α1 α2 α3 α4 α5 α6 α7 β : Type} (u : α1 × α2 × α3 × α4 × α5 × α6 × α7) (k : α1 → α2 → α3 → α4 → α5 → α6 → α7 → Option β) : Option β := match u with | (a1, a2, a3, a4, a5, a6, a7) => k a1 a2 a3 a4 a5 a6 a7
theorem un7_at {α1 α2 α3 α4 α5 α6 α7 β : Type} {a1 : α1} {a2 : α2} {a3 : α3} {a4 : α4} {a5 : α5} {a6 : α6} {a7 : α7} {k : α1 → α2 → α3 → α4 → α5 → α6 → α7 → Option β} {r : Option β} (h : un7 (a1, a2, a3, a4, a5, a6, a7) k = r) : k a1 a2 a3 a4 a5 a6 a7 = r := h
def bn8 {α1 α2 α3 α4 α5 α6 α7 α8 β : Type} (o : Option (α1 × α2 × α3 × α4 × α5 × α6 × α7 × α8)) (k : α1 → α2 → α3 → α4 → α5 → α6 → α7 → α8 → Option β) : Option β := match o with | some (a1, a2, a3, a4, a5, a6, a7, a8) => k a1 a2 a3 a4 a5 a6 a7 a8 | none => none
theorem bn8_some {α1 α2 α3 α4 α5 α6 α7 α8 β : Type} {o : Option (α1 × α2 × α3 × α4 × α5 × α6 × α7 × α8)} {k : α1 → α2 → α3 → α4 → α5 → α6 → α7 → α8 → Option β} {r : β} (h : bn8 o k = some r) : ∃ (a1 : α1) (a2 : α2) (a3 : α3) (a4 : α4) (a5 : α5) (a6 : α6) (a7 : α7) (a8 : α8), o = some (a1, a2, a3, a4, a5, a6, a7, a8) ∧ k a1 a2 a3 a4 a5 a6 a7 a8 = some r := by
  match o, h with
  | some (a1, a2, a3, a4, a5, a6, a7, a8), h => exact ⟨a1, a2, a3, a4, a5, a6, a7, a8, rfl, h⟩
theorem bn8_eq {α1 α2 α3 α4 α5 α6 α7 α8 β : Type} {k : α1 → α2 → α3 → α4 → α5 → α6 → α7 → α8 → Option β} {a1 : α1} {a2 : α2} {a3 : α3} {a4 : α4} {a5 : α5} {a6 : α6} {a7 : α7} {a8 : α8} {o : Option (α1 × α2 × α3 × α4 × α5 × α6 × α7 × α8)} (h : o = some (a1, a2, a3, a4, a5, a6, a7, a8)) : bn8 o k = k a1 a2 a3 a4 a5 a6 a7 a8 := by subst h; rfl
def un8 {α1 α2 α3 α4 α5 α6 α7 α8 β : Type} (u : α1 × α2 × α3 × α4 × α5 × α6 × α7 × α8) (k : α1 → α2 → α3 → α4 → α5 → α6 → α7 → α8 → Option β) : Option β := match u with | (a1, a2, a3, a4, a5, a6, a7, a8) => k a1 a2 a3 a4 a5 a6 a7 a8
theorem un8_at {α1 α2 α3 α4 α5 α6 α7 α8 β : Type} {a1 : α1} {a2 : α2} {a3 : α3} {a4 : α4} {a5 : α5} {a6 : α6} {a7 : α7} {a8 : α8} {k : α1 → α2 → α3 → α4 → α5 → α6 → α7 → α8 → Option β} {r : Option β} (h : un8 (a1, a2, a3, a4, a5, a6, a7, a8) k = r) : k a1 a2 a3 a4 a5 a6 a7 a8 = r := h
def bn9 {α1 α2 α3 α4 α5 α6 α7 α8 α9 β : Type} (o : Option (α1 × α2 × α3 × α4 × α5 × α6 × α7 × α8 × α9)) (k : α1 → α2 → α3 → α4 → α5 → α6 → α7 → α8 → α9 → Option β) : Option β := match o with | some (a1, a2, a3, a4, a5, a6, a7, a8, a9) => k a1 a2 a3 a4 a5 a6 a7 a8 a9 | none => none
theorem bn9_some {α1 α2 α3 α4 α5 α6 α7 α8 α9 β : Type} {o : Option (α1 × α2 × α3 × α4 × α5 × α6 × α7 × α8 × α9)} {k : α1 → α2 → α3 → α4 → α5 → α6 → α7 → α8 → α9 → Option β} {r : β} (h : bn9 o k = some r) : ∃ (a1 : α1) (a2 : α2) (a3 : α3) (a4 : α4) (a5 : α5) (a6 : α6) (a7 : α7) (a8 : α8) (a9 : α9), o = some (a1, a2, a3, a4, a5, a6, a7, a8, a9) ∧ k a1 a2 a3 a4 a5 a6 a7 a8 a9 = some r := by
  match o, h with
  | some (a1, a2, a3, a4, a5, a6, a7, a8, a9), h => exact ⟨a1, a2, a3, a4, a5, a6, a7, a8, a9, rfl, h⟩
theorem bn9_eq {α1 α2 α3 α4 α5 α6 α7 α8 α9 β : Type} {k : α1 → α2 → α3 → α4 → α5 → α6 → α7 → α8 → α9 → Option β} {a1 : α1} {a2 : α2} {a3 : α3} {a4 : α4} {a5 : α5} {a6 : α6} {a7 : α7} {a8 : α8} {a9 : α9} {o : Option (α1 × α2 × α3 × α4 × α5 × α6 × α7 × α8 × α9)} (h : o = some (a1, a2, a3, a4, a5, a6, a7, a8, a9)) : bn9 o k = k a1 a2 a3 a4 a5 a6 a7 a8 a9 := by subst h; rfl
def un9 {α1 α2 α3 α4 α5 α6 α7 α8 α9 β : Type} (u : α1 × α2 × α3 × α4 × α5 × α6 × α7 × α8 × α9) (k : α1 → α2 → α3 → α4 → α5 → α6 → α7 → α8 → α9 → Option β) : Option β := match u with | (a1, a2, a3, a4, a5, a6, a7, a8, a9) => k a1 a2 a3 a4 a5 a6 a7 a8 a9
theorem un9_at {α1 α2 α3 α4 α5 α6 α7 α8 α9 β : Type} {a1 : α1} {a2 : α2} {a3 : α3} {a4 : α4} {a5 : α5} {a6 : α6} {a7 : α7} {a8 : α8} {a9 : α9} {k : α1 → α2 → α3 → α4 → α5 → α6 → α7 → α8 → α9 → Option β} {r : Option β} (h : un9 (a1, a2, a3, a4, a5, a6, a7, a8, a9) k = r) : k a1 a2 a3 a4 a5 a6 a7 a8 a9 = r := h
def bn10 {α1 α2 α3 α4 α5 α6 α7 α8 α9 α10 β : Type} (o : Option (α1 × α2 × α3 × α4 × α5 × α6 × α7 × α8 × α9 × α10)) (k : α1 → α2 → α3 → α4 → α5 → α6 → α7 → α8 → α9 → α10 → Option β) : Option β := match o with | some (a1, a2, a3, a4, a5, a6, a7, a8, a9, a10) => k a1 a2 a3 a4 a5 a6 a7 a8 a9 a10 | none => none
theorem bn10_some {α1 α2 α3 α4 α5 α6 α7 α8 α9 α10 β : Type} {o : Option (α1 × α2 × α3 × α4 × α5 × α6 × α7 × α8 × α9 × α10)} {k : α1 → α2 → α3 → α4 → α5 → α6 → α7 → α8 → α9 → α10 → Option β} {r : β} (h : bn10 o k = some r) : ∃ (a1 : α1) (a2 : α2) (a3 : α3) (a4 : α4) (a5 : α5) (a6 : α6) (a7 : α7) (a8 : α8) (a9 : α9) (a10 : α10), o = some (a1, a2, a3, a4, a5, a6, a7, a8, a9, a10) ∧ k a1 a2 a3 a4 a5 a6 a7 a8 a9 a10 = some r := by
  match o, h with
  | some (a1, a2, a3, a4, a5, a6, a7, a8, a9, a10), h => exact ⟨a1, a2, a3, a4, a5, a6, a7, a8, a9, a10, rfl, h⟩
theorem bn10_eq {α1 α2 α3 α4 α5 α6 α7 α8 α9 α10 β : Type} {k : α1 → α2 → α3 → α4 → α5 → α6 → α7 → α8 → α9 → α10 → Option β} {a1 : α1} {a2 : α2} {a3 : α3} {a4 : α4} {a5 : α5} {a6 : α6} {a7 : α7} {a8 : α8} {a9 : α9} {a10 : α10} {o : Option (α1 × α2 × α3 × α4 × α5 × α6 × α7 × α8 × α9 × α10)} (h : o = some (a1, a2, a3, a4, a5, a6, a7, a8, a9, a10)) : bn10 o k = k a1 a2 a3 a4 a5 a6 a7 a8 a9 a10 := by subst h; rfl
def un10 {α1 α2 α3 α4 α5 α6 α7 α8 α9 α10 β : Type} (u : α1 × α2 × α3 × α4 × α5 × α6 × α7 × α8 × α9 × α10) (k : α1 → α2 → α3 → α4 → α5 → α6 → α7 → α8 → α9 → α10 → Option β) : Option β := match u with | (a1, a2, a3, a4, a5, a6, a7, a8, a9, a10) => k a1 a2 a3 a4 a5 a6 a7 a8 a9 a10
theorem un10_at {α1 α2 α3 α4 α5 α6 α7 α8 α9 α10 β : Type} {a1 : α1} {a2 : α2} {a3 : α3} {a4 : α4} {a5 : α5} {a6 : α6} {a7 : α7} {a8 : α8} {a9 : α9} {a10 : α10} {k : α1 → α2 → α3 → α4 → α5 → α6 → α7 → α8 → α9 → α10 → Option β} {r : Option β} (h : un10 (a1, a2, a3, a4, a5, a6, a7, a8, a9, a10) k = r) : k a1 a2 a3 a4 a5 a6 a7 a8 a9 a10 = r := h
def bn11 {α1 α2 α3 α4 α5 α6 α7 α8 α9 α10 α11 β : Type} (o : Option (α1 × α2 × α3 × α4 × α5 × α6 × α7 × α8 × α9 × α10 × α11)) (k : α1 → α2 → α3 → α4 → α5 → α6 → α7 → α8 → α9 → α10 → α11 → Option β) : Option β := match o with | some (a1, a2, a3, a4, a5, a6, a7, a8, a9, a10, a11) => k a1 a2 a3 a4 a5 a6 a7 a8 a9 a10 a11 | none => none
theorem bn11_some {α1 α2 α3 α4 α5 α6 α7 α8 α9 α10 α11 β : Type} {o : Option (α1 × α2 × α3 × α4 × α5 × α6 × α7 × α8 × α9 × α10 × α11)} {k : α1 → α2 → α3 → α4 → α5 → α6 → α7 → α8 → α9 → α10 → α11 → Option β} {r : β} (h : bn11 o k = some r) : ∃ (a1 : α1) (a2 : α2) (a3 : α3) (a4 : α4) (a5 : α5) (a6 : α6) (a7 : α7) (a8 : α8) (a9 : α9) (a10 : α10) (a11 : α11), o = some (a1, a2, a3, a4, a5, a6, a7, a8, a9, a10, a11) ∧ k a1 a2 a3 a4 a5 a6 a7 a8 a9 a10 a11 = some r := by
  match o, h with
  | some (a1, a2, a3, a4, a5, a6, a7, a8, a9, a10, a11), h => exact ⟨a1, a2, a3, a4, a5, a6, a7, a8, a9, a10, a11, rfl, h⟩
theorem bn11_eq {α1 α2 α3 α4 α5 α6 α7 α8 α9 α10 α11 β : Type} {k : α1 → α2 → α3 → α4 → α5 → α6 → α7 → α8 → α9 → α10 → α11 → Option β} {a1 : α1} {a2 : α2} {a3 : α3} {a4 : α4} {a5 : α5} {a6 : α6} {a7 : α7} {a8 : α8} {a9 : α9} {a10 : α10} {a11 : α11} {o : Option (α1 × α2 × α3 × α4 × α5 × α6 × α7 × α8 × α9 × α10 × α11)} (h : o = some (a1, a2, a3, a4, a5, a6, a7, a8, a9, a10, a11)) : bn11 o k = k a1 a2 a3 a4 a5 a6 a7 a8 a9 a10 a11 := by subst h; rfl
def un11 {α1 α2 α3 α4 α5 α6 α7 α8 α9 α10 α11 β : Type} (u : α1 × α2 × α3 × α4 × α5 × α6 × α7 × α8 × α9 × α10 × α11) (k : α1 → α2 → α3 → α4 → α5 → α6 → α7 → α8 → α9 → α10 → α11 → Option β) : Option β := match u with | (a1, a2, a3, a4, a5, a6, a7, a8, a9, a10, a11) => k a1 a2 a3 a4 a5 a6 a7 a8 a9 a10 a11
theorem un11_at {α1 α2 α3 α4 α5 α6 α7 α8 α9 α10 α11 β : Type} {a1 : α1} {a2 : α2} {a3 : α3} {a4 : α4} {a5 : α5} {a6 : α6} {a7 : α7} {a8 : α8} {a9 : α9} {a10 : α10} {a11 : α11} {k : α1 → α2 → α3 → α4 → α5 → α6 → α7 → α8 → α9 → α10 → α11 → Option β} {r : Option β} (h : un11 (a1, a2, a3, a4, a5, a6, a7, a8, a9, a10, a11) k = r) : k a1 a2 a3 a4 a5 a6 a7 a8 a9 a10 a11 = r := h
def bn12 {α1 α2 α3 α4 α5 α6 α7 α8 α9 α10 α11 α12 β : Type} (o : Option (α1 × α2 × α3 × α4 × α5 × α6 × α7 × α8 × α9 × α10 × α11 × α12)) (k : α1 → α2 → α3 → α4 → α5 → α6 → α7 → α8 → α9 → α10 → α11 → α12 → Option β) : Option β := match o with | some (a1, a2, a3, a4, a5, a6, a7, a8, a9, a10, a11, a12) => k a1 a2 a3 a4 a5 a6 a7 a8 a9 a10 a11 a12 | none => none
theorem bn12_some {α1 α2 α3 α4 α5 α6 α7 α8 α9 α10 α11 α12 β : Type} {o : Option (α1 × α2 × α3 × α4 × α5 × α6 × α7 × α8 × α9 × α10 × α11 × α12)} {k : α1 → α2 → α3 → α4 → α5 → α6 → α7 → α8 → α9 → α10 → α11 → α12 → Option β} {r : β} (h : bn12 o k = some r) : ∃ (a1 : α1) (a2 : α2) (a3 : α3) (a4 : α4) (a5 : α5) (a6 : α6) (a7 : α7) (a8 : α8) (a9 : α9) (a10 : α10) (a11 : α11) (a12 : α12), o = some (a1, a2, a3, a4, a5, a6, a7, a8, a9, a10, a11, a12) ∧ k a1 a2 a3 a4 a5 a6 a7 a8 a9 a10 a11 a12 = some r := by
  match o, h with
  | some (a1, a2, a3, a4, a5, a6, a7, a8, a9, a10, a11, a12), h => exact ⟨a1, a2, a3, a4, a5, a6, a7, a8, a9, a10, a11, a12, rfl, h⟩
theorem bn12_eq {α1 α2 α3 α4 α5 α6 α7 α8 α9 α10 α11 α12 β : Type} {k : α1 → α2 → α3 → α4 → α5 → α6 → α7 → α8 → α9 → α10 → α11 → α12 → Option β} {a1 : α1} {a2 : α2} {a3 : α3} {a4 : α4} {a5 : α5} {a6 : α6} {a7 : α7} {a8 : α8} {a9 : α9} {a10 : α10} {a11 : α11} {a12 : α12} {o : Option (α1 × α2 × α3 × α4 × α5 × α6 × α7 × α8 × α9 × α10 × α11 × α12)} (h : o = some (a1, a2, a3, a4, a5, a6, a7, a8, a9, a10, a11, a12)) : bn12 o k = k a1 a2 a3 a4 a5 a6 a7 a8 a9 a10 a11 a12 := by subst h; rfl
def un12 {α1 α2 α3 α4 α5 α6 α7 α8 α9 α10 α11 α12 β : Type} (u : α1 × α2 × α3 × α4 × α5 × α6 × α7 × α8 × α9 × α10 × α11 × α12) (k : α1 → α2 → α3 → α4 → α5 → α6 → α7 → α8 → α9 → α10 → α11 → α12 → Option β) : Option β := match u with | (a1, a2, a3, a4, a5, a6, a7, a8, a9, a10, a11, a12) => k a1 a2 a3 a4 a5 a6 a7 a8 a9 a10 a11 a12
theorem un12_at {α1 α2 α3 α4 α5 α6 α7 α8 α9 α10 α11 α12 β : Type} {a1 : α1} {a2 : α2} {a3 : α3} {a4 : α4} {a5 : α5} {a6 : α6} {a7 : α7} {a8 : α8} {a9 : α9} {a10 : α10} {a11 : α11} {a12 : α12} {k : α1 → α2 → α3 → α4 → α5 → α6 → α7 → α8 → α9 → α10 → α11 → α12 → Option β} {r : Option β} (h : un12 (a1, a2, a3, a4, a5, a6, a7, a8, a9, a10, a11, a12) k = r) : k a1 a2 a3 a4 a5 a6 a7 a8 a9 a10 a11 a12 = r := h
def bn13 {α1 α2 α3 α4 α5 α6 α7 α8 α9 α10 α11 α12 α13 β : Type} (o : Option (α1 × α2 × α3 × α4 × α5 × α6 × α7 × α8 × α9 × α10 × α11 × α12 × α13)) (k : α1 → α2 → α3 → α4 → α5 → α6 → α7 → α8 → α9 → α10 → α11 → α12 → α13 → Option β) : Option β := match o with | some (a1, a2, a3, a4, a5, a6, a7, a8, a9, a10, a11, a12, a13) => k a1 a2 a3 a4 a5 a6 a7 a8 a9 a10 a11 a12 a13 | none => none
theorem bn13_some {α1 α2 α3 α4 α5 α6 α7 α8 α9 α10 α11 α12 α13 β : Type} {o : Option (α1 × α2 × α3 × α4 × α5 × α6 × α7 × α8 × α9 × α10 × α11 × α12 × α13)} {k : α1 → α2 → α3 → α4 → α5 → α6 → α7 → α8 → α9 → α10 → α11 → α12 → α13 → Option β} {r : β} (h : bn13 o k = some r) : ∃ (a1 : α1) (a2 : α2) (a3 : α3) (a4 : α4) (a5 : α5) (a6 : α6) (a7 : α7) (a8 : α8) (a9 : α9) (a10 : α10) (a11 : α11) (a12 : α12) (a13 : α13), o = some (a1, a2, a3, a4, a5, a6, a7, a8, a9, a10, a11, a12, a13) ∧ k a1 a2 a3 a4 a5 a6 a7 a8 a9 a10 a11 a12 a13 = some r := by
  match o, h with
  | some (a1, a2, a3, a4, a5, a6, a7, a8, a9, a10, a11, a12, a13), h => exact ⟨a1, a2, a3, a4, a5, a6, a7, a8, a9, a10, a11, a12, a13, rfl, h⟩
theorem bn13_eq {α1 α2 α3 α4 α5 α6 α7 α8 α9 α10 α11 α12 α13 β : Type} {k : α1 → α2 → α3 → α4 → α5 → α6 → α7 → α8 → α9 → α10 → α11 → α12 → α13 → Option β} {a1 : α1} {a2 : α2} {a3 : α3} {a4 : α4} {a5 : α5} {a6 : α6} {a7 : α7} {a8 : α8} {a9 : α9} {a10 : α10} {a11 : α11} {a12 : α12} {a13 : α13} {o : Option (α1 × α2 × α3 × α4 × α5 × α6 × α7 × α8 × α9 × α10 × α11 × α12 × α13)} (h : o = some (a1, a2, a3, a4, a5, a6, a7, a8, a9, a10, a11, a12, a13)) : bn13 o k = k a1 a2 a3 a4 a5 a6 a7 a8 a9 a10 a11 a12 a13 := by subst h; rfl
def un13 {α1 α2 α3 α4 α5 α6 α7 α8 α9 α10 α11 α12 α13 β : Type} (u : α1 × α2 × α3 × α4 × α5 × α6 × α7 × α8 × α9 × α10 × α11 × α12 × α13) (k : α1 → α2 → α3 → α4 → α5 → α6 → α7 → α8 → α9 → α10 → α11 → α12 → α13 → Option β) : Option β := match u with | (a1, a2, a3, a4, a5, a6, a7, a8, a9, a10, a11, a12, a13) => k a1 a2 a3 a4 a5 a6 a7 a8 a9 a10 a11 a12 a13
theorem un13_at {α1 α2 α3 α4 α5 α6 α7 α8 α9 α10 α11 α12 α13 β : Type} {a1 : α1} {a2 : α2} {a3 : α3} {a4 : α4} {a5 : α5} {a6 : α6} {a7 : α7} {a8 : α8} {a9 : α9} {a10 : α10} {a11 : α11} {a12 : α12} {a13 : α13} {k : α1 → α2 → α3 → α4 → α5 → α6 → α7 → α8 → α9 → α10 → α11 → α12 → α13 → Option β} {r : Option β} (h : un13 (a1, a2, a3, a4, a5, a6, a7, a8, a9, a10, a11, a12, a13) k = r) : k a1 a2 a3 a4 a5 a6 a7 a8 a9 a10 a11 a12 a13 = r := h
def bn14 {α1 α2 α3 α4 α5 α6 α7 α8 α9 α10 α11 α12 α13 α14 β : Type} (o : Option (α1 × α2 × α3 × α4 × α5 × α6 × α7 × α8 × α9 × α10 × α11 × α12 × α13 × α14)) (k : α1 → α2 → α3 → α4 → α5 → α6 → α7 → α8 → α9 → α10 → α11 → α12 → α13 → α14 → Option β) : Option β := match o with | some (a1, a2, a3, a4, a5, a6, a7, a8, a9, a10, a11, a12, a13, a14) => k a1 a2 a3 a4 a5 a6 a7 a8 a9 a10 a11 a12 a13 a14 | none => none
theorem bn14_some {α1 α2 α3 α4 α5 α6 α7 α8 α9 α10 α11 α12 α13 α14 β : Type} {o : Option (α1 × α2 × α3 × α4 × α5 × α6 × α7 × α8 × α9 × α10 × α11 × α12 × α13 × α14)} {k : α1 → α2 → α3 → α4 → α5 → α6 → α7 → α8 → α9 → α10 → α11 → α12 → α13 → α14 → Option β} {r : β} (h : bn14 o k = some r) : ∃ (a1 : α1) (a2 : α2) (a3 : α3) (a4 : α4) (a5 : α5) (a6 : α6) (a7 : α7) (a8 : α8) (a9 : α9) (a10 : α10) (a11 : α11) (a12 : α12) (a13 : α13) (a14 : α14), o = some (a1, a2, a3, a4, a5, a6, a7, a8, a9, a10, a11, a12, a13, a14) ∧ k a1 a2 a3 a4 a5 a6 a7 a8 a9 a10 a11 a12 a13 a14 = some r := by
  match o, h with
  | some (a1, a2, a3, a4, a5, a6, a7, a8, a9, a10, a11, a12, a13, a14), h => exact ⟨a1, a2, a3, a4, a5, a6, a7, a8, a9, a10, a11, a12, a13, a14, rfl, h⟩
theorem bn14_eq {α1 α2 α3 α4 α5 α6 α7 α8 α9 α10 α11 α12 α13 α14 β : Type} {k : α1 → α2 → α3 → α4 → α5 → α6 → α7 → α8 → α9 → α10 → α11 → α12 → α13 → α14 → Option β} {a1 : α1} {a2 : α2} {a3 : α3} {a4 : α4} {a5 : α5} {a6 : α6} {a7 : α7} {a8 : α8} {a9 : α9} {a10 : α10} {a11 : α11} {a12 : α12} {a13 : α13} {a14 : α14} {o : Option (α1 × α2 × α3 × α4 × α5 × α6 × α7 × α8 × α9 × α10 × α11 × α12 × α13 × α14)} (h : o = some (a1, a2, a3, a4, a5, a6, a7, a8, a9, a10, a11, a12, a13, a14)) : bn14 o k = k a1 a2 a3 a4 a5 a6 a7 a8 a9 a10 a11 a12 a13 a14 := by subst h; rfl
def un14 {α1 α2 α3 α4 α5 α6 α7 α8 α9 α10 α11 α12 α13 α14 β : Type} (u : α1 × α2 × α3 × α4 × α5 × α6 × α7 × α8 × α9 × α10 × α11 × α12 × α13 × α14) (k : α1 → α2 → α3 → α4 → α5 → α6 → α7 → α8 → α9 → α10 → α11 → α12 → α13 → α14 → Option β) : Option β := match u with | (a1, a2, a3, a4, a5, a6, a7, a8, a9, a10, a11, a12, a13, a14) => k a1 a2 a3 a4 a5 a6 a7 a8 a9 a10 a11 a12 a13 a14
theorem un14_at {α1 α2 α3 α4 α5 α6 α7 α8 α9 α10 α11 α12 α13 α14 β : Type} {a1 : α1} {a2 : α2} {a3 : α3} {a4 : α4} {a5 : α5} {a6 : α6} {a7 : α7} {a8 : α8} {a9 : α9} {a10 : α10} {a11 : α11} {a12 : α12} {a13 : α13} {a14 : α14} {k : α1 → α2 → α3 → α4 → α5 → α6 → α7 → α8 → α9 → α10 → α11 → α12 → α13 → α14 → Option β} {r : Option β} (h : un14 (a1, a2, a3, a4, a5, a6, a7, a8, a9, a10, a11, a12, a13, a14) k = r) : k a1 a2 a3 a4 a5 a6 a7 a8 a9 a10 a11 a12 a13 a14 = r := h
def bn15 {α1 α2 α3 α4 α5 α6 α7 α8 α9 α10 α11 α12 α13 α14 α15 β : Type} (o : Option (α1 × α2 × α3 × α4 × α5 × α6 × α7 × α8 × α9 × α10 × α11 × α12 × α13 × α14 × α15)) (k : α1 → α2 → α3 → α4 → α5 → α6 → α7 → α8 → α9 → α10 → α11 → α12 → α13 → α14 → α15 → Option β) : Option β := match o with | some (a1, a2, a3, a4, a5, a6, a7, a8, a9, a10, a11, a12, a13, a14, a15) => k a1 a2 a3 a4 a5 a6 a7 a8 a9 a10 a11 a12 a13 a14 a15 | none => none
theorem bn15_some {α1 α2 α3 α4 α5 α6 α7 α8 α9 α10 α11 α12 α13 α14 α15 β : Type} {o : Option (α1 × α2 × α3 × α4 × α5 × α6 × α7 × α8 × α9 × α10 × α11 × α12 × α13 × α14 × α15)} {k : α1 → α2 → α3 → α4 → α5 → α6 → α7 → α8 → α9 → α10 → α11 → α12 → α13 → α14 → α15 → Option β} {r : β} (h : bn15 o k = some r) : ∃ (a1 : α1) (a2 : α2) (a3 : α3) (a4 : α4) (a5 : α5) (a6 : α6) (a7 : α7) (a8 : α8) (a9 : α9) (a10 : α10) (a11 : α11) (a12 : α12) (a13 : α13) (a14 : α14) (a15 : α15), o = some (a1, a2, a3, a4, a5, a6, a7, a8, a9, a10, a11, a12, a13, a14, a15) ∧ k a1 a2 a3 a4 a5 a6 a7 a8 a9 a10 a11 a12 a13 a14 a15 = some r := by
  match o, h with
  | some (a1, a2, a3, a4, a5, a6, a7, a8, a9, a10, a11, a12, a13, a14, a15), h => exact ⟨a1, a2, a3, a4, a5, a6, a7, a8, a9, a10, a11, a12, a13, a14, a15, rfl, h⟩
theorem bn15_eq {α1 α2 α3 α4 α5 α6 α7 α8 α9 α10 α11 α12 α13 α14 α15 β : Type} {k : α1 → α2 → α3 → α4 → α5 → α6 → α7 → α8 → α9 → α10 → α11 → α12 → α13 → α14 → α15 → Option β} {a1 : α1} {a2 : α2} {a3 : α3} {a4 : α4} {a5 : α5} {a6 : α6} {a7 : α7} {a8 : α8} {a9 : α9} {a10 : α10} {a11 : α11} {a12 : α12} {a13 : α13} {a14 : α14} {a15 : α15} {o : Option (α1 × α2 × α3 × α4 × α5 × α6 × α7 × α8 × α9 × α10 × α11 × α12 × α13 × α14 × α15)} (h : o = some (a1, a2, a3, a4, a5, a6, a7, a8, a9, a10, a11, a12, a13, a14, a15)) : bn15 o k = k a1 a2 a3 a4 a5 a6 a7 a8 a9 a10 a11 a12 a13 a14 a15 := by subst h; rfl
def un15 {α1 α2 α3 α4 α5 α6 α7 α8 α9 α10 α11 α12 α13 α14 α15 β : Type} (u : α1 × α2 × α3 × α4 × α5 × α6 × α7 × α8 × α9 × α10 × α11 × α12 × α13 × α14 × α15) (k : α1 → α2 → α3 → α4 → α5 → α6 → α7 → α8 → α9 → α10 → α11 → α12 → α13 → α14 → α15 → Option β) : Option β := match u with | (a1, a2, a3, a4, a5, a6, a7, a8, a9, a10, a11, a12, a13, a14, a15) => k a1 a2 a3 a4 a5 a6 a7 a8 a9 a10 a11 a12 a13 a14 a15
theorem un15_at {α1 α2 α3 α4 α5 α6 α7 α8 α9 α10 α11 α12 α13 α14 α15 β : Type} {a1 : α1} {a2 : α2} {a3 : α3} {a4 : α4} {a5 : α5} {a6 : α6} {a7 : α7} {a8 : α8} {a9 : α9} {a10 : α10} {a11 : α11} {a12 : α12} {a13 : α13} {a14 : α14} {a15 : α15} {k : α1 → α2 → α3 → α4 → α5 → α6 → α7 → α8 → α9 → α10 → α11 → α12 → α13 → α14 → α15 → Option β} {r : Option β} (h : un15 (a1, a2, a3, a4, a5, a6, a7, a8, a9, a10, a11, a12, a13, a14, a15) k = r) : k a1 a2 a3 a4 a5 a6 a7 a8 a9 a10 a11 a12 a13 a14 a15 = r := h
def bn16 {α1 α2 α3 α4 α5 α6 α7 α8 α9 α10 α11 α12 α13 α14 α15 α16 β : Type} (o : Option (α1 × α2 × α3 × α4 × α5 × α6 × α7 × α8 × α9 × α10 × α11 × α12 × α13 × α14 × α15 × α16)) (k : α1 → α2 → α3 → α4 → α5 → α6 → α7 → α8 → α9 → α10 → α11 → α12 → α13 → α14 → α15 → α16 → Option β) : Option β := match o with | some (a1, a2, a3, a4, a5, a6, a7, a8, a9, a10, a11, a12, a13, a14, a15, a16) => k a1 a2 a3 a4 a5 a6 a7 a8 a9 a10 a11 a12 a13 a14 a15 a16 | none => none
theorem bn16_some {α1 α2 α3 α4 α5 α6 α7 α8 α9 α10 α11 α12 α13 α14 α15 α16 β : Type} {o : Option (α1 × α2 × α3 × α4 × α5 × α6 × α7 × α8 × α9 × α10 × α11 × α12 × α13 × α14 × α15 × α16)} {k : α1 → α2 → α3 → α4 → α5 → α6 → α7 → α8 → α9 → α10 → α11 → α12 → α13 → α14 → α15 → α16 → Option β} {r : β} (h : bn16 o k = some r) : ∃ (a1 : α1) (a2 : α2) (a3 : α3) (a4 : α4) (a5 : α5) (a6 : α6) (a7 : α7) (a8 : α8) (a9 : α9) (a10 : α10) (a11 : α11) (a12 : α12) (a13 : α13) (a14 : α14) (a15 : α15) (a16 : α16), o = some (a1, a2, a3, a4, a5, a6, a7, a8, a9, a10, a11, a12, a13, a14, a15, a16) ∧ k a1 a2 a3 a4 a5 a6 a7 a8 a9 a10 a11 a12 a13 a14 a15 a16 = some r := by
  match o, h with
  | some (a1, a2, a3, a4, a5, a6, a7, a8, a9, a10, a11, a12, a13, a14, a15, a16), h => exact ⟨a1, a2, a3, a4, a5, a6, a7, a8, a9, a10, a11, a12, a13, a14, a15, a16, rfl, h⟩
theorem bn16_eq {α1 α2 α3 α4 α5 α6 α7 α8 α9 α10 α11 α12 α13 α14 α15 α16 β : Type} {k : α1 → α2 → α3 → α4 → α5 → α6 → α7 → α8 → α9 → α10 → α11 → α12 → α13 → α14 → α15 → α16 → Option β} {a1 : α1} {a2 : α2} {a3 : α3} {a4 : α4} {a5 : α5} {a6 : α6} {a7 : α7} {a8 : α8} {a9 : α9} {a10 : α10} {a11 : α11} {a12 : α12} {a13 : α13} {a14 : α14} {a15 : α15} {a16 : α16} {o : Option (α1 × α2 × α3 × α4 × α5 × α6 × α7 × α8 × α9 × α10 × α11 × α12 × α13 × α14 × α15 × α16)} (h : o = some (a1, a2, a3, a4, a5, a6, a7, a8, a9, a10, a11, a12, a13, a14, a15, a16)) : bn16 o k = k a1 a2 a3 a4 a5 a6 a7 a8 a9 a10 a11 a12 a13 a14 a15 a16 := by subst h; rfl
def un16 {α1 α2 α3 α4 α5 α6 α7 α8 α9 α10 α11 α12 α13 α14 α15 α16 β : Type} (u : α1 × α2 × α3 × α4 × α5 × α6 × α7 × α8 × α9 × α10 × α11 × α12 × α13 × α14 × α15 × α16) (k : α1 → α2 → α3 → α4 → α5 → α6 → α7 → α8 → α9 → α10 → α11 → α12 → α13 → α14 → α15 → α16 → Option β) : Option β := match u with | (a1, a2, a3, a4, a5, a6, a7, a8, a9, a10, a11, a12, a13, a14, a15, a16) => k a1 a2 a3 a4 a5 a6 a7 a8 a9 a10 a11 a12 a13 a14 a15 a16
theorem un16_at {α1 α2 α3 α4 α5 α6 α7 α8 α9 α10 α11 α12 α13 α14 α15 α16 β : Type} {a1 : α1} {a2 : α2} {a3 : α3} {a4 : α4} {a5 : α5} {a6 : α6} {a7 : α7} {a8 : α8} {a9 : α9} {a10 : α10} {a11 : α11} {a12 : α12} {a13 : α13} {a14 : α14} {a15 : α15} {a16 : α16} {k : α1 → α2 → α3 → α4 → α5 → α6 → α7 → α8 → α9 → α10 → α11 → α12 → α13 → α14 → α15 → α16 → Option β} {r : Option β} (h : un16 (a1, a2, a3, a4, a5, a6, a7, a8, a9, a10, a11, a12, a13, a14, a15, a16) k = r) : k a1 a2 a3 a4 a5 a6 a7 a8 a9 a10 a11 a12 a13 a14 a15 a16 = r := h
def bn17 {α1 α2 α3 α4 α5 α6 α7 α8 α9 α10 α11 α12 α13 α14 α15 α16 α17 β : Type} (o : Option (α1 × α2 × α3 × α4 × α5 × α6 × α7 × α8 × α9 × α10 × α11 × α12 × α13 × α14 × α15 × α16 × α17)) (k : α1 → α2 → α3 → α4 → α5 → α6 → α7 → α8 → α9 → α10 → α11 → α12 → α13 → α14 → α15 → α16 → α17 → Option β) : Option β := match o with | some (a1, a2, a3, a4, a5, a6, a7, a8, a9, a10, a11, a12, a13, a14, a15, a16, a17) => k a1 a2 a3 a4 a5 a6 a7 a8 a9 a10 a11 a12 a13 a14 a15 a16 a17 | none => none
theorem bn17_some {α1 α2 α3 α4 α5 α6 α7 α8 α9 α10 α11 α12 α13 α14 α15 α16 α17 β : Type} {o : Option (α1 × α2 × α3 × α4 × α5 × α6 × α7 × α8 × α9 × α10 × α11 × α12 × α13 × α14 × α15 × α16 × α17)} {k : α1 → α2 → α3 → α4 → α5 → α6 → α7 → α8 → α9 → α10 → α11 → α12 → α13 → α14 → α15 → α16 → α17 → Option β} {r : β} (h : bn17 o k = some r) : ∃ (a1 : α1) (a2 : α2) (a3 : α3) (a4 : α4) (a5 : α5) (a6 : α6) (a7 : α7) (a8 : α8) (a9 : α9) (a10 : α10) (a11 : α11) (a12 : α12) (a13 : α13) (a14 : α14) (a15 : α15) (a16 : α16) (a17 : α17), o = some (a1, a2, a3, a4, a5, a6, a7, a8, a9, a10, a11, a12, a13, a14, a15, a16, a17) ∧ k a1 a2 a3 a4 a5 a6 a7 a8 a9 a10 a11 a12 a13 a14 a15 a16 a17 = some r := by
  match o, h with
  | some (a1, a2, a3, a4, a5, a6, a7, a8, a9, a10, a11, a12, a13, a14, a15, a16, a17), h => exact ⟨a1, a2, a3, a4, a5, a6, a7, a8, a9, a10, a11, a12, a13, a14, a15, a16, a17, rfl, h⟩
theorem bn17_eq {α1 α2 α3 α4 α5 α6 α7 α8 α9 α10 α11 α12 α13 α14 α15 α16 α17 β : Type} {k : α1 → α2 → α3 → α4 → α5 → α6 → α7 → α8 → α9 → α10 → α11 → α12 → α13 → α14 → α15 → α16 → α17 → Option β} {a1 : α1} {a2 : α2} {a3 : α3} {a4 : α4} {a5 : α5} {a6 : α6} {a7 : α7} {a8 : α8} {a9 : α9} {a10 : α10} {a11 : α11} {a12 : α12} {a13 : α13} {a14 : α14} {a15 : α15} {a16 : α16} {a17 : α17} {o : Option (α1 × α2 × α3 × α4 × α5 × α6 × α7 × α8 × α9 × α10 × α11 × α12 × α13 × α14 × α15 × α16 × α17)} (h : o = some (a1, a2, a3, a4, a5, a6, a7, a8, a9, a10, a11, a12, a13, a14, a15, a16, a17)) : bn17 o k = k a1 a2 a3 a4 a5 a6 a7 a8 a9 a10 a11 a12 a13 a14 a15 a16 a17 := by subst h; rfl
def un17 {α1 α2 α3 α4 α5 α6 α7 α8 α9 α10 α11 α12 α13 α14 α15 α16 α17 β : Type} (u : α1 × α2 × α3 × α4 × α5 × α6 × α7 × α8 × α9 × α10 × α11 × α12 × α13 × α14 × α15 × α16 × α17) (k : α1 → α2 → α3 → α4 → α5 → α6 → α7 → α8 → α9 → α10 → α11 → α12 → α13 → α14 → α15 → α16 → α17 → Option β) : Option β := match u with | (a1, a2, a3, a4, a5, a6, a7, a8, a9, a10, a11, a12, a13, a14, a15, a16, a17) => k a1 a2 a3 a4 a5 a6 a7 a8 a9 a10 a11 a12 a13 a14 a15 a16 a17
theorem un17_at {α1 α2 α3 α4 α5 α6 α7 α8 α9 α10 α11 α12 α13 α14 α15 α16 α17 β : Type} {a1 : α1} {a2 : α2} {a3 : α3} {a4 : α4} {a5 : α5} {a6 : α6} {a7 : α7} {a8 : α8} {a9 : α9} {a10 : α10} {a11 : α11} {a12 : α12} {a13 : α13} {a14 : α14} {a15 : α15} {a16 : α16} {a17 : α17} {k : α1 → α2 → α3 → α4 → α5 → α6 → α7 → α8 → α9 → α10 → α11 → α12 → α13 → α14 → α15 → α16 → α17 → Option β} {r : Option β} (h : un17 (a1, a2, a3, a4, a5, a6, a7, a8, a9, a10, a11, a12, a13, a14, a15, a16, a17) k = r) : k a1 a2 a3 a4 a5 a6 a7 a8 a9 a10 a11 a12 a13 a14 a15 a16 a17 = r := h
def bn18 {α1 α2 α3 α4 α5 α6 α7 α8 α9 α10 α11 α12 α13 α14 α15 α16 α17 α18 β : Type} (o : Option (α1 × α2 × α3 × α4 × α5 × α6 × α7 × α8 × α9 × α10 × α11 × α12 × α13 × α14 × α15 × α16 × α17 × α18)) (k : α1 → α2 → α3 → α4 → α5 → α6 → α7 → α8 → α9 → α10 → α11 → α12 → α13 → α14 → α15 → α16 → α17 → α18 → Option β) : Option β := match o with | some (a1, a2, a3, a4, a5, a6, a7, a8, a9, a10, a11, a12, a13, a14, a15, a16, a17, a18) => k a1 a2 a3 a4 a5 a6 a7 a8 a9 a10 a11 a12 a13 a14 a15 a16 a17 a18 | none => none
theorem bn18_some {α1 α2 α3 α4 α5 α6 α7 α8 α9 α10 α11 α12 α13 α14 α15 α16 α17 α18 β : Type} {o : Option (α1 × α2 × α3 × α4 × α5 × α6 × α7 × α8 × α9 × α10 × α11 × α12 × α13 × α14 × α15 × α16 × α17 × α18)} {k : α1 → α2 → α3 → α4 → α5 → α6 → α7 → α8 → α9 → α10 → α11 → α12 → α13 → α14 → α15 → α16 → α17 → α18 → Option β} {r : β} (h : bn18 o k = some r) : ∃ (a1 : α1) (a2 : α2) (a3 : α3) (a4 : α4) (a5 : α5) (a6 : α6) (a7 : α7) (a8 : α8) (a9 : α9) (a10 : α10) (a11 : α11) (a12 : α12) (a13 : α13) (a14 : α14) (a15 : α15) (a16 : α16) (a17 : α17) (a18 : α18), o = some (a1, a2, a3, a4, a5, a6, a7, a8, a9, a10, a11, a12, a13, a14, a15, a16, a17, a18) ∧ k a1 a2 a3 a4 a5 a6 a7 a8 a9 a10 a11 a12 a13 a14 a15 a16 a17 a18 = some r := by
  match o, h with
  | some (a1, a2, a3, a4, a5, a6, a7, a8, a9, a10, a11, a12, a13, a14, a15, a16, a17, a18), h => exact ⟨a1, a2, a3, a4, a5, a6, a7, a8, a9, a10, a11, a12, a13, a14, a15, a16, a17, a18, rfl, h⟩
theorem bn18_eq {α1 α2 α3 α4 α5 α6 α7 α8 α9 α10 α11 α12 α13 α14 α15 α16 α17 α18 β : Type} {k : α1 → α2 → α3 → α4 → α5 → α6 → α7 → α8 → α9 → α10 → α11 → α12 → α13 → α14 → α15 → α16 → α17 → α18 → Option β} {a1 : α1} {a2 : α2} {a3 : α3} {a4 : α4} {a5 : α5} {a6 : α6} {a7 : α7} {a8 : α8} {a9 : α9} {a10 : α10} {a11 : α11} {a12 : α12} {a13 : α13} {a14 : α14} {a15 : α15} {a16 : α16} {a17 : α17} {a18 : α18} {o : Option (α1 × α2 × α3 × α4 × α5 × α6 × α7 × α8 × α9 × α10 × α11 × α12 × α13 × α14 × α15 × α16 × α17 × α18)} (h : o = some (a1, a2, a3, a4, a5, a6, a7, a8, a9, a10, a11, a12, a13, a14, a15, a16, a17, a18)) : bn18 o k = k a1 a2 a3 a4 a5 a6 a7 a8 a9 a10 a11 a12 a13 a14 a15 a16 a17 a18 := by subst h; rfl
def un18 {α1 α2 α3 α4 α5 α6 α7 α8 α9 α10 α11 α12 α13 α14 α15 α16 α17 α18 β : Type} (u : α1 × α2 × α3 × α4 × α5 × α6 × α7 × α8 × α9 × α10 × α11 × α12 × α13 × α14 × α15 × α16 × α17 × α18) (k : α1 → α2 → α3 → α4 → α5 → α6 → α7 → α8 → α9 → α10 → α11 → α12 → α13 → α14 → α15 → α16 → α17 → α18 → Option β) : Option β := match u with | (a1, a2, a3, a4, a5, a6, a7, a8, a9, a10, a11, a12, a13, a14, a15, a16, a17, a18) => k a1 a2 a3 a4 a5 a6 a7 a8 a9 a10 a11 a12 a13 a14 a15 a16 a17 a18
theorem un18_at {α1 α2 α3 α4 α5 α6 α7 α8 α9 α10 α11 α12 α13 α14 α15 α16 α17 α18 β : Type} {a1 : α1} {a2 : α2} {a3 : α3} {a4 : α4} {a5 : α5} {a6 : α6} {a7 : α7} {a8 : α8} {a9 : α9} {a10 : α10} {a11 : α11} {a12 : α12} {a13 : α13} {a14 : α14} {a15 : α15} {a16 : α16} {a17 : α17} {a18 : α18} {k : α1 → α2 → α3 → α4 → α5 → α6 → α7 → α8 → α9 → α10 → α11 → α12 → α13 → α14 → α15 → α16 → α17 → α18 → Option β} {r : Option β} (h : un18 (a1, a2, a3, a4, a5, a6, a7, a8, a9, a10, a11, a12, a13, a14, a15, a16, a17, a18) k = r) : k a1 a2 a3 a4 a5 a6 a7 a8 a9 a10 a11 a12 a13 a14 a15 a16 a17 a18 = r := h
def loop1 {α1 ρ : Type} (f : (α1 → Option ρ) → α1 → Option ρ) : Nat → α1 → Option ρ
  | 0 => fun _ => none
  | n + 1 => f (loop1 f n)
def loop2 {α1 α2 ρ : Type} (f : (α1 → α2 → Option ρ) → α1 → α2 → Option ρ) : Nat → α1 → α2 → Option ρ
  | 0 => fun _ _ => none
  | n + 1 => f (loop2 f n)
def loop3 {α1 α2 α3 ρ : Type} (f : (α1 → α2 → α3 → Option ρ) → α1 → α2 → α3 → Option ρ) : Nat → α1 → α2 → α3 → Option ρ
  | 0 => fun _ _ _ => none
  | n + 1 => f (loop3 f n)
def loop4 {α1 α2 α3 α4 ρ : Type} (f : (α1 → α2 → α3 → α4 → Option ρ) → α1 → α2 → α3 → α4 → Option ρ) : Nat → α1 → α2 → α3 → α4 → Option ρ
  | 0 => fun _ _ _ _ => none
  | n + 1 => f (loop4 f n)
def loop5 {α1 α2 α3 α4 α5 ρ : Type} (f : (α1 → α2 → α3 → α4 → α5 → Option ρ) → α1 → α2 → α3 → α4 → α5 → Option ρ) : Nat → α1 → α2 → α3 → α4 → α5 → Option ρ
  | 0 => fun _ _ _ _ _ => none
  | n + 1 => f (loop5 f n)
def loop6 {α1 α2 α3 α4 α5 α6 ρ : Type} (f : (α1 → α2 → α3 → α4 → α5 → α6 → Option ρ) → α1 → α2 → α3 → α4 → α5 → α6 → Option ρ) : Nat → α1 → α2 → α3 → α4 → α5 → α6 → Option ρ
  | 0 => fun _ _ _ _ _ _ => none
  | n + 1 => f (loop6 f n)
def loop7 {α1 α2 α3 α4 α5 α6 α7 ρ : Type} (f : (α1 → α2 → α3 → α4 → α5 → α6 → α7 → Option ρ) → α1 → α2 → α3 → α4 → α5 → α6 → α7 → Option ρ) : Nat → α1 → α2 → α3 → α4 → α5 → α6 → α7 → Option ρ
  | 0 => fun _ _ _ _ _ _ _ => none
  | n + 1 => f (loop7 f n)
def loop8 {α1 α2 α3 α4 α5 α6 α7 α8 ρ : Type} (f : (α1 → α2 → α3 → α4 → α5 → α6 → α7 → α8 → Option ρ) → α1 → α2 → α3 → α4 → α5 → α6 → α7 → α8 → Option ρ) : Nat → α1 → α2 → α3 → α4 → α5 → α6 → α7 → α8 → Option ρ
  | 0 => fun _ _ _ _ _ _ _ _ => none
  | n + 1 => f (loop8 f n)
def loop9 {α1 α2 α3 α4 α5 α6 α7 α8 α9 ρ : Type} (f : (α1 → α2 → α3 → α4 → α5 → α6 → α7 → α8 → α9 → Option ρ) → α1 → α2 → α3 → α4 → α5 → α6 → α7 → α8 → α9 → Option ρ) : Nat → α1 → α2 → α3 → α4 → α5 → α6 → α7 → α8 → α9 → Option ρ
  | 0 => fun _ _ _ _ _ _ _ _ _ => none
  | n + 1 => f (loop9 f n)
def loop10 {α1 α2 α3 α4 α5 α6 α7 α8 α9 α10 ρ : Type} (f : (α1 → α2 → α3 → α4 → α5 → α6 → α7 → α8 → α9 → α10 → Option ρ) → α1 → α2 → α3 → α4 → α5 → α6 → α7 → α8 → α9 → α10 → Option ρ) : Nat → α1 → α2 → α3 → α4 → α5 → α6 → α7 → α8 → α9 → α10 → Option ρ
  | 0 => fun _ _ _ _ _ _ _ _ _ _ => none
  | n + 1 => f (loop10 f n)
def loop11 {α1 α2 α3 α4 α5 α6 α7 α8 α9 α10 α11 ρ : Type} (f : (α1 → α2 → α3 → α4 → α5 → α6 → α7 → α8 → α9 → α10 → α11 → Option ρ) → α1 → α2 → α3 → α4 → α5 → α6 → α7 → α8 → α9 → α10 → α11 → Option ρ) : Nat → α1 → α2 → α3 → α4 → α5 → α6 → α7 → α8 → α9 → α10 → α11 → Option ρ
  | 0 => fun _ _ _ _ _ _ _ _ _ _ _ => none
  | n + 1 => f (loop11 f n)
def loop12 {α1 α2 α3 α4 α5 α6 α7 α8 α9 α10 α11 α12 ρ : Type} (f : (α1 → α2 → α3 → α4 → α5 → α6 → α7 → α8 → α9 → α10 → α11 → α12 → Option ρ) → α1 → α2 → α3 → α4 → α5 → α6 → α7 → α8 → α9 → α10 → α11 → α12 → Option ρ) : Nat → α1 → α2 → α3 → α4 → α5 → α6 → α7 → α8 → α9 → α10 → α11 → α12 → Option ρ
  | 0 => fun _ _ _ _ _ _ _ _ _ _ _ _ => none
  | n + 1 => f (loop12 f n)
def loop13 {α1 α2 α3 α4 α5 α6 α7 α8 α9 α10 α11 α12 α13 ρ : Type} (f : (α1 → α2 → α3 → α4 → α5 → α6 → α7 → α8 → α9 → α10 → α11 → α12 → α13 → Option ρ) → α1 → α2 → α3 → α4 → α5 → α6 → α7 → α8 → α9 → α10 → α11 → α12 → α13 → Option ρ) : Nat → α1 → α2 → α3 → α4 → α5 → α6 → α7 → α8 → α9 → α10 → α11 → α12 → α13 → Option ρ
  | 0 => fun _ _ _ _ _ _ _ _ _ _ _ _ _ => none
  | n + 1 => f (loop13 f n)
def loop14 {α1 α2 α3 α4 α5 α6 α7 α8 α9 α10 α11 α12 α13 α14 ρ : Type} (f : (α1 → α2 → α3 → α4 → α5 → α6 → α7 → α8 → α9 → α10 → α11 → α12 → α13 → α14 → Option ρ) → α1 → α2 → α3 → α4 → α5 → α6 → α7 → α8 → α9 → α10 → α11 → α12 → α13 → α14 → Option ρ) : Nat → α1 → α2 → α3 → α4 → α5 → α6 → α7 → α8 → α9 → α10 → α11 → α12 → α13 → α14 → Option ρ
  | 0 => fun _ _ _ _ _ _ _ _ _ _ _ _ _ _ => none
  | n + 1 => f (loop14 f n)
def loop15 {α1 α2 α3 α4 α5 α6 α7 α8 α9 α10 α11 α12 α13 α14 α15 ρ : Type} (f : (α1 → α2 → α3 → α4 → α5 → α6 → α7 → α8 → α9 → α10 → α11 → α12 → α13 → α14 → α15 → Option ρ) → α1 → α2 → α3 → α4 → α5 → α6 → α7 → α8 → α9 → α10 → α11 → α12 → α13 → α14 → α15 → Option ρ) : Nat → α1 → α2 → α3 → α4 → α5 → α6 → α7 → α8 → α9 → α10 → α11 → α12 → α13 → α14 → α15 → Option ρ
  | 0 => fun _ _ _ _ _ _ _ _ _ _ _ _ _ _ _ => none
  | n + 1 => f (loop15 f n)
def loop16 {α1 α2 α3 α4 α5 α6 α7 α8 α9 α10 α11 α12 α13 α14 α15 α16 ρ : Type} (f : (α1 → α2 → α3 → α4 → α5 → α6 → α7 → α8 → α9 → α10 → α11 → α12 → α13 → α14 → α15 → α16 → Option ρ) → α1 → α2 → α3 → α4 → α5 → α6 → α7 → α8 → α9 → α10 → α11 → α12 → α13 → α14 → α15 → α16 → Option ρ) : Nat → α1 → α2 → α3 → α4 → α5 → α6 → α7 → α8 → α9 → α10 → α11 → α12 → α13 → α14 → α15 → α16 → Option ρ
  | 0 => fun _ _ _ _ _ _ _ _ _ _ _ _ _ _ _ _ => none
  | n + 1 => f (loop16 f n)
def loop17 {α1 α2 α3 α4 α5 α6 α7 α8 α9 α10 α11 α12 α13 α14 α15 α16 α17 ρ : Type} (f : (α1 → α2 → α3 → α4 → α5 → α6 → α7 → α8 → α9 → α10 → α11 → α12 → α13 → α14 → α15 → α16 → α17 → Option ρ) → α1 → α2 → α3 → α4 → α5 → α6 → α7 → α8 → α9 → α10 → α11 → α12 → α13 → α14 → α15 → α16 → α17 → Option ρ) : Nat → α1 → α2 → α3 → α4 → α5 → α6 → α7 → α8 → α9 → α10 → α11 → α12 → α13 → α14 → α15 → α16 → α17 → Option ρ
  | 0 => fun _ _ _ _ _ _ _ _ _ _ _ _ _ _ _ _ _ => none
  | n + 1 => f (loop17 f n)
def loop18 {α1 α2 α3 α4 α5 α6 α7 α8 α9 α10 α11 α12 α13 α14 α15 α16 α17 α18 ρ : Type} (f : (α1 → α2 → α3 → α4 → α5 → α6 → α7 → α8 → α9 → α10 → α11 → α12 → α13 → α14 → α15 → α16 → α17 → α18 → Option ρ) → α1 → α2 → α3 → α4 → α5 → α6 → α7 → α8 → α9 → α10 → α11 → α12 → α13 → α14 → α15 → α16 → α17 → α18 → Option ρ) : Nat → α1 → α2 → α3 → α4 → α5 → α6 → α7 → α8 → α9 → α10 → α11 → α12 → α13 → α14 → α15 → α16 → α17 → α18 → Option ρ
  | 0 => fun _ _ _ _ _ _ _ _ _ _ _ _ _ _ _ _ _ _ => none
  | n + 1 => f (loop18 f n)
def sl2 {α1 α2 ρ : Type} (k1 : α1 → Option ρ) (k2 : α2 → Option ρ) (u : α1 ⊕ α2) : Option ρ := match u with | Sum.inl a => k1 a | Sum.inr a => k2 a
def sm2 {α1 α2 ρ : Type} (o : Option (α1 ⊕ α2)) (k1 : α1 → Option ρ) (k2 : α2 → Option ρ) : Option ρ := bn1 o (sl2 k1 k2)
theorem sm2_some {α1 α2 ρ : Type} {o : Option (α1 ⊕ α2)} {k1 : α1 → Option ρ} {k2 : α2 → Option ρ} {r : ρ} (h : sm2 o k1 k2 = some r) : ∃ u, o = some u ∧ sl2 k1 k2 u = some r := bn1_some h
theorem sl2_1 {α1 α2 ρ : Type} {k1 : α1 → Option ρ} {k2 : α2 → Option ρ} {a : α1} {r : Option ρ} (h : sl2 k1 k2 (Sum.inl a) = r) : k1 a = r := h
theorem sl2_2 {α1 α2 ρ : Type} {k1 : α1 → Option ρ} {k2 : α2 → Option ρ} {a : α2} {r : Option ρ} (h : sl2 k1 k2 (Sum.inr a) = r) : k2 a = r := h
def sl3 {α1 α2 α3 ρ : Type} (k1 : α1 → Option ρ) (k2 : α2 → Option ρ) (k3 : α3 → Option ρ) (u : α1 ⊕ (α2 ⊕ α3)) : Option ρ := match u with | Sum.inl a => k1 a | Sum.inr (Sum.inl a) => k2 a | Sum.inr (Sum.inr a) => k3 a
def sm3 {α1 α2 α3 ρ : Type} (o : Option (α1 ⊕ (α2 ⊕ α3))) (k1 : α1 → Option ρ) (k2 : α2 → Option ρ) (k3 : α3 → Option ρ) : Option ρ := bn1 o (sl3 k1 k2 k3)
theorem sm3_some {α1 α2 α3 ρ : Type} {o : Option (α1 ⊕ (α2 ⊕ α3))} {k1 : α1 → Option ρ} {k2 : α2 → Option ρ} {k3 : α3 → Option ρ} {r : ρ} (h : sm3 o k1 k2 k3 = some r) : ∃ u, o = some u ∧ sl3 k1 k2 k3 u = some r := bn1_some h
theorem sl3_1 {α1 α2 α3 ρ : Type} {k1 : α1 → Option ρ} {k2 : α2 → Option ρ} {k3 : α3 → Option ρ} {a : α1} {r : Option ρ} (h : sl3 k1 k2 k3 (Sum.inl a) = r) : k1 a = r := h
theorem sl3_2 {α1 α2 α3 ρ : Type} {k1 : α1 → Option ρ} {k2 : α2 → Option ρ} {k3 : α3 → Option ρ} {a : α2} {r : Option ρ} (h : sl3 k1 k2 k3 (Sum.inr (Sum.inl a)) = r) : k2 a = r := h
theorem sl3_3 {α1 α2 α3 ρ : Type} {k1 : α1 → Option ρ} {k2 : α2 → Option ρ} {k3 : α3 → Option ρ} {a : α3} {r : Option ρ} (h : sl3 k1 k2 k3 (Sum.inr (Sum.inr a)) = r) : k3 a = r := h
abbrev TY (ar : Nat → ClassId) : List (ClassId × FieldType) := [(ar 0, .int), (ar 1, .boolean), (ar 2, .byte), (ar 3, .long)]
def CX (p : Program) (s : State) (m : MethodId) (meth : Method) (c : Code) (args : Array Value) (cc : ByteArray) (nL : Nat) (ret : Option FieldType) (own : String) (D : va_G) (ar : Nat → ClassId) (A : Nat → Prop) : Prop :=
  p.tables.exec = Jvm.exec ∧ c.code = cc ∧ meth.sig.returnType = ret ∧ c.maxLocals = nL ∧ s.vm.findClass own = some m.cls ∧ (∀ w ∈ gt, w.before args s = true) ∧ meth.locks = false ∧ (∀ q : Nat, s.heap.size ≤ q → A q) ∧ va_K D vwCl (TY ar) s ∧ ZF A s s.heap
def WA (p : Program) (l : Launch) (e : Env) (R : Room) (s : State) (m : MethodId) (args : Array Value) (below : List Frame) (meth : Method) (c : Code) (D : va_G) (A : Nat → Prop) (nL : Nat) (Q : State → Prop) (pc : Nat) (w : va_W) (lv : List (Nat × Value)) (st : List Value) : Prop :=
  ∀ (H : Heap) (locs : List Loc) (ls : Array Slot), va_P D vwCl w H → va_D A w → va_S A s.heap H locs → lv_has ls nL lv → W p l e R s m args below meth c H locs 0 0 Q (F0 m pc ls st)
def StdPc (D : va_G) (ar : Nat → ClassId) (argv : List Value) (wc : va_W) (sz : Nat) : Array Value → State → Prop :=
  va_Pc argv (fun U => U.heap.size = sz ∧ va_P D vwCl wc U.heap ∧ va_K D vwCl (TY ar) U ∧ va_D (fun _ => True) wc ∧ ZF (va_A wc sz) U U.heap)
def QI (D : va_G) (ar : Nat → ClassId) (w1 : va_W) (v : Int32) (A : Nat → Prop) : Array Value → State → Outcome → State → Prop :=
  va_Qi (fun r (_ : Unit) => r = v) (fun _ t => va_P D vwCl w1 t.heap ∧ va_K D vwCl (TY ar) t ∧ va_D A w1) A
def QJ (D : va_G) (ar : Nat → ClassId) (w1 : va_W) (v : Int64) (A : Nat → Prop) : Array Value → State → Outcome → State → Prop :=
  va_Ql (fun r (_ : Unit) => r = v) (fun _ t => va_P D vwCl w1 t.heap ∧ va_K D vwCl (TY ar) t ∧ va_D A w1) A
def QV (D : va_G) (ar : Nat → ClassId) (w1 : va_W) (A : Nat → Prop) : Array Value → State → Outcome → State → Prop :=
  va_Qv (fun (_ : Unit) => True) (fun _ t => va_P D vwCl w1 t.heap ∧ va_K D vwCl (TY ar) t ∧ va_D A w1) A
def StdI (l : Launch) (y : MethodName) (ws : List Cond) (rm : Room) (D : va_G) (ar : Nat → ClassId) (argv : List Value) (wc w1 : va_W) (v : Int32) : Prop :=
  ∀ sz : Nat, Met l y ws rm (StdPc D ar argv wc sz) (QI D ar w1 v (va_A wc sz)) 0 0 (va_A wc sz)
def StdJ (l : Launch) (y : MethodName) (ws : List Cond) (rm : Room) (D : va_G) (ar : Nat → ClassId) (argv : List Value) (wc w1 : va_W) (v : Int64) : Prop :=
  ∀ sz : Nat, Met l y ws rm (StdPc D ar argv wc sz) (QJ D ar w1 v (va_A wc sz)) 0 0 (va_A wc sz)
def StdV (l : Launch) (y : MethodName) (ws : List Cond) (rm : Room) (D : va_G) (ar : Nat → ClassId) (argv : List Value) (wc w1 : va_W) : Prop :=
  ∀ sz : Nat, Met l y ws rm (StdPc D ar argv wc sz) (QV D ar w1 (va_A wc sz)) 0 0 (va_A wc sz)
theorem P_map {D : va_G} {cl : List vw_C} {ws wc : va_W} {H : Heap} (h : va_P D cl ws H) (is : List Nat) (hs : is.map (fun i => ws[i]?) = wc.map some) : va_P D cl wc H := by
  intro k q hk
  have h1 : (is.map (fun i => ws[i]?))[k]? = some (some q) := by rw [hs, List.getElem?_map, hk]; rfl
  rw [List.getElem?_map] at h1
  cases hi : is[k]? with
  | none => rw [hi] at h1; cases h1
  | some i => rw [hi] at h1; exact h i q (Option.some.inj h1)
theorem std_blind {D : va_G} {ar : Nat → ClassId} {argv : List Value} {wc : va_W} {sz : Nat} : FrameBlind (StdPc D ar argv wc sz) := by
  intro a U g mk q
  obtain ⟨q0, q1, qP, qK, qD, qZ⟩ := q
  exact ⟨q0, q1, qP, va_K.moved (u := U) (U := U.calling g mk a) (Vm.Alike.refl U.vm) qK, qD, ZF.warm (u := U) (U := U.calling g mk a) (State.WarmedH.refl U) qZ⟩
section StdPre
variable {s : State} {H : Heap} {locs : List Loc} {D : va_G} {ar : Nat → ClassId} {A : Nat → Prop} {ws wc : va_W}
theorem sd_at {argv : List Value} (hK : va_K D vwCl (TY ar) s) (hP : va_P D vwCl ws H) (hD : va_D A ws) (hS : va_S A s.heap H locs) (hA : ∀ q : Nat, s.heap.size ≤ q → A q) (hZ : ZF A s s.heap) (isC : List Nat) (hn : va_nd isC = true) (hC : isC.map (fun i => ws[i]?) = wc.map some) :
    ∀ U : State, U.heap = H → s.WarmedH U.vm → StdPc D ar argv wc H.size argv.toArray U := by
  intro U hU hW
  have hF := va_free (wc := wc) hD hS hA isC hC
  refine ⟨rfl, by rw [hU], by rw [hU]; exact P_map hP isC hC, va_K.moved hW.alike hK, (hD.sub isC hn hC).weaken (fun _ _ _ _ => trivial), ?_⟩
  rw [hU]
  exact ZF.warm hW (ZF.narrow (ZF.kept hZ (fun a h1 h2 => hS.2.1 a h1 h2)) hF)
theorem sd_preS {argv : List Value} (hK : va_K D vwCl (TY ar) s) (hP : va_P D vwCl ws H) (hD : va_D A ws) (hS : va_S A s.heap H locs) (hA : ∀ q : Nat, s.heap.size ≤ q → A q) (hZ : ZF A s s.heap) (isC : List Nat) (hn : va_nd isC = true) (hC : isC.map (fun i => ws[i]?) = wc.map some) :
    PreS s H (StdPc D ar argv wc H.size) argv := ⟨std_blind, sd_at hK hP hD hS hA hZ isC hn hC⟩
theorem sd_preV {b : Addr} {C : String} {As : List Value} (hK : va_K D vwCl (TY ar) s) (hP : va_P D vwCl ws H) (hD : va_D A ws) (hS : va_S A s.heap H locs) (hA : ∀ q : Nat, s.heap.size ≤ q → A q) (hZ : ZF A s s.heap) (isC : List Nat) (hn : va_nd isC = true) (hC : isC.map (fun i => ws[i]?) = wc.map some) (hrecv : ∃ cell : Cell, H[b]? = some cell ∧ cell.vm.isStatics = false ∧ s.vm.findClass C = some cell.cls) :
    PreV s H C b (StdPc D ar (.ref b :: As) wc H.size) As := ⟨std_blind, hrecv, sd_at hK hP hD hS hA hZ isC hn hC⟩
end StdPre
section StdRows
variable {p : Program} {l : Launch} {e : Env} {R : Room} {s : State} {m : MethodId} {args : Array Value} {below : List Frame} {meth : Method} {c : Code} {H : Heap} {locs : List Loc} {cells slots : Nat} {Q : State → Prop} {cc : ByteArray} {D : va_G} {ar : Nat → ClassId} {A : Nat → Prop} {w1 ws wc wr : va_W} {pc : Nat} {ls : Array Slot} {st0 rest : List Value} {a : Array Value}
theorem sd_iret {v : Int32} (hx : p.tables.exec = Jvm.exec) (hb : c.code = cc) (hr : meth.sig.returnType = some .int) (hlocks : meth.locks = false) (hP : va_P D vwCl w1 H) (hD : va_D A w1) (hK : va_K D vwCl (TY ar) s) (hS : va_S A s.heap H locs) (hdg : decode cc pc = .ok (.ireturn, 1)) :
    W p l e R s m args below meth c H locs 0 0 (MQ below (QI D ar w1 v A) args s 0 0 A) (F0 m pc ls [.int v]) :=
  W.iret hx hb hr (fun t ht hW => ⟨⟨v, (), rfl, rfl, by rw [ht]; exact hP, va_K.moved hW.alike hK, hD⟩, hS.F ht⟩) hS.2.2 hdg hlocks
theorem sd_zret {v : Int32} {ty : FieldType} (hn : narrow ty (.int v) = .int v) (hx : p.tables.exec = Jvm.exec) (hb : c.code = cc) (hr : meth.sig.returnType = some ty) (hlocks : meth.locks = false) (hP : va_P D vwCl w1 H) (hD : va_D A w1) (hK : va_K D vwCl (TY ar) s) (hS : va_S A s.heap H locs) (hdg : decode cc pc = .ok (.ireturn, 1)) :
    W p l e R s m args below meth c H locs 0 0 (MQ below (QI D ar w1 v A) args s 0 0 A) (F0 m pc ls [.int v]) :=
  W.zret hx hb hr hn (fun t ht hW => ⟨⟨v, (), rfl, rfl, by rw [ht]; exact hP, va_K.moved hW.alike hK, hD⟩, hS.F ht⟩) hS.2.2 hdg hlocks
theorem sd_lret {v : Int64} (hx : p.tables.exec = Jvm.exec) (hb : c.code = cc) (hr : meth.sig.returnType = some .long) (hlocks : meth.locks = false) (hP : va_P D vwCl w1 H) (hD : va_D A w1) (hK : va_K D vwCl (TY ar) s) (hS : va_S A s.heap H locs) (hdg : decode cc pc = .ok (.lreturn, 1)) :
    W p l e R s m args below meth c H locs 0 0 (MQ below (QJ D ar w1 v A) args s 0 0 A) (F0 m pc ls [.long v]) :=
  W.lret hx hb hr (fun t ht hW => ⟨⟨v, (), rfl, rfl, by rw [ht]; exact hP, va_K.moved hW.alike hK, hD⟩, hS.F ht⟩) hS.2.2 hdg hlocks
theorem sd_vret (hx : p.tables.exec = Jvm.exec) (hb : c.code = cc) (hr : meth.sig.returnType = none) (hlocks : meth.locks = false) (hP : va_P D vwCl w1 H) (hD : va_D A w1) (hK : va_K D vwCl (TY ar) s) (hS : va_S A s.heap H locs) (hdg : decode cc pc = .ok (.return_, 1)) :
    W p l e R s m args below meth c H locs 0 0 (MQ below (QV D ar w1 A) args s 0 0 A) (F0 m pc ls []) :=
  W.vret hx hb hr (fun t ht hW => ⟨⟨(), rfl, trivial, by rw [ht]; exact hP, va_K.moved hW.alike hK, hD⟩, hS.F ht⟩) hS.2.2 hdg hlocks
theorem sd_i {v : Int32} (hr : va_Run p l e R s m args below meth c H locs cells slots 0 0 (F0 m pc ls st0) rest (QI D ar w1 v (va_A wc H.size) a) (va_A wc H.size)) (hP : va_P D vwCl ws H) (hD : va_D A ws) (hS : va_S A s.heap H locs) (hA : ∀ q : Nat, s.heap.size ≤ q → A q) (isC isR : List Nat) (hC : isC.map (fun i => ws[i]?) = wc.map some) (hR : isR.map (fun i => ws[i]?) = wr.map some) (hn : va_nd isR = true) (hdis : ∀ i ∈ isR, i ∉ isC)
    (kk : ∀ (H1 : Heap) (locs1 : List Loc), va_P D vwCl (wr ++ w1) H1 → va_D A (wr ++ w1) → va_S A s.heap H1 locs1 → W p l e R s m args below meth c H1 locs1 cells slots Q (F0 m (pc + 3) ls (.int v :: rest))) : W p l e R s m args below meth c H locs cells slots Q (F0 m pc ls st0) := by
  have hFc := va_free hD hS hA isC hC
  refine va_calli hr hS (fun q _ h => hFc q h) hFc (fun r u t H1 locs1 ht hvm hw hB hz1 hk1 hS1 => ?_)
  obtain ⟨hP1, hK1, hD1⟩ := hB
  rw [ht] at hP1
  obtain ⟨hP2, hD2⟩ := va_join hP hD isC isR hC hR hn hdis hk1 hFc hP1 hD1
  have hw : r = v := hw
  subst hw
  exact kk H1 locs1 hP2 hD2 hS1
theorem sd_j {v : Int64} (hr : va_Run p l e R s m args below meth c H locs cells slots 0 0 (F0 m pc ls st0) rest (QJ D ar w1 v (va_A wc H.size) a) (va_A wc H.size)) (hP : va_P D vwCl ws H) (hD : va_D A ws) (hS : va_S A s.heap H locs) (hA : ∀ q : Nat, s.heap.size ≤ q → A q) (isC isR : List Nat) (hC : isC.map (fun i => ws[i]?) = wc.map some) (hR : isR.map (fun i => ws[i]?) = wr.map some) (hn : va_nd isR = true) (hdis : ∀ i ∈ isR, i ∉ isC)
    (kk : ∀ (H1 : Heap) (locs1 : List Loc), va_P D vwCl (wr ++ w1) H1 → va_D A (wr ++ w1) → va_S A s.heap H1 locs1 → W p l e R s m args below meth c H1 locs1 cells slots Q (F0 m (pc + 3) ls (.long v :: rest))) : W p l e R s m args below meth c H locs cells slots Q (F0 m pc ls st0) := by
  have hFc := va_free hD hS hA isC hC
  refine va_calll hr hS (fun q _ h => hFc q h) hFc (fun r u t H1 locs1 ht hvm hw hB hz1 hk1 hS1 => ?_)
  obtain ⟨hP1, hK1, hD1⟩ := hB
  rw [ht] at hP1
  obtain ⟨hP2, hD2⟩ := va_join hP hD isC isR hC hR hn hdis hk1 hFc hP1 hD1
  have hw : r = v := hw
  subst hw
  exact kk H1 locs1 hP2 hD2 hS1
theorem sd_v (hr : va_Run p l e R s m args below meth c H locs cells slots 0 0 (F0 m pc ls st0) rest (QV D ar w1 (va_A wc H.size) a) (va_A wc H.size)) (hP : va_P D vwCl ws H) (hD : va_D A ws) (hS : va_S A s.heap H locs) (hA : ∀ q : Nat, s.heap.size ≤ q → A q) (isC isR : List Nat) (hC : isC.map (fun i => ws[i]?) = wc.map some) (hR : isR.map (fun i => ws[i]?) = wr.map some) (hn : va_nd isR = true) (hdis : ∀ i ∈ isR, i ∉ isC)
    (kk : ∀ (H1 : Heap) (locs1 : List Loc), va_P D vwCl (wr ++ w1) H1 → va_D A (wr ++ w1) → va_S A s.heap H1 locs1 → W p l e R s m args below meth c H1 locs1 cells slots Q (F0 m (pc + 3) ls rest)) : W p l e R s m args below meth c H locs cells slots Q (F0 m pc ls st0) := by
  have hFc := va_free hD hS hA isC hC
  refine va_callv hr hS (fun q _ h => hFc q h) hFc (fun u t H1 locs1 ht hvm hw hB hz1 hk1 hS1 => ?_)
  obtain ⟨hP1, hK1, hD1⟩ := hB
  rw [ht] at hP1
  obtain ⟨hP2, hD2⟩ := va_join hP hD isC isR hC hR hn hdis hk1 hFc hP1 hD1
  exact kk H1 locs1 hP2 hD2 hS1
end StdRows
theorem sd_metI {l : Launch} {y : MethodName} {ws : List Cond} {rm : Room} {D : va_G} {ar : Nat → ClassId} {argv : List Value} {wc w1 : va_W} {v : Int32} {cc : ByteArray} {maxL : Nat} {ret : Option FieldType} {own : String} (hy : plainName y.cls = true) (hw : ws = Cond.code y cc maxL ret :: gt) (ho : y.cls = own) (hlen : (lg_sl argv).length ≤ maxL)
    (body : ∀ (p : Program) (e : Env) (s : State) (m : MethodId) (below : List Frame) (meth : Method) (c : Code) (A : Nat → Prop) (ls : Array Slot), CX p s m meth c argv.toArray cc maxL ret own D ar A → va_P D vwCl wc s.heap → va_D A wc → lv_has ls maxL (lv_args 0 argv) →
      W p l e rm s m argv.toArray below meth c s.heap [] 0 0 (MQ below (QI D ar w1 v A) argv.toArray s 0 0 A) (F0 m 0 ls [])) : StdI l y ws rm D ar argv wc w1 v := by
  intro sz
  refine Met.ofW (cc := cc) (maxL := maxL) (ret := ret) hy hw ?_
  intro p e s m args below meth c s₁ B hml hv
  obtain ⟨rfl, hsz, hP, hK, hD0, hZ⟩ := hv
  have hown : s.vm.findClass own = some m.cls := ho ▸ findClass_of_methodNamed B.named
  have hts : ∀ w ∈ gt, w.before argv.toArray s = true := fun w h => atoms_spec (ws := ws) B.pre w (by rw [hw]; exact List.mem_cons_of_mem _ h)
  subst hsz
  have hl := lv_entry argv (n := maxL) hlen
  rw [lg_entry_eq]
  exact body p e s m below meth c (va_A wc s.heap.size) _ ⟨B.exec, B.bytes, B.returns, hml, hown, hts, B.notSynchronized, fun q h => Or.inr h, hK, hZ⟩ hP hD0.self hl
theorem sd_metJ {l : Launch} {y : MethodName} {ws : List Cond} {rm : Room} {D : va_G} {ar : Nat → ClassId} {argv : List Value} {wc w1 : va_W} {v : Int64} {cc : ByteArray} {maxL : Nat} {ret : Option FieldType} {own : String} (hy : plainName y.cls = true) (hw : ws = Cond.code y cc maxL ret :: gt) (ho : y.cls = own) (hlen : (lg_sl argv).length ≤ maxL)
    (body : ∀ (p : Program) (e : Env) (s : State) (m : MethodId) (below : List Frame) (meth : Method) (c : Code) (A : Nat → Prop) (ls : Array Slot), CX p s m meth c argv.toArray cc maxL ret own D ar A → va_P D vwCl wc s.heap → va_D A wc → lv_has ls maxL (lv_args 0 argv) →
      W p l e rm s m argv.toArray below meth c s.heap [] 0 0 (MQ below (QJ D ar w1 v A) argv.toArray s 0 0 A) (F0 m 0 ls [])) : StdJ l y ws rm D ar argv wc w1 v := by
  intro sz
  refine Met.ofW (cc := cc) (maxL := maxL) (ret := ret) hy hw ?_
  intro p e s m args below meth c s₁ B hml hv
  obtain ⟨rfl, hsz, hP, hK, hD0, hZ⟩ := hv
  have hown : s.vm.findClass own = some m.cls := ho ▸ findClass_of_methodNamed B.named
  have hts : ∀ w ∈ gt, w.before argv.toArray s = true := fun w h => atoms_spec (ws := ws) B.pre w (by rw [hw]; exact List.mem_cons_of_mem _ h)
  subst hsz
  have hl := lv_entry argv (n := maxL) hlen
  rw [lg_entry_eq]
  exact body p e s m below meth c (va_A wc s.heap.size) _ ⟨B.exec, B.bytes, B.returns, hml, hown, hts, B.notSynchronized, fun q h => Or.inr h, hK, hZ⟩ hP hD0.self hl
theorem sd_metV {l : Launch} {y : MethodName} {ws : List Cond} {rm : Room} {D : va_G} {ar : Nat → ClassId} {argv : List Value} {wc w1 : va_W} {cc : ByteArray} {maxL : Nat} {ret : Option FieldType} {own : String} (hy : plainName y.cls = true) (hw : ws = Cond.code y cc maxL ret :: gt) (ho : y.cls = own) (hlen : (lg_sl argv).length ≤ maxL)
    (body : ∀ (p : Program) (e : Env) (s : State) (m : MethodId) (below : List Frame) (meth : Method) (c : Code) (A : Nat → Prop) (ls : Array Slot), CX p s m meth c argv.toArray cc maxL ret own D ar A → va_P D vwCl wc s.heap → va_D A wc → lv_has ls maxL (lv_args 0 argv) →
      W p l e rm s m argv.toArray below meth c s.heap [] 0 0 (MQ below (QV D ar w1 A) argv.toArray s 0 0 A) (F0 m 0 ls [])) : StdV l y ws rm D ar argv wc w1 := by
  intro sz
  refine Met.ofW (cc := cc) (maxL := maxL) (ret := ret) hy hw ?_
  intro p e s m args below meth c s₁ B hml hv
  obtain ⟨rfl, hsz, hP, hK, hD0, hZ⟩ := hv
  have hown : s.vm.findClass own = some m.cls := ho ▸ findClass_of_methodNamed B.named
  have hts : ∀ w ∈ gt, w.before argv.toArray s = true := fun w h => atoms_spec (ws := ws) B.pre w (by rw [hw]; exact List.mem_cons_of_mem _ h)
  subst hsz
  have hl := lv_entry argv (n := maxL) hlen
  rw [lg_entry_eq]
  exact body p e s m below meth c (va_A wc s.heap.size) _ ⟨B.exec, B.bytes, B.returns, hml, hown, hts, B.notSynchronized, fun q h => Or.inr h, hK, hZ⟩ hP hD0.self hl
def QC (D : va_G) (ar : Nat → ClassId) {S : Type} (wf : S → va_W) (A : Nat → Prop) : Array Value → State → Outcome → State → Prop :=
  va_Qv (fun (_ : S) => True) (fun u t => va_P D vwCl (wf u) t.heap ∧ va_K D vwCl (TY ar) t ∧ va_D A (wf u)) A
def StdC (l : Launch) (y : MethodName) (ws : List Cond) (rm : Room) (D : va_G) (ar : Nat → ClassId) (argv : List Value) (wc : va_W) {S : Type} (wf : S → va_W) (mc ms : Nat) : Prop :=
  ∀ sz : Nat, Met l y ws rm (StdPc D ar argv wc sz) (QC D ar wf (va_A wc sz)) mc ms (va_A wc sz)
theorem sd_metC {l : Launch} {y : MethodName} {ws : List Cond} {rm : Room} {D : va_G} {ar : Nat → ClassId} {argv : List Value} {wc : va_W} {S : Type} {wf : S → va_W} {mc ms : Nat} {cc : ByteArray} {maxL : Nat} {ret : Option FieldType} {own : String} (hy : plainName y.cls = true) (hw : ws = Cond.code y cc maxL ret :: gt) (ho : y.cls = own) (hlen : (lg_sl argv).length ≤ maxL) (hi : y.name = "<init>")
    (body : ∀ (p : Program) (e : Env) (s : State) (m : MethodId) (below : List Frame) (meth : Method) (c : Code) (A : Nat → Prop) (ls : Array Slot), meth.name = "<init>" → CX p s m meth c argv.toArray cc maxL ret own D ar A → va_P D vwCl wc s.heap → va_D A wc → lv_has ls maxL (lv_args 0 argv) →
      W p l e rm s m argv.toArray below meth c s.heap [] 0 0 (MQ below (QC D ar wf A) argv.toArray s mc ms A) (F0 m 0 ls [])) : StdC l y ws rm D ar argv wc wf mc ms := by
  intro sz
  refine Met.ofW (cc := cc) (maxL := maxL) (ret := ret) hy hw ?_
  intro p e s m args below meth c s₁ B hml hv
  obtain ⟨rfl, hsz, hP, hK, hD0, hZ⟩ := hv
  have hown : s.vm.findClass own = some m.cls := ho ▸ findClass_of_methodNamed B.named
  have hin : meth.name = "<init>" := (name_of_methodNamed B.named B.method).1.trans hi
  have hts : ∀ w ∈ gt, w.before argv.toArray s = true := fun w h => atoms_spec (ws := ws) B.pre w (by rw [hw]; exact List.mem_cons_of_mem _ h)
  subst hsz
  have hl := lv_entry argv (n := maxL) hlen
  rw [lg_entry_eq]
  exact body p e s m below meth c (va_A wc s.heap.size) _ hin ⟨B.exec, B.bytes, B.returns, hml, hown, hts, B.notSynchronized, fun q h => Or.inr h, hK, hZ⟩ hP hD0.self hl
section StdCtor
variable {p : Program} {l : Launch} {e : Env} {R : Room} {s : State} {m : MethodId} {args : Array Value} {below : List Frame} {meth : Method} {c : Code} {H : Heap} {locs : List Loc} {cells slots mc ms : Nat} {Q : State → Prop} {cc : ByteArray} {D : va_G} {ar : Nat → ClassId} {A : Nat → Prop} {ws wc wr : va_W} {S : Type} {wf : S → va_W} {pc : Nat} {ls : Array Slot} {st0 rest : List Value} {a : Array Value}
theorem sd_cret {u : S} (hx : p.tables.exec = Jvm.exec) (hb : c.code = cc) (hr : meth.sig.returnType = none) (hlocks : meth.locks = false) (hP : va_P D vwCl (wf u) H) (hD : va_D A (wf u)) (hK : va_K D vwCl (TY ar) s) (hS : va_S A s.heap H locs) (hdg : decode cc pc = .ok (.return_, 1)) :
    W p l e R s m args below meth c H locs cells slots (MQ below (QC D ar wf A) args s cells slots A) (F0 m pc ls []) :=
  W.vret hx hb hr (fun t ht hW => ⟨⟨u, rfl, trivial, by rw [ht]; exact hP, va_K.moved hW.alike hK, hD⟩, hS.F ht⟩) hS.2.2 hdg hlocks
theorem sd_c (hr : va_Run p l e R s m args below meth c H locs cells slots mc ms (F0 m pc ls st0) rest (QC D ar wf (va_A wc H.size) a) (va_A wc H.size)) (hP : va_P D vwCl ws H) (hD : va_D A ws) (hS : va_S A s.heap H locs) (hA : ∀ q : Nat, s.heap.size ≤ q → A q) (isC isR : List Nat) (hC : isC.map (fun i => ws[i]?) = wc.map some) (hR : isR.map (fun i => ws[i]?) = wr.map some) (hn : va_nd isR = true) (hdis : ∀ i ∈ isR, i ∉ isC)
    (kk : ∀ (u : S) (H1 : Heap) (locs1 : List Loc), va_P D vwCl (wr ++ wf u) H1 → va_D A (wr ++ wf u) → va_S A s.heap H1 locs1 → W p l e R s m args below meth c H1 locs1 (cells + mc) (slots + ms) Q (F0 m (pc + 3) ls rest)) : W p l e R s m args below meth c H locs cells slots Q (F0 m pc ls st0) := by
  have hFc := va_free hD hS hA isC hC
  refine va_callv hr hS (fun q _ h => hFc q h) hFc (fun u t H1 locs1 ht hvm hw hB hz1 hk1 hS1 => ?_)
  obtain ⟨hP1, hK1, hD1⟩ := hB
  rw [ht] at hP1
  obtain ⟨hP2, hD2⟩ := va_join hP hD isC isR hC hR hn hdis hk1 hFc hP1 hD1
  exact kk u H1 locs1 hP2 hD2 hS1
theorem sd_newI (hx : p.tables.exec = Jvm.exec) (hb : c.code = cc) (harr : (Cond.arrayClass .int).before args s = true) (hK : va_K D vwCl (TY ar) s) (hP : va_P D vwCl ws H) (hD : va_D A ws) (hS : va_S A s.heap H locs) (hA : ∀ q : Nat, s.heap.size ≤ q → A q)
    {n : Int32} {N' : Nat} (hn : ¬ n < 0) (hN : n.toNatClampNeg = N') (hbytes : N' * componentBytes .int ≤ 536870912) (hcells : cells + 1 ≤ R.cells) (hslots : slots + N' ≤ R.slots) (hdg : decode cc pc = .ok (.newarray .int, 2))
    (kk : ∀ (q : Nat) (H1 : Heap), va_P D vwCl (ws ++ [(q, .inl (ar 0, N', .inl (fun _ => 0)))]) H1 → va_D A (ws ++ [(q, .inl (ar 0, N', .inl (fun _ => 0)))]) → va_S A s.heap H1 locs → W p l e R s m args below meth c H1 locs (cells + 1) (slots + N') Q (F0 m (pc + 2) ls (.ref q :: rest))) : W p l e R s m args below meth c H locs cells slots Q (F0 m pc ls (.int n :: rest)) := by
  refine va_newa (atype := .int) (ty := .int) (a0 := (N', .inl (fun _ => 0))) hx hb harr rfl hK hP hD hS hA (fun _ => rfl) hn hN hbytes hcells hslots hdg (fun q cA H1 hK1 hP1 hD1 hS1 => ?_)
  have e1 : s.vm.findClass ("[" ++ (.int : FieldType).toString) = some (ar 0) := (hK1.2 0 _ rfl).2
  have e2 : s.vm.findClass ("[" ++ (.int : FieldType).toString) = some cA := (hK1.2 4 _ rfl).2
  cases e1.symm.trans e2
  exact kk q H1 hP1 hD1 hS1
theorem sd_newZ (hx : p.tables.exec = Jvm.exec) (hb : c.code = cc) (harr : (Cond.arrayClass .boolean).before args s = true) (hK : va_K D vwCl (TY ar) s) (hP : va_P D vwCl ws H) (hD : va_D A ws) (hS : va_S A s.heap H locs) (hA : ∀ q : Nat, s.heap.size ≤ q → A q)
    {n : Int32} {N' : Nat} (hn : ¬ n < 0) (hN : n.toNatClampNeg = N') (hbytes : N' * componentBytes .boolean ≤ 536870912) (hcells : cells + 1 ≤ R.cells) (hslots : slots + N' ≤ R.slots) (hdg : decode cc pc = .ok (.newarray .boolean, 2))
    (kk : ∀ (q : Nat) (H1 : Heap), va_P D vwCl (ws ++ [(q, .inl (ar 1, N', .inl (fun _ => 0)))]) H1 → va_D A (ws ++ [(q, .inl (ar 1, N', .inl (fun _ => 0)))]) → va_S A s.heap H1 locs → W p l e R s m args below meth c H1 locs (cells + 1) (slots + N') Q (F0 m (pc + 2) ls (.ref q :: rest))) : W p l e R s m args below meth c H locs cells slots Q (F0 m pc ls (.int n :: rest)) := by
  refine va_newa (atype := .boolean) (ty := .boolean) (a0 := (N', .inl (fun _ => 0))) hx hb harr rfl hK hP hD hS hA (fun _ => rfl) hn hN hbytes hcells hslots hdg (fun q cA H1 hK1 hP1 hD1 hS1 => ?_)
  have e1 : s.vm.findClass ("[" ++ (.boolean : FieldType).toString) = some (ar 1) := (hK1.2 1 _ rfl).2
  have e2 : s.vm.findClass ("[" ++ (.boolean : FieldType).toString) = some cA := (hK1.2 4 _ rfl).2
  cases e1.symm.trans e2
  exact kk q H1 hP1 hD1 hS1
theorem sd_newB (hx : p.tables.exec = Jvm.exec) (hb : c.code = cc) (harr : (Cond.arrayClass .byte).before args s = true) (hK : va_K D vwCl (TY ar) s) (hP : va_P D vwCl ws H) (hD : va_D A ws) (hS : va_S A s.heap H locs) (hA : ∀ q : Nat, s.heap.size ≤ q → A q)
    {n : Int32} {N' : Nat} (hn : ¬ n < 0) (hN : n.toNatClampNeg = N') (hbytes : N' * componentBytes .byte ≤ 536870912) (hcells : cells + 1 ≤ R.cells) (hslots : slots + N' ≤ R.slots) (hdg : decode cc pc = .ok (.newarray .byte, 2))
    (kk : ∀ (q : Nat) (H1 : Heap), va_P D vwCl (ws ++ [(q, .inl (ar 2, N', .inl (fun _ => 0)))]) H1 → va_D A (ws ++ [(q, .inl (ar 2, N', .inl (fun _ => 0)))]) → va_S A s.heap H1 locs → W p l e R s m args below meth c H1 locs (cells + 1) (slots + N') Q (F0 m (pc + 2) ls (.ref q :: rest))) : W p l e R s m args below meth c H locs cells slots Q (F0 m pc ls (.int n :: rest)) := by
  refine va_newa (atype := .byte) (ty := .byte) (a0 := (N', .inl (fun _ => 0))) hx hb harr rfl hK hP hD hS hA (fun _ => rfl) hn hN hbytes hcells hslots hdg (fun q cA H1 hK1 hP1 hD1 hS1 => ?_)
  have e1 : s.vm.findClass ("[" ++ (.byte : FieldType).toString) = some (ar 2) := (hK1.2 2 _ rfl).2
  have e2 : s.vm.findClass ("[" ++ (.byte : FieldType).toString) = some cA := (hK1.2 4 _ rfl).2
  cases e1.symm.trans e2
  exact kk q H1 hP1 hD1 hS1
theorem sd_newJ (hx : p.tables.exec = Jvm.exec) (hb : c.code = cc) (harr : (Cond.arrayClass .long).before args s = true) (hK : va_K D vwCl (TY ar) s) (hP : va_P D vwCl ws H) (hD : va_D A ws) (hS : va_S A s.heap H locs) (hA : ∀ q : Nat, s.heap.size ≤ q → A q)
    {n : Int32} {N' : Nat} (hn : ¬ n < 0) (hN : n.toNatClampNeg = N') (hbytes : N' * componentBytes .long ≤ 536870912) (hcells : cells + 1 ≤ R.cells) (hslots : slots + N' ≤ R.slots) (hdg : decode cc pc = .ok (.newarray .long, 2))
    (kk : ∀ (q : Nat) (H1 : Heap), va_P D vwCl (ws ++ [(q, .inl (ar 3, N', .inr (.inl (fun _ => 0))))]) H1 → va_D A (ws ++ [(q, .inl (ar 3, N', .inr (.inl (fun _ => 0))))]) → va_S A s.heap H1 locs → W p l e R s m args below meth c H1 locs (cells + 1) (slots + N') Q (F0 m (pc + 2) ls (.ref q :: rest))) : W p l e R s m args below meth c H locs cells slots Q (F0 m pc ls (.int n :: rest)) := by
  refine va_newa (atype := .long) (ty := .long) (a0 := (N', .inr (.inl (fun _ => 0)))) hx hb harr rfl hK hP hD hS hA (fun _ => rfl) hn hN hbytes hcells hslots hdg (fun q cA H1 hK1 hP1 hD1 hS1 => ?_)
  have e1 : s.vm.findClass ("[" ++ (.long : FieldType).toString) = some (ar 3) := (hK1.2 3 _ rfl).2
  have e2 : s.vm.findClass ("[" ++ (.long : FieldType).toString) = some cA := (hK1.2 4 _ rfl).2
  cases e1.symm.trans e2
  exact kk q H1 hP1 hD1 hS1
end StdCtor
