def y_Lw_cell : MethodName := ⟨"FreeWaveletsLaw", "cell", "([II)I"⟩
abbrev ws_Lw_cell : List Cond := Cond.code y_Lw_cell method_2_code 2 (some .int) :: gt
theorem d_Lw_cell_0 : decode method_2_code 0 = .ok (.iload_n 1, 1) := by decide +kernel
theorem d_Lw_cell_1 : decode method_2_code 1 = .ok (.aload_n 0, 1) := by decide +kernel
theorem d_Lw_cell_2 : decode method_2_code 2 = .ok (.arraylength, 1) := by decide +kernel
theorem d_Lw_cell_3 : decode method_2_code 3 = .ok (.if_icmp .ge 9, 3) := by decide +kernel
theorem d_Lw_cell_6 : decode method_2_code 6 = .ok (.aload_n 0, 1) := by decide +kernel
theorem d_Lw_cell_7 : decode method_2_code 7 = .ok (.iload_n 1, 1) := by decide +kernel
theorem d_Lw_cell_8 : decode method_2_code 8 = .ok (.iaload, 1) := by decide +kernel
theorem d_Lw_cell_9 : decode method_2_code 9 = .ok (.goto 4, 3) := by decide +kernel
theorem d_Lw_cell_12 : decode method_2_code 12 = .ok (.iconst 0, 1) := by decide +kernel
theorem d_Lw_cell_13 : decode method_2_code 13 = .ok (.ireturn, 1) := by decide +kernel
theorem d_Lw_law_0 : decode code 0 = .ok (.new 8, 3) := by decide +kernel
theorem d_Lw_law_3 : decode code 3 = .ok (.dup, 1) := by decide +kernel
theorem d_Lw_law_4 : decode code 4 = .ok (.aload_n 0, 1) := by decide +kernel
theorem d_Lw_law_5 : decode code 5 = .ok (.iconst 0, 1) := by decide +kernel
theorem d_Lw_law_6 : decode code 6 = .ok (.invokestatic 61, 3) := by decide +kernel
theorem d_Lw_law_9 : decode code 9 = .ok (.aload_n 0, 1) := by decide +kernel
theorem d_Lw_law_10 : decode code 10 = .ok (.iconst 1, 1) := by decide +kernel
theorem d_Lw_law_11 : decode code 11 = .ok (.invokestatic 61, 3) := by decide +kernel
theorem d_Lw_law_14 : decode code 14 = .ok (.invokespecial 67, 3) := by decide +kernel
theorem d_Lw_law_17 : decode code 17 = .ok (.astore_n 1, 1) := by decide +kernel
theorem d_Lw_law_18 : decode code 18 = .ok (.new 70, 3) := by decide +kernel
theorem d_Lw_law_21 : decode code 21 = .ok (.dup, 1) := by decide +kernel
theorem d_Lw_law_22 : decode code 22 = .ok (.aload_n 0, 1) := by decide +kernel
theorem d_Lw_law_23 : decode code 23 = .ok (.iconst 0, 1) := by decide +kernel
theorem d_Lw_law_24 : decode code 24 = .ok (.invokestatic 61, 3) := by decide +kernel
theorem d_Lw_law_27 : decode code 27 = .ok (.aload_n 0, 1) := by decide +kernel
theorem d_Lw_law_28 : decode code 28 = .ok (.iconst 1, 1) := by decide +kernel
theorem d_Lw_law_29 : decode code 29 = .ok (.invokestatic 61, 3) := by decide +kernel
theorem d_Lw_law_32 : decode code 32 = .ok (.invokespecial 72, 3) := by decide +kernel
theorem d_Lw_law_35 : decode code 35 = .ok (.astore_n 2, 1) := by decide +kernel
theorem d_Lw_law_36 : decode code 36 = .ok (.iconst 1, 1) := by decide +kernel
theorem d_Lw_law_37 : decode code 37 = .ok (.newarray .long, 2) := by decide +kernel
theorem d_Lw_law_39 : decode code 39 = .ok (.astore_n 3, 1) := by decide +kernel
theorem d_Lw_law_40 : decode code 40 = .ok (.iconst 2, 1) := by decide +kernel
theorem d_Lw_law_41 : decode code 41 = .ok (.istore 4, 2) := by decide +kernel
theorem k_50 : Cond.classLink "FreeWaveletsLaw" 8 "FreeWavelets" ∈ gt := mem_gt (List.mem_of_getElem? (i := 50) (by decide +kernel)) rfl
theorem k_51 : Cond.instantiable "FreeWavelets" 11 ∈ gt := mem_gt (List.mem_of_getElem? (i := 51) (by decide +kernel)) rfl
theorem k_52 : Cond.methodLink "FreeWaveletsLaw" 67 ⟨"FreeWavelets", "<init>", "(II)V"⟩ ∈ gt := mem_gt (List.mem_of_getElem? (i := 52) (by decide +kernel)) rfl
theorem k_53 : Cond.instanceMethod ⟨"FreeWavelets", "<init>", "(II)V"⟩ ∈ gt := mem_gt (List.mem_of_getElem? (i := 53) (by decide +kernel)) rfl
theorem k_54 : Cond.code ⟨"FreeWavelets", "<init>", "(II)V"⟩ prog_1_method_1_code 3 none ∈ gt := mem_gt (List.mem_of_getElem? (i := 54) (by decide +kernel)) rfl
theorem k_452 : Cond.methodLink "FreeWaveletsLaw" 61 ⟨"FreeWaveletsLaw", "cell", "([II)I"⟩ ∈ gt := mem_gt (List.mem_of_getElem? (i := 452) (by decide +kernel)) rfl
theorem k_453 : Cond.static ⟨"FreeWaveletsLaw", "cell", "([II)I"⟩ ∈ gt := mem_gt (List.mem_of_getElem? (i := 453) (by decide +kernel)) rfl
theorem k_454 : Cond.code ⟨"FreeWaveletsLaw", "cell", "([II)I"⟩ method_2_code 2 (some .int) ∈ gt := mem_gt (List.mem_of_getElem? (i := 454) (by decide +kernel)) rfl
theorem k_763 : Cond.classLink "FreeWaveletsLaw" 70 "FreeWaveletsModel" ∈ gt := mem_gt (List.mem_of_getElem? (i := 763) (by decide +kernel)) rfl
theorem k_764 : Cond.instantiable "FreeWaveletsModel" 26 ∈ gt := mem_gt (List.mem_of_getElem? (i := 764) (by decide +kernel)) rfl
theorem k_765 : Cond.methodLink "FreeWaveletsLaw" 72 ⟨"FreeWaveletsModel", "<init>", "(II)V"⟩ ∈ gt := mem_gt (List.mem_of_getElem? (i := 765) (by decide +kernel)) rfl
theorem k_766 : Cond.instanceMethod ⟨"FreeWaveletsModel", "<init>", "(II)V"⟩ ∈ gt := mem_gt (List.mem_of_getElem? (i := 766) (by decide +kernel)) rfl
theorem k_767 : Cond.code ⟨"FreeWaveletsModel", "<init>", "(II)V"⟩ prog_12_method_1_code 3 none ∈ gt := mem_gt (List.mem_of_getElem? (i := 767) (by decide +kernel)) rfl
theorem k_1009 : Cond.arrayClass .long ∈ gt := mem_gt (List.mem_of_getElem? (i := 1009) (by decide +kernel)) rfl
abbrev rm_Lw_cell : Room := { frames := 0, cells := 0, slots := 0, locals := 0 }
set_option maxHeartbeats 4000000 in
theorem c_Lw_cell {l : Launch} (b L : Nat) (xs : Nat → Int32) (k : Int32) (hk : ¬ k < 0) (hL : L < 2 ^ 31) (sz : Nat) : Met l y_Lw_cell ws_Lw_cell rm_Lw_cell (va_Pc [.ref b, .int k] (fun U => U.heap.size = sz ∧ va_X b L xs U U.heap ∧ b < sz)) (va_Qi (fun r (_ : Unit) => r = cvL xs L k) (fun _ _ => True) (fun q => sz ≤ q)) 0 0 (fun q => sz ≤ q) := by
  refine Met.ofW (cc := method_2_code) (maxL := 2) (ret := (some .int)) (by decide) rfl ?_
  intro p e s m args below meth c s₁ B hml hv
  obtain ⟨rfl, hsz, hX, hbl⟩ := hv
  have hx := B.exec
  have hb := B.bytes
  have hr := B.returns
  have hlocks := B.notSynchronized
  subst hsz
  have hbA : ¬ (fun q : Nat => s.heap.size ≤ q) b := Nat.not_le.mpr hbl
  have hS : va_S (fun q : Nat => s.heap.size ≤ q) s.heap s.heap [] := va_S.rf
  have hl := lv_entry ([.ref b, .int k]) (n := 2) (Nat.le_of_ble_eq_true rfl)
  rw [lg_entry_eq]
  generalize (lg_sl ([.ref b, .int k]) ++ List.replicate (2 - (lg_sl ([.ref b, .int k])).length) Slot.unset).toArray = ls at hl ⊢
  have hl : lv_has ls 2 [(0, .ref b), (1, .int k)] := hl
  refine lv_iload_n hx hb d_Lw_cell_0 rfl (lv_at hl 1 rfl) ?_
  refine lv_aload_n hx hb d_Lw_cell_1 rfl (lv_at hl 0 rfl) ?_
  refine va_slen hx hb hX hbl hbA hS d_Lw_cell_2 ?_
  refine lv_icmp_ge (tgt := 12) hx hb d_Lw_cell_3 (by decide) (fun c1 => ?_) (fun c1 => ?_)
  · refine lv_iconst (v := (0 : Int32)) hx hb d_Lw_cell_12 (by decide) ?_
    exact W.iret hx hb hr (fun t ht hW => ⟨⟨0, (), rfl, (if_pos c1).symm, trivial⟩, hS.F ht⟩) hS.2.2 d_Lw_cell_13 hlocks
  · have hin : vp_in k L := by
      obtain ⟨j, hj, rfl⟩ := nI_of hk
      refine vp_in_nI ?_ hL
      rcases Nat.lt_or_ge j L with q | q
      · exact q
      · exact absurd (nI_le q hj) c1
    refine lv_aload_n hx hb d_Lw_cell_6 rfl (lv_at hl 0 rfl) ?_
    refine lv_iload_n hx hb d_Lw_cell_7 rfl (lv_at hl 1 rfl) ?_
    refine va_sld hx hb hX hbl hbA hS hin d_Lw_cell_8 ?_
    refine lv_goto (tgt := 13) hx hb d_Lw_cell_9 (by decide) ?_
    exact W.iret hx hb hr (fun t ht hW => ⟨⟨xs k.toNatClampNeg, (), rfl, (if_neg c1).symm, trivial⟩, hS.F ht⟩) hS.2.2 d_Lw_cell_13 hlocks
set_option maxHeartbeats 4000000 in
theorem law_cell {p : Program} {l : Launch} {e : Env} {s : State} {m : MethodId} {args : Array Value} {below : List Frame} {meth : Method} {c : Code} {H : Heap} {locs : List Loc} {cells slots : Nat} {Q : State → Prop} {D : va_G} {A : Nat → Prop} {ws : va_W} {pc : Nat} {ls : Array Slot} {rest : List Value} {b L : Nat} {xs : Nat → Int32}
    (S : CallFix p m c code 8 s args gt "FreeWaveletsLaw") (hX : va_X b L xs s s.heap) (hbl : b < s.heap.size) (hbA : ¬ A b) (hL : L ≤ 2562) (hP : va_P D vwCl ws H) (hD : va_D A ws) (hS : va_S A s.heap H locs) (hA : ∀ q : Nat, s.heap.size ≤ q → A q) {k : Int32} (hk : ¬ k < 0) (hls : ls.size = 8) (hrest : (rest.map fun v => v.category).sum ≤ 8) (hdg : decode code pc = .ok (.invokestatic 61, 3)) (hc : cells + 0 ≤ room_1.cells) (hs : slots + 0 ≤ room_1.slots)
    (kk : ∀ (H1 : Heap) (locs1 : List Loc), va_P D vwCl ws H1 → va_D A ws → va_S A s.heap H1 locs1 → W p l e room_1 s m args below meth c H1 locs1 cells slots Q (F0 m (pc + 3) ls (.int (cvL xs L k) :: rest))) : W p l e room_1 s m args below meth c H locs cells slots Q (F0 m pc ls (.int k :: .ref b :: rest)) := by
  have hbH : b < H.size := Nat.lt_of_lt_of_le hbl hS.1
  have hXH : va_X b L xs s H := hX.kept (hS.2.1 b hbl hbA)
  refine va_calli (va_runS (As := [.ref b, .int k]) (rest := rest) S (c_Lw_cell b L xs k hk (by omega) H.size) (cw_S 2 S.2.2.2.2 k_452 k_453 k_28 k_454 rfl rfl (by decide +kernel) ⟨Nat.le_of_ble_eq_true rfl, Nat.le_of_ble_eq_true rfl⟩)
    ⟨fun a U g mk q => ⟨q.1, q.2.1, va_X.moved (u := U) (U := U.calling g mk a) (Vm.Alike.refl U.vm) q.2.2.1, q.2.2.2⟩, fun U hU hW => ⟨rfl, by rw [hU], by rw [hU]; exact va_X.moved hW.alike hXH, hbH⟩⟩ rfl rfl hls rfl (lv_room hrest) hdg ⟨hc, hs⟩) hS (fun q h1 h2 => absurd h2 (Nat.not_le.mpr h1)) (fun q h => hA q (Nat.le_trans hS.1 h)) (fun r u t H1 locs1 ht hvm hw hB hz hk1 hS1 => ?_)
  have hw : r = cvL xs L k := hw
  subst hw
  exact kk H1 locs1 (hP.kept (fun i x hx => hk1 x.1 ((hP i x hx).lt) (Nat.not_le.mpr ((hP i x hx).lt)))) hD hS1
theorem ar_of {s : State} {args : Array Value} (ty : FieldType) (hp : va_RA s = va_RA s) (h : (Cond.arrayClass ty).before args s = true) : ∃ cA : ClassId, ArrOfT s cA ty ∧ s.vm.findClass ("[" ++ ty.toString) = some cA := by
  obtain ⟨cA, kA, comp, h1, h2, h3⟩ := Cond.arrayClass_spec h
  exact ⟨cA, fun n z => ⟨fun k h => (by cases h), kA, h2, comp, h3⟩, h1⟩
theorem start_ZF {s : State} {b : Nat} {A : Nat → Prop} (hts : ∀ w ∈ lw_tbl, w.before #[Value.ref b] s = true) (hgv : (Jvm.Cond.and given_1 narrow_1).before #[Value.ref b] s = true) (hA : ∀ a : Nat, a < s.heap.size → ¬ A a) : ZF A s s.heap := by
  have hf := flat_of_before _ hgv
  have hel : ∀ j : Nat, j < 4 → (Term.elem (.static "FreeWavelets" "FIRST_SQUARE" "[I") (.int (Int32.ofNat j))).eval #[Value.ref b] s none [] s = some (.int (fsq j)) := by
    intro j hj
    match j, hj with
    | 0, _ => exact va_eqt (hf (Cond.eq (.elem (.static "FreeWavelets" "FIRST_SQUARE" "[I") (.int 0)) (.int 0)) (by decide +kernel))
    | 1, _ => exact va_eqt (hf (Cond.eq (.elem (.static "FreeWavelets" "FIRST_SQUARE" "[I") (.int 1)) (.int 256)) (by decide +kernel))
    | 2, _ => exact va_eqt (hf (Cond.eq (.elem (.static "FreeWavelets" "FIRST_SQUARE" "[I") (.int 2)) (.int 320)) (by decide +kernel))
    | 3, _ => exact va_eqt (hf (Cond.eq (.elem (.static "FreeWavelets" "FIRST_SQUARE" "[I") (.int 3)) (.int 336)) (by decide +kernel))
  obtain ⟨t, ht, hT⟩ := va_Tof (A := A) (f := fun j => .int (fsq j)) (N := 4) (by decide) (hf (Cond.arrayOf (.static "FreeWavelets" "FIRST_SQUARE" "[I") .int) (by decide +kernel)) (va_eqt (hf (Cond.eq (.length (.static "FreeWavelets" "FIRST_SQUARE" "[I")) (.int 4)) (by decide +kernel))) hel hA
  refine ⟨⟨t, va_Zref (hts (Cond.laysStatic "FreeWavelets" "FIRST_SQUARE" "[I") (by decide +kernel)) (hts (Cond.initialized "FreeWavelets") (by decide +kernel)) ht hA, hT⟩, ?_, ?_, ?_, ?_, ?_, ?_, ?_⟩
  · exact va_Zqof (hts (Cond.laysStatic "java/lang/Throwable" "UNASSIGNED_STACK" "[Ljava/lang/StackTraceElement;") (by decide +kernel)) (hts (Cond.initialized "java/lang/Throwable") (by decide +kernel)) (hf _ (by decide +kernel)) hA
  · exact va_Zqof (hts (Cond.laysStatic "java/lang/Throwable" "SUPPRESSED_SENTINEL" "Ljava/util/List;") (by decide +kernel)) (hts (Cond.initialized "java/lang/Throwable") (by decide +kernel)) (hf _ (by decide +kernel)) hA
  · exact fun w h hw => va_Nw.of (nw_tab hw) (hts w h)
  · intro k tx h
    have h1 := hts _ h
    obtain ⟨cur, hcur⟩ : ∃ cur, s.vm.findClass "FreeWavelets" = some cur := by
      have h2 := hts (Cond.initialized "FreeWavelets") (by decide +kernel)
      simp only [Cond.before, Cond.holds, Cond.value] at h2
      cases hc : s.vm.findClass "FreeWavelets" with
      | none => simp [hc] at h2
      | some cE => exact ⟨cE, rfl⟩
    obtain ⟨_, _, _, a, -, -, -, -, -, h3⟩ := Cond.stringRef_spec (idx := []) hcur h1
    exact ⟨a, vk_R.of h1 h3⟩
  · exact ⟨va_Nc.of (hf (Cond.not (.castable "java/lang/IllegalArgumentException" "java/lang/IndexOutOfBoundsException")) (by decide +kernel)), va_Nc.of (hf (Cond.not (.castable "java/lang/IndexOutOfBoundsException" "java/lang/IllegalArgumentException")) (by decide +kernel)), va_Nc.of (hf (Cond.not (.castable "java/lang/UnsupportedOperationException" "java/lang/IllegalArgumentException")) (by decide +kernel)), va_Nc.of (hf (Cond.not (.castable "java/lang/UnsupportedOperationException" "java/lang/IndexOutOfBoundsException")) (by decide +kernel)), va_Nc.of (hf (Cond.not (.castable "java/lang/IndexOutOfBoundsException" "java/lang/IllegalStateException")) (by decide +kernel))⟩
  · exact LZs.of (hts _ (by decide +kernel)) hA
  · exact LZs.of (hts _ (by decide +kernel)) hA
theorem start_K {s : State} {b : Nat} (hts : ∀ w ∈ gt, w.before #[Value.ref b] s = true) : ∃ (D : va_G) (ar : Nat → ClassId), va_K D vwCl (TY ar) s := by
  obtain ⟨c0, i0, hKn0⟩ := u_known (C := R_FW) (T := F_FW) (N := 11) (n := 11) hts in_FW (hts _ k_51)
  obtain ⟨c1, i1, hKn1⟩ := u_known (C := R_Bytes) (T := F_Bytes) (N := 2) (n := 2) hts in_Bytes (hts _ k_159)
  obtain ⟨c2, i2, hKn2⟩ := u_known (C := R_Eye) (T := F_Eye) (N := 4) (n := 4) hts in_Eye (hts _ k_206)
  obtain ⟨c3, i3, hKn3⟩ := u_known (C := R_Pen) (T := F_Pen) (N := 4) (n := 4) hts in_Pen (hts _ k_176)
  obtain ⟨c4, i4, hKn4⟩ := u_known (C := R_Tape) (T := F_Tape) (N := 3) (n := 3) hts in_Tape (hts _ k_219)
  obtain ⟨c5, i5, hKn5⟩ := u_known (C := R_Lifting) (T := F_Lifting) (N := 2) (n := 2) hts in_Lifting (hts _ k_118)
  obtain ⟨c6, i6, hKn6⟩ := u_known (C := R_Picture) (T := F_Picture) (N := 6) (n := 6) hts in_Picture (hts _ k_59)
  obtain ⟨c7, i7, hKn7⟩ := u_known (C := R_Shape) (T := F_Shape) (N := 9) (n := 9) hts in_Shape (hts _ k_65)
  obtain ⟨c8, i8, hKn8⟩ := u_known (C := R_Walk) (T := F_Walk) (N := 7) (n := 7) hts in_Walk (hts _ k_226)
  obtain ⟨c9, i9, hKn9⟩ := u_known (C := R_Md) (T := F_Md) (N := 26) (n := 26) hts in_Md (hts _ k_764)
  obtain ⟨a0, b0, e0⟩ := ar_of .int rfl (hts _ k_116)
  obtain ⟨a1, b1, e1⟩ := ar_of .boolean rfl (hts _ k_115)
  obtain ⟨a2, b2, e2⟩ := ar_of .byte rfl (hts _ k_174)
  obtain ⟨a3, b3, e3⟩ := ar_of .long rfl (hts _ k_1009)
  refine ⟨(fun k => if k = 0 then c0 else if k = 1 then c1 else if k = 2 then c2 else if k = 3 then c3 else if k = 4 then c4 else if k = 5 then c5 else if k = 6 then c6 else if k = 7 then c7 else if k = 8 then c8 else c9, fun k => if k = 0 then i0 else if k = 1 then i1 else if k = 2 then i2 else if k = 3 then i3 else if k = 4 then i4 else if k = 5 then i5 else if k = 6 then i6 else if k = 7 then i7 else if k = 8 then i8 else i9), fun k => if k = 0 then a0 else if k = 1 then a1 else if k = 2 then a2 else a3, ?_, ?_⟩
  · intro k q hq
    match k, hq with
    | 0, hq => cases hq; exact hKn0
    | 1, hq => cases hq; exact hKn1
    | 2, hq => cases hq; exact hKn2
    | 3, hq => cases hq; exact hKn3
    | 4, hq => cases hq; exact hKn4
    | 5, hq => cases hq; exact hKn5
    | 6, hq => cases hq; exact hKn6
    | 7, hq => cases hq; exact hKn7
    | 8, hq => cases hq; exact hKn8
    | 9, hq => cases hq; exact hKn9
    | k + 10, hq => simp [vwCl] at hq
  · intro k q hq
    match k, hq with
    | 0, hq => cases hq; exact ⟨b0, e0⟩
    | 1, hq => cases hq; exact ⟨b1, e1⟩
    | 2, hq => cases hq; exact ⟨b2, e2⟩
    | 3, hq => cases hq; exact ⟨b3, e3⟩
    | k + 4, hq => simp at hq
set_option maxHeartbeats 4000000 in
set_option maxRecDepth 100000 in
theorem law_loop {p : Program} {l : Launch} {e : Env} {s : State} {m : MethodId} {below : List Frame} {meth : Method} {c : Code} {D : va_G} {ar : Nat → ClassId} {A : Nat → Prop} {fu b L : Nat} {xs : Nat → Int32} {a_x a_m a_out a_x_drawn a_x_seen a_x_made a_x_fed a_x_pen a_x_eye a_x_ruler a_x_writing a_x_reading a_x_weighing a_x_drawn_shape a_x_drawn_samples a_x_drawn_waves a_x_drawn_lifting a_x_drawn_shape_inside a_x_drawn_shape_partOf a_x_drawn_shape_sizeOf a_x_drawn_shape_firstOf a_x_drawn_shape_queue a_x_fed_row a_x_made_row a_x_reading_known a_x_reading_left a_x_reading_greatest a_x_reading_open a_x_seen_shape a_x_seen_samples a_x_seen_waves a_x_seen_lifting a_x_seen_shape_inside a_x_seen_shape_partOf a_x_seen_shape_sizeOf a_x_seen_shape_firstOf a_x_seen_shape_queue a_x_weighing_known a_x_weighing_left a_x_weighing_greatest a_x_weighing_open a_x_writing_known a_x_writing_left a_x_writing_greatest a_x_writing_open a_m_inside a_m_values a_m_partOf a_m_waves a_m_readInside a_m_readPart a_m_readValues a_m_stream a_m_zeros a_m_fed a_m_pile a_m_open a_m_sizes a_m_below : Nat} {s_x_seen_stale : Int32} (C0 : CX p s m meth c #[Value.ref b] code 8 ret "FreeWaveletsLaw" D ar A) (hfl : l.flags = flags0) (hX : va_X b L xs s s.heap) (hbl : b < s.heap.size) (hbA : ¬ A b) (hAs : ∀ q : Nat, A q → s.heap.size ≤ q) :
    ∀ (n kc ks : Nat) (x4 : Int32) (cst : CSt) (rst : RSt) (s_out : Nat → Int64), kc + n + 1 ≤ room_1.cells → ks + 6 * n + 6 ≤ room_1.slots → loop4 (m_Lw_law_k43 fu L xs) n x4 cst rst s_out = some () → WAL p l e s m #[Value.ref b] below meth c D A (lw_Z below #[Value.ref b] s) kc ks 43 [(a_x, .inr (0, [.ref a_x_drawn, .ref a_x_seen, .ref a_x_made, .ref a_x_fed, .ref a_x_pen, .ref a_x_eye, .ref a_x_ruler, .ref a_x_writing, .ref a_x_reading, .ref a_x_weighing, .int cst.2.2.2.2.2.2.2.2.2.2])), (a_x_drawn, .inr (6, [.ref a_x_drawn_shape, .ref a_x_drawn_samples, .ref a_x_drawn_waves, .int cst.1.1, .ref a_x_drawn_lifting, .int cst.1.2.1])), (a_x_drawn_lifting, .inr (5, [.ref a_x_drawn_shape, .ref a_x_drawn_waves])), (a_x_drawn_samples, .inl (ar 0, 256, .inl cst.1.2.2.1)), (a_x_drawn_shape, .inr (7, [.ref a_x_drawn_shape_inside, .ref a_x_drawn_shape_partOf, .ref a_x_drawn_shape_sizeOf, .ref a_x_drawn_shape_firstOf, .int cst.1.2.2.2.2.2.2.1, .int cst.1.2.2.2.2.1, .int cst.1.2.2.2.2.2.1, .int cst.1.2.2.2.1, .ref a_x_drawn_shape_queue])), (a_x_drawn_shape_firstOf, .inl (ar 0, 256, .inl cst.1.2.2.2.2.2.2.2.1)), (a_x_drawn_shape_inside, .inl (ar 1, 256, .inl cst.1.2.2.2.2.2.2.2.2.1)), (a_x_drawn_shape_partOf, .inl (ar 0, 256, .inl cst.1.2.2.2.2.2.2.2.2.2.1)), (a_x_drawn_shape_queue, .inl (ar 0, 256, .inl cst.1.2.2.2.2.2.2.2.2.2.2.1)), (a_x_drawn_shape_sizeOf, .inl (ar 0, 256, .inl cst.1.2.2.2.2.2.2.2.2.2.2.2.1)), (a_x_drawn_waves, .inl (ar 0, 256, .inl cst.1.2.2.2.2.2.2.2.2.2.2.2.2)), (a_x_eye, .inr (2, [.int cst.2.2.2.2.2.1.2.2, .int cst.2.2.2.2.2.1.1, .int cst.2.2.2.2.2.1.2.1, .ref a_x_fed])), (a_x_fed, .inr (1, [.int cst.2.2.2.1.1, .ref a_x_fed_row])), (a_x_fed_row, .inl (ar 2, 2400, .inl cst.2.2.2.1.2)), (a_x_made, .inr (1, [.int cst.2.2.1.1, .ref a_x_made_row])), (a_x_made_row, .inl (ar 2, 2400, .inl cst.2.2.1.2)), (a_x_pen, .inr (3, [.int cst.2.2.2.2.1.2.2, .int cst.2.2.2.2.1.1, .int cst.2.2.2.2.1.2.1, .ref a_x_made])), (a_x_reading, .inr (8, [.ref a_x_reading_known, .ref a_x_reading_left, .ref a_x_eye, .ref a_x_seen, .ref a_x_reading_greatest, .ref a_x_reading_open, .int cst.2.2.2.2.2.2.2.2.1.1])), (a_x_reading_greatest, .inl (ar 0, 340, .inl cst.2.2.2.2.2.2.2.2.1.2.1)), (a_x_reading_known, .inl (ar 0, 256, .inl cst.2.2.2.2.2.2.2.2.1.2.2.1)), (a_x_reading_left, .inl (ar 0, 4, .inl cst.2.2.2.2.2.2.2.2.1.2.2.2.1)), (a_x_reading_open, .inl (ar 1, 340, .inl cst.2.2.2.2.2.2.2.2.1.2.2.2.2)), (a_x_ruler, .inr (4, [.int cst.2.2.2.2.2.2.1.2.2, .int cst.2.2.2.2.2.2.1.1, .int cst.2.2.2.2.2.2.1.2.1])), (a_x_seen, .inr (6, [.ref a_x_seen_shape, .ref a_x_seen_samples, .ref a_x_seen_waves, .int cst.2.1.1, .ref a_x_seen_lifting, .int s_x_seen_stale])), (a_x_seen_lifting, .inr (5, [.ref a_x_seen_shape, .ref a_x_seen_waves])), (a_x_seen_samples, .inl (ar 0, 256, .inl cst.2.1.2.1)), (a_x_seen_shape, .inr (7, [.ref a_x_seen_shape_inside, .ref a_x_seen_shape_partOf, .ref a_x_seen_shape_sizeOf, .ref a_x_seen_shape_firstOf, .int cst.2.1.2.2.2.2.2.1, .int cst.2.1.2.2.2.1, .int cst.2.1.2.2.2.2.1, .int cst.2.1.2.2.1, .ref a_x_seen_shape_queue])), (a_x_seen_shape_firstOf, .inl (ar 0, 256, .inl cst.2.1.2.2.2.2.2.2.1)), (a_x_seen_shape_inside, .inl (ar 1, 256, .inl cst.2.1.2.2.2.2.2.2.2.1)), (a_x_seen_shape_partOf, .inl (ar 0, 256, .inl cst.2.1.2.2.2.2.2.2.2.2.1)), (a_x_seen_shape_queue, .inl (ar 0, 256, .inl cst.2.1.2.2.2.2.2.2.2.2.2.1)), (a_x_seen_shape_sizeOf, .inl (ar 0, 256, .inl cst.2.1.2.2.2.2.2.2.2.2.2.2.1)), (a_x_seen_waves, .inl (ar 0, 256, .inl cst.2.1.2.2.2.2.2.2.2.2.2.2.2)), (a_x_weighing, .inr (8, [.ref a_x_weighing_known, .ref a_x_weighing_left, .ref a_x_ruler, .ref a_x_drawn, .ref a_x_weighing_greatest, .ref a_x_weighing_open, .int cst.2.2.2.2.2.2.2.2.2.1.1])), (a_x_weighing_greatest, .inl (ar 0, 340, .inl cst.2.2.2.2.2.2.2.2.2.1.2.1)), (a_x_weighing_known, .inl (ar 0, 256, .inl cst.2.2.2.2.2.2.2.2.2.1.2.2.1)), (a_x_weighing_left, .inl (ar 0, 4, .inl cst.2.2.2.2.2.2.2.2.2.1.2.2.2.1)), (a_x_weighing_open, .inl (ar 1, 340, .inl cst.2.2.2.2.2.2.2.2.2.1.2.2.2.2)), (a_x_writing, .inr (8, [.ref a_x_writing_known, .ref a_x_writing_left, .ref a_x_pen, .ref a_x_drawn, .ref a_x_writing_greatest, .ref a_x_writing_open, .int cst.2.2.2.2.2.2.2.1.1])), (a_x_writing_greatest, .inl (ar 0, 340, .inl cst.2.2.2.2.2.2.2.1.2.1)), (a_x_writing_known, .inl (ar 0, 256, .inl cst.2.2.2.2.2.2.2.1.2.2.1)), (a_x_writing_left, .inl (ar 0, 4, .inl cst.2.2.2.2.2.2.2.1.2.2.2.1)), (a_x_writing_open, .inl (ar 1, 340, .inl cst.2.2.2.2.2.2.2.1.2.2.2.2)), (a_m, .inr (9, [.int rst.1, .int rst.2.2.2.2.2.2.2.2.2.2.2.1, .int rst.2.2.2.1, .ref a_m_inside, .ref a_m_values, .ref a_m_partOf, .ref a_m_waves, .int rst.2.2.2.2.1, .int rst.2.2.2.2.2.2.2.2.2.1, .int rst.2.2.2.2.2.2.2.1, .int rst.2.2.2.2.2.2.2.2.1, .ref a_m_readInside, .ref a_m_readPart, .ref a_m_readValues, .ref a_m_stream, .int rst.2.2.2.2.2.2.2.2.2.2.1, .ref a_m_zeros, .ref a_m_fed, .int rst.2.2.1, .ref a_m_pile, .int rst.2.2.2.2.2.2.1, .int rst.2.2.2.2.2.1, .int rst.2.1, .ref a_m_open, .ref a_m_sizes, .ref a_m_below])), (a_m_below, .inl (ar 1, 256, .inl rst.2.2.2.2.2.2.2.2.2.2.2.2.1)), (a_m_fed, .inl (ar 0, 2400, .inl rst.2.2.2.2.2.2.2.2.2.2.2.2.2.1)), (a_m_inside, .inl (ar 1, 256, .inl rst.2.2.2.2.2.2.2.2.2.2.2.2.2.2.1)), (a_m_open, .inl (ar 1, 1024, .inl rst.2.2.2.2.2.2.2.2.2.2.2.2.2.2.2.1)), (a_m_partOf, .inl (ar 0, 256, .inl rst.2.2.2.2.2.2.2.2.2.2.2.2.2.2.2.2.1)), (a_m_pile, .inl (ar 0, 256, .inl rst.2.2.2.2.2.2.2.2.2.2.2.2.2.2.2.2.2.1)), (a_m_readInside, .inl (ar 1, 256, .inl rst.2.2.2.2.2.2.2.2.2.2.2.2.2.2.2.2.2.2.1)), (a_m_readPart, .inl (ar 0, 256, .inl rst.2.2.2.2.2.2.2.2.2.2.2.2.2.2.2.2.2.2.2.1)), (a_m_readValues, .inl (ar 0, 256, .inl rst.2.2.2.2.2.2.2.2.2.2.2.2.2.2.2.2.2.2.2.2.1)), (a_m_sizes, .inl (ar 0, 256, .inl rst.2.2.2.2.2.2.2.2.2.2.2.2.2.2.2.2.2.2.2.2.2.1)), (a_m_stream, .inl (ar 0, 7500, .inl rst.2.2.2.2.2.2.2.2.2.2.2.2.2.2.2.2.2.2.2.2.2.2.1)), (a_m_values, .inl (ar 0, 256, .inl rst.2.2.2.2.2.2.2.2.2.2.2.2.2.2.2.2.2.2.2.2.2.2.2.1)), (a_m_waves, .inl (ar 0, 256, .inl rst.2.2.2.2.2.2.2.2.2.2.2.2.2.2.2.2.2.2.2.2.2.2.2.2.1)), (a_m_zeros, .inl (ar 0, 4, .inl rst.2.2.2.2.2.2.2.2.2.2.2.2.2.2.2.2.2.2.2.2.2.2.2.2.2)), (a_out, .inl (ar 3, 1, .inr (.inl s_out)))] [(0, .ref b), (1, .ref a_x), (2, .ref a_m), (3, .ref a_out), (4, .int x4)] [] := by
  intro n
  induction n with
  | zero => intro kc ks x4 cst rst s_out _ _ h; exact (no0 h).elim
  | succ n ih =>
    intro kc ks x4 cst rst s_out h1 h2 h
    exact w_Lw_law_k43 C0 hfl hX hbl hbA (by omega) (by omega) hAs x4 cst rst s_out (loop4 (m_Lw_law_k43 fu L xs) n) (fun x4 cst rst s_out h => ih (kc + 1) (ks + 6) x4 cst rst s_out (by omega) (by omega) h) h
