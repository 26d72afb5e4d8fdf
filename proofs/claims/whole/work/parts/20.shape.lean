abbrev rm_FW_nearestSide : Room := { frames := 1, cells := 0, slots := 0, locals := 40 }
def m_FW_nearestSide (fu : Nat) (x0 : Int32) : Option (Int32) :=
  some (if (1 : Int32) < (if x0 < (16 : Int32) then x0 else (16 : Int32)) then (if x0 < (16 : Int32) then x0 else (16 : Int32)) else (1 : Int32))
set_option maxHeartbeats 4000000 in
set_option maxRecDepth 100000 in
theorem c_FW_nearestSide {l : Launch} {D : va_G} {ar : Nat → ClassId} {fu : Nat} (_a0 : Nat) (x0 : Int32) {r_v : Int32} (h : m_FW_nearestSide fu x0 = some r_v) : StdI l y_FW_nearestSide ws_FW_nearestSide rm_FW_nearestSide D ar [.int x0] [] [] r_v := by
  refine sd_metI (cc := prog_1_method_19_code) (maxL := 1) (ret := (some .int)) (own := "FreeWavelets") (by decide) rfl rfl (Nat.le_of_ble_eq_true rfl) ?_
  intro p e s m below meth c A ls C0 hP hD hl
  obtain ⟨hx, hb, hr, hml, hown, hts, hlocks, hA, hK, hZ⟩ := id C0
  have hS : va_S A s.heap s.heap [] := va_S.rf
  have hl : lv_has ls 1 [(0, .int x0)] := hl
  unfold m_FW_nearestSide at h
  refine lv_iconst (v := (1 : Int32)) hx hb d_FW_nearestSide_0 (by decide) ?_
  refine lv_bipush (v := (16 : Int32)) hx hb d_FW_nearestSide_1 (by decide) ?_
  refine lv_iload_n hx hb d_FW_nearestSide_3 rfl (lv_at hl 0 rfl) ?_
  refine va_mmin hx hb (hml.trans hl.1.symm) hown (hts _ k_258) (hts _ k_259) (hts _ k_38) (hts _ k_260) (Nat.le_of_ble_eq_true rfl) (Nat.le_of_ble_eq_true rfl) (Nat.zero_le _) (Nat.zero_le _) d_FW_nearestSide_4 ?_
  refine va_mmax hx hb (hml.trans hl.1.symm) hown (hts _ k_261) (hts _ k_262) (hts _ k_38) (hts _ k_263) (Nat.le_of_ble_eq_true rfl) (Nat.le_of_ble_eq_true rfl) (Nat.zero_le _) (Nat.zero_le _) d_FW_nearestSide_7 ?_
  cases h
  exact sd_iret hx hb hr hlocks hP hD hK hS d_FW_nearestSide_10
abbrev rm_FW_sampleOf : Room := { frames := 0, cells := 0, slots := 0, locals := 0 }
def m_FW_sampleOf (fu : Nat) (x0 : Int32) (x1 : Int32) : Option (Int32) :=
  some ((x1 * (16 : Int32)) + x0)
set_option maxHeartbeats 4000000 in
set_option maxRecDepth 100000 in
theorem c_FW_sampleOf {l : Launch} {D : va_G} {ar : Nat → ClassId} {fu : Nat} (_a0 : Nat) (x0 : Int32) (x1 : Int32) {r_v : Int32} (h : m_FW_sampleOf fu x0 x1 = some r_v) : StdI l y_FW_sampleOf ws_FW_sampleOf rm_FW_sampleOf D ar [.int x0, .int x1] [] [] r_v := by
  refine sd_metI (cc := prog_1_method_20_code) (maxL := 2) (ret := (some .int)) (own := "FreeWavelets") (by decide) rfl rfl (Nat.le_of_ble_eq_true rfl) ?_
  intro p e s m below meth c A ls C0 hP hD hl
  obtain ⟨hx, hb, hr, hml, hown, hts, hlocks, hA, hK, hZ⟩ := id C0
  have hS : va_S A s.heap s.heap [] := va_S.rf
  have hl : lv_has ls 2 [(0, .int x0), (1, .int x1)] := hl
  unfold m_FW_sampleOf at h
  refine lv_iload_n hx hb d_FW_sampleOf_0 rfl (lv_at hl 1 rfl) ?_
  refine lv_bipush (v := (16 : Int32)) hx hb d_FW_sampleOf_1 (by decide) ?_
  refine lv_imul hx hb d_FW_sampleOf_3 ?_
  refine lv_iload_n hx hb d_FW_sampleOf_4 rfl (lv_at hl 0 rfl) ?_
  refine lv_iadd hx hb d_FW_sampleOf_5 ?_
  cases h
  exact sd_iret hx hb hr hlocks hP hD hK hS d_FW_sampleOf_6
abbrev rm_FW_columnOf : Room := { frames := 0, cells := 0, slots := 0, locals := 0 }
def m_FW_columnOf (fu : Nat) (x0 : Int32) : Option (Int32) :=
  some (x0 &&& (15 : Int32))
set_option maxHeartbeats 4000000 in
set_option maxRecDepth 100000 in
theorem c_FW_columnOf {l : Launch} {D : va_G} {ar : Nat → ClassId} {fu : Nat} (_a0 : Nat) (x0 : Int32) {r_v : Int32} (h : m_FW_columnOf fu x0 = some r_v) : StdI l y_FW_columnOf ws_FW_columnOf rm_FW_columnOf D ar [.int x0] [] [] r_v := by
  refine sd_metI (cc := prog_1_method_21_code) (maxL := 1) (ret := (some .int)) (own := "FreeWavelets") (by decide) rfl rfl (Nat.le_of_ble_eq_true rfl) ?_
  intro p e s m below meth c A ls C0 hP hD hl
  obtain ⟨hx, hb, hr, hml, hown, hts, hlocks, hA, hK, hZ⟩ := id C0
  have hS : va_S A s.heap s.heap [] := va_S.rf
  have hl : lv_has ls 1 [(0, .int x0)] := hl
  unfold m_FW_columnOf at h
  refine lv_iload_n hx hb d_FW_columnOf_0 rfl (lv_at hl 0 rfl) ?_
  refine lv_bipush (v := (15 : Int32)) hx hb d_FW_columnOf_1 (by decide) ?_
  refine lv_iand hx hb d_FW_columnOf_3 ?_
  cases h
  exact sd_iret hx hb hr hlocks hP hD hK hS d_FW_columnOf_4
abbrev rm_FW_rowOf : Room := { frames := 0, cells := 0, slots := 0, locals := 0 }
def m_FW_rowOf (fu : Nat) (x0 : Int32) : Option (Int32) :=
  some (x0 >>> ((4 : Int32) &&& 31))
set_option maxHeartbeats 4000000 in
set_option maxRecDepth 100000 in
theorem c_FW_rowOf {l : Launch} {D : va_G} {ar : Nat → ClassId} {fu : Nat} (_a0 : Nat) (x0 : Int32) {r_v : Int32} (h : m_FW_rowOf fu x0 = some r_v) : StdI l y_FW_rowOf ws_FW_rowOf rm_FW_rowOf D ar [.int x0] [] [] r_v := by
  refine sd_metI (cc := prog_1_method_22_code) (maxL := 1) (ret := (some .int)) (own := "FreeWavelets") (by decide) rfl rfl (Nat.le_of_ble_eq_true rfl) ?_
  intro p e s m below meth c A ls C0 hP hD hl
  obtain ⟨hx, hb, hr, hml, hown, hts, hlocks, hA, hK, hZ⟩ := id C0
  have hS : va_S A s.heap s.heap [] := va_S.rf
  have hl : lv_has ls 1 [(0, .int x0)] := hl
  unfold m_FW_rowOf at h
  refine lv_iload_n hx hb d_FW_rowOf_0 rfl (lv_at hl 0 rfl) ?_
  refine lv_iconst (v := (4 : Int32)) hx hb d_FW_rowOf_1 (by decide) ?_
  refine lv_ishr hx hb d_FW_rowOf_2 ?_
  cases h
  exact sd_iret hx hb hr hlocks hP hD hK hS d_FW_rowOf_3
abbrev rm_FW_bitsOf : Room := { frames := 0, cells := 0, slots := 0, locals := 0 }
def m_FW_bitsOf_k2 (fu : Nat) (x0 : Int32) (rec : Int32 → Option (Int32)) (x1 : Int32) : Option (Int32) :=
  if (31 : Int32) ≤ x1 then (some x1) else (if (x0 >>> (x1 &&& 31)) ≤ (0 : Int32) then (some x1) else (letB (x1 + (1 : Int32)) (fun x1_3 => rec x1_3)))
set_option maxHeartbeats 4000000 in
set_option maxRecDepth 100000 in
theorem w_FW_bitsOf_l2 {p : Program} {l : Launch} {e : Env} {s : State} {m : MethodId} {args : Array Value} {below : List Frame} {meth : Method} {c : Code} {D : va_G} {ar : Nat → ClassId} {A : Nat → Prop} {Q : State → Prop} {fu : Nat} (C0 : CX p s m meth c args prog_1_method_23_code 2 (some .int) "FreeWavelets" D ar A) (x0 : Int32) : ∀ (n : Nat) (x1 : Int32) (o_x1 : Int32), loop1 (m_FW_bitsOf_k2 fu x0) n x1 = some o_x1 → (WA p l e rm_FW_bitsOf s m args below meth c D A 2 Q 20 [] [(1, .int o_x1)] []) → WA p l e rm_FW_bitsOf s m args below meth c D A 2 Q 2 [] [(0, .int x0), (1, .int x1)] [] := by
  intro n
  induction n with
  | zero => intro x1 o_x1 h; exact (no0 h).elim
  | succ n ih =>
    intro x1 o_x1 h K1
    have hrec : ∀ (x1 : Int32), loop1 (m_FW_bitsOf_k2 fu x0) n x1 = some o_x1 → WA p l e rm_FW_bitsOf s m args below meth c D A 2 Q 2 [] [(0, .int x0), (1, .int x1)] [] := fun x1 h => ih x1 o_x1 h K1
    clear ih
    intro H locs ls hP hD hS hl
    obtain ⟨hx, hb, hr, hml, hown, hts, hlocks, hA, hK, hZ⟩ := id C0
    have h : m_FW_bitsOf_k2 fu x0 (loop1 (m_FW_bitsOf_k2 fu x0) n) x1 = some o_x1 := h
    unfold m_FW_bitsOf_k2 at h
    refine lv_iload_n hx hb d_FW_bitsOf_2 rfl (lv_at hl 1 rfl) ?_
    refine lv_bipush (v := (31 : Int32)) hx hb d_FW_bitsOf_3 (by decide) ?_
    refine lv_icmp_ge (tgt := 20) hx hb d_FW_bitsOf_5 (by decide) (fun c_1 => ?_) (fun c_1 => ?_)
    · have h := Eq.trans (if_pos c_1).symm h
      cases h
      exact K1 _ _ _ hP hD hS (lv_sub hl [1] rfl)
    · have h := Eq.trans (if_neg c_1).symm h
      refine lv_iload_n hx hb d_FW_bitsOf_8 rfl (lv_at hl 0 rfl) ?_
      refine lv_iload_n hx hb d_FW_bitsOf_9 rfl (lv_at hl 1 rfl) ?_
      refine lv_ishr hx hb d_FW_bitsOf_10 ?_
      refine lv_if_le (tgt := 20) hx hb d_FW_bitsOf_11 (by decide) (fun c_2 => ?_) (fun c_2 => ?_)
      · have h := Eq.trans (if_pos c_2).symm h
        cases h
        exact K1 _ _ _ hP hD hS (lv_sub hl [1] rfl)
      · have h := Eq.trans (if_neg c_2).symm h
        obtain ⟨x1_3, e_x1_3⟩ : ∃ y : Int32, y = x1 + (1 : Int32) := ⟨_, rfl⟩
        have h := letB_at e_x1_3 h
        refine lv_iinc (v := x1_3) (lv' := [(1, .int x1_3), (0, .int x0)]) hx hb d_FW_bitsOf_14 hl (k := 1) rfl (by rw [e_x1_3]; rfl) (by decide) rfl (fun ls hl => ?_)
        refine lv_goto (tgt := 2) hx hb d_FW_bitsOf_17 (by decide) ?_
        exact hrec x1_3 h _ _ _ hP hD hS (lv_sub hl [1, 0] rfl)
def m_FW_bitsOf (fu : Nat) (x0 : Int32) : Option (Int32) :=
  bn1 (loop1 (m_FW_bitsOf_k2 fu x0) fu (0 : Int32)) (fun o_x1_4 => some o_x1_4)
set_option maxHeartbeats 4000000 in
set_option maxRecDepth 100000 in
theorem c_FW_bitsOf {l : Launch} {D : va_G} {ar : Nat → ClassId} {fu : Nat} (_a0 : Nat) (x0 : Int32) {r_v : Int32} (h : m_FW_bitsOf fu x0 = some r_v) : StdI l y_FW_bitsOf ws_FW_bitsOf rm_FW_bitsOf D ar [.int x0] [] [] r_v := by
  refine sd_metI (cc := prog_1_method_23_code) (maxL := 2) (ret := (some .int)) (own := "FreeWavelets") (by decide) rfl rfl (Nat.le_of_ble_eq_true rfl) ?_
  intro p e s m below meth c A ls C0 hP hD hl
  obtain ⟨hx, hb, hr, hml, hown, hts, hlocks, hA, hK, hZ⟩ := id C0
  have hS : va_S A s.heap s.heap [] := va_S.rf
  have hl : lv_has ls 2 [(0, .int x0)] := hl
  unfold m_FW_bitsOf at h
  refine lv_iconst (v := (0 : Int32)) hx hb d_FW_bitsOf_0 (by decide) ?_
  refine lv_istore_n (lv' := [(1, .int (0 : Int32)), (0, .int x0)]) hx hb d_FW_bitsOf_1 rfl hl (by decide) rfl (fun ls hl => ?_)
  obtain ⟨o_x1_4, hloop, h⟩ := bn1_some h
  refine w_FW_bitsOf_l2 C0 x0 fu (0 : Int32) _ hloop ?_ _ _ _ hP hD hS (lv_sub hl [1, 0] rfl)
  clear hP hD hS hl hloop
  intro H locs ls hP hD hS hl
  refine lv_iload_n hx hb d_FW_bitsOf_20 rfl (lv_at hl 0 rfl) ?_
  cases h
  exact sd_iret hx hb hr hlocks hP hD hK hS d_FW_bitsOf_21
abbrev rm_Arrays_fill : Room := { frames := 0, cells := 0, slots := 0, locals := 0 }
def m_Arrays_fill_k5 (fu : Nat) (n_arr : Nat) (x1 : Int32) (x3 : Int32) (rec : Int32 → (Nat → Int32) → Option (((Nat → Int32)))) (x2 : Int32) (s_arr : Nat → Int32) : Option (((Nat → Int32))) :=
  if x3 ≤ x2 then (some s_arr) else (chk x2 n_arr (letB (x2 + (1 : Int32)) (fun x2_4 => rec x2_4 (upd s_arr (x2).toNatClampNeg x1))))
set_option maxHeartbeats 4000000 in
set_option maxRecDepth 100000 in
theorem w_Arrays_fill_l5 {p : Program} {l : Launch} {e : Env} {s : State} {m : MethodId} {args : Array Value} {below : List Frame} {meth : Method} {c : Code} {D : va_G} {ar : Nat → ClassId} {A : Nat → Prop} {Q : State → Prop} {fu : Nat} {n_arr : Nat} {a_arr : Nat} (C0 : CX p s m meth c args prog_23_method_103_code 4 none "java/util/Arrays" D ar A) (x1 : Int32) (x3 : Int32) : ∀ (n : Nat) (x2 : Int32) (s_arr : Nat → Int32) (o_arr : Nat → Int32), loop2 (m_Arrays_fill_k5 fu n_arr x1 x3) n x2 s_arr = some o_arr → (WA p l e rm_Arrays_fill s m args below meth c D A 4 Q 20 [(a_arr, .inl (ar 0, n_arr, .inl o_arr))] [] []) → WA p l e rm_Arrays_fill s m args below meth c D A 4 Q 5 [(a_arr, .inl (ar 0, n_arr, .inl s_arr))] [(0, .ref a_arr), (1, .int x1), (2, .int x2), (3, .int x3)] [] := by
  intro n
  induction n with
  | zero => intro x2 s_arr o_arr h; exact (no0 h).elim
  | succ n ih =>
    intro x2 s_arr o_arr h K1
    have hrec : ∀ (x2 : Int32) (s_arr : Nat → Int32), loop2 (m_Arrays_fill_k5 fu n_arr x1 x3) n x2 s_arr = some o_arr → WA p l e rm_Arrays_fill s m args below meth c D A 4 Q 5 [(a_arr, .inl (ar 0, n_arr, .inl s_arr))] [(0, .ref a_arr), (1, .int x1), (2, .int x2), (3, .int x3)] [] := fun x2 s_arr h => ih x2 s_arr o_arr h K1
    clear ih
    intro H locs ls hP hD hS hl
    obtain ⟨hx, hb, hr, hml, hown, hts, hlocks, hA, hK, hZ⟩ := id C0
    have h : m_Arrays_fill_k5 fu n_arr x1 x3 (loop2 (m_Arrays_fill_k5 fu n_arr x1 x3) n) x2 s_arr = some o_arr := h
    unfold m_Arrays_fill_k5 at h
    refine lv_iload_n hx hb d_Arrays_fill_5 rfl (lv_at hl 2 rfl) ?_
    refine lv_iload_n hx hb d_Arrays_fill_6 rfl (lv_at hl 3 rfl) ?_
    refine lv_icmp_ge (tgt := 20) hx hb d_Arrays_fill_7 (by decide) (fun c_2 => ?_) (fun c_2 => ?_)
    · have h := Eq.trans (if_pos c_2).symm h
      cases h
      exact K1 _ _ _ hP hD hS (lv_sub hl [] rfl)
    · have h := Eq.trans (if_neg c_2).symm h
      refine lv_aload_n hx hb d_Arrays_fill_10 rfl (lv_at hl 0 rfl) ?_
      refine lv_iload_n hx hb d_Arrays_fill_11 rfl (lv_at hl 2 rfl) ?_
      refine lv_iload_n hx hb d_Arrays_fill_12 rfl (lv_at hl 1 rfl) ?_
      obtain ⟨b_3, h⟩ := chk_some h
      refine va_iast hx hb hK hP hD hS 0 0 rfl rfl b_3 d_Arrays_fill_13 (fun H locs hP hD hS => ?_)
      have hP : va_P D vwCl [(a_arr, .inl (ar 0, n_arr, .inl (upd s_arr (x2).toNatClampNeg x1)))] H := hP
      have hD : va_D A [(a_arr, .inl (ar 0, n_arr, .inl (upd s_arr (x2).toNatClampNeg x1)))] := hD
      obtain ⟨x2_4, e_x2_4⟩ : ∃ y : Int32, y = x2 + (1 : Int32) := ⟨_, rfl⟩
      have h := letB_at e_x2_4 h
      refine lv_iinc (v := x2_4) (lv' := [(2, .int x2_4), (0, .ref a_arr), (1, .int x1), (3, .int x3)]) hx hb d_Arrays_fill_14 hl (k := 2) rfl (by rw [e_x2_4]; rfl) (by decide) rfl (fun ls hl => ?_)
      refine lv_goto (tgt := 5) hx hb d_Arrays_fill_17 (by decide) ?_
      exact hrec x2_4 (upd s_arr (x2).toNatClampNeg x1) h _ _ _ hP hD hS (lv_sub hl [1, 2, 0, 3] rfl)
def m_Arrays_fill (fu : Nat) (n_arr : Nat) (x1 : Int32) (s_arr : Nat → Int32) : Option ((Nat → Int32)) :=
  letB (Int32.ofNat n_arr) (fun x3_1 => bn1 (loop2 (m_Arrays_fill_k5 fu n_arr x1 x3_1) fu (0 : Int32) s_arr) (fun o_arr_5 => some o_arr_5))
set_option maxHeartbeats 4000000 in
set_option maxRecDepth 100000 in
theorem c_Arrays_fill {l : Launch} {D : va_G} {ar : Nat → ClassId} {fu : Nat} {n_arr : Nat} (a_arr : Nat) (x1 : Int32) (s_arr : Nat → Int32) {r_arr : Nat → Int32} (h : m_Arrays_fill fu n_arr x1 s_arr = some r_arr) : StdV l y_Arrays_fill ws_Arrays_fill rm_Arrays_fill D ar [.ref a_arr, .int x1] [(a_arr, .inl (ar 0, n_arr, .inl s_arr))] [(a_arr, .inl (ar 0, n_arr, .inl r_arr))] := by
  refine sd_metV (cc := prog_23_method_103_code) (maxL := 4) (ret := none) (own := "java/util/Arrays") (by decide) rfl rfl (Nat.le_of_ble_eq_true rfl) ?_
  intro p e s m below meth c A ls C0 hP hD hl
  obtain ⟨hx, hb, hr, hml, hown, hts, hlocks, hA, hK, hZ⟩ := id C0
  have hS : va_S A s.heap s.heap [] := va_S.rf
  have hl : lv_has ls 4 [(0, .ref a_arr), (1, .int x1)] := hl
  unfold m_Arrays_fill at h
  refine lv_iconst (v := (0 : Int32)) hx hb d_Arrays_fill_0 (by decide) ?_
  refine lv_istore_n (lv' := [(2, .int (0 : Int32)), (0, .ref a_arr), (1, .int x1)]) hx hb d_Arrays_fill_1 rfl hl (by decide) rfl (fun ls hl => ?_)
  refine lv_aload_n hx hb d_Arrays_fill_2 rfl (lv_at hl 1 rfl) ?_
  refine va_alen hx hb hK hP 0 0 rfl rfl rfl d_Arrays_fill_3 ?_
  refine lv_topi (fun x3_1 e_x3_1 => ?_)
  have h := letB_at e_x3_1 h
  refine lv_istore_n (lv' := [(3, .int x3_1), (2, .int (0 : Int32)), (0, .ref a_arr), (1, .int x1)]) hx hb d_Arrays_fill_4 rfl hl (by decide) rfl (fun ls hl => ?_)
  obtain ⟨o_arr_5, hloop, h⟩ := bn1_some h
  refine w_Arrays_fill_l5 C0 x1 x3_1 fu (0 : Int32) s_arr _ hloop ?_ _ _ _ hP hD hS (lv_sub hl [2, 3, 1, 0] rfl)
  clear hP hD hS hl hloop
  intro H locs ls hP hD hS hl
  cases h
  exact sd_vret hx hb hr hlocks hP hD hK hS d_Arrays_fill_20
abbrev rm_Shape_join : Room := { frames := 0, cells := 0, slots := 0, locals := 0 }
def m_Shape_join_b26 (fu : Nat) (x2 : Int32) (s_parts : Int32) (s_inside : Nat → Int32) (s_partOf : Nat → Int32) (s_queue : Nat → Int32) : Option (Int32 × (Nat → Int32) × (Nat → Int32)) :=
  some (x2, s_partOf, s_queue)
set_option maxHeartbeats 4000000 in
set_option maxRecDepth 100000 in
theorem w_Shape_join_b26 {p : Program} {l : Launch} {e : Env} {s : State} {m : MethodId} {args : Array Value} {below : List Frame} {meth : Method} {c : Code} {D : va_G} {ar : Nat → ClassId} {A : Nat → Prop} {fu : Nat} {a_this a_this_inside a_this_partOf a_this_sizeOf a_this_firstOf a_this_queue : Nat} {s_width : Int32} {s_height : Int32} {s_count : Int32} {r_v : Int32} {r_partOf : Nat → Int32} {r_queue : Nat → Int32} (C0 : CX p s m meth c args prog_8_method_7_code 3 (some .int) "FreeWavelets$Shape" D ar A) (x2 : Int32) (s_parts : Int32) (s_inside : Nat → Int32) (s_partOf : Nat → Int32) (s_queue : Nat → Int32) (h : m_Shape_join_b26 fu x2 s_parts s_inside s_partOf s_queue = some (r_v, r_partOf, r_queue)) : WA p l e rm_Shape_join s m args below meth c D A 3 (MQ below (QI D ar [(a_this, .inr (7, [.ref a_this_inside, .ref a_this_partOf, .ref a_this_sizeOf, .ref a_this_firstOf, .int s_width, .int s_height, .int s_parts, .int s_count, .ref a_this_queue])), (a_this_inside, .inl (ar 1, 256, .inl s_inside)), (a_this_partOf, .inl (ar 0, 256, .inl r_partOf)), (a_this_queue, .inl (ar 0, 256, .inl r_queue))] r_v A) args s 0 0 A) 26 [(a_this, .inr (7, [.ref a_this_inside, .ref a_this_partOf, .ref a_this_sizeOf, .ref a_this_firstOf, .int s_width, .int s_height, .int s_parts, .int s_count, .ref a_this_queue])), (a_this_inside, .inl (ar 1, 256, .inl s_inside)), (a_this_partOf, .inl (ar 0, 256, .inl s_partOf)), (a_this_queue, .inl (ar 0, 256, .inl s_queue))] [(2, .int x2)] [] := by
  intro H locs ls hP hD hS hl
  obtain ⟨hx, hb, hr, hml, hown, hts, hlocks, hA, hK, hZ⟩ := id C0
  unfold m_Shape_join_b26 at h
  refine lv_iload_n hx hb d_Shape_join_26 rfl (lv_at hl 0 rfl) ?_
  cases h
  exact sd_iret hx hb hr hlocks hP hD hK hS d_Shape_join_27
def m_Shape_join (fu : Nat) (x1 : Int32) (x2 : Int32) (s_parts : Int32) (s_inside : Nat → Int32) (s_partOf : Nat → Int32) (s_queue : Nat → Int32) : Option (Int32 × (Nat → Int32) × (Nat → Int32)) :=
  chk x1 256 (if (s_inside (x1).toNatClampNeg) = (0 : Int32) then (m_Shape_join_b26 fu x2 s_parts s_inside s_partOf s_queue) else (chk x1 256 (if (s_partOf (x1).toNatClampNeg) = (-1 : Int32) then (if x2 < (256 : Int32) then (chk x1 256 (chk x2 256 (some (x2 + (1 : Int32), upd s_partOf (x1).toNatClampNeg s_parts, upd s_queue (x2).toNatClampNeg x1)))) else (m_Shape_join_b26 fu x2 s_parts s_inside s_partOf s_queue)) else (m_Shape_join_b26 fu x2 s_parts s_inside s_partOf s_queue))))
set_option maxHeartbeats 4000000 in
set_option maxRecDepth 100000 in
theorem c_Shape_join {l : Launch} {D : va_G} {ar : Nat → ClassId} {fu : Nat} (a_this a_this_inside a_this_partOf a_this_sizeOf a_this_firstOf a_this_queue : Nat) (s_width : Int32) (s_height : Int32) (s_count : Int32) (x1 : Int32) (x2 : Int32) (s_parts : Int32) (s_inside : Nat → Int32) (s_partOf : Nat → Int32) (s_queue : Nat → Int32) {r_v : Int32} {r_partOf : Nat → Int32} {r_queue : Nat → Int32} (h : m_Shape_join fu x1 x2 s_parts s_inside s_partOf s_queue = some (r_v, r_partOf, r_queue)) : StdI l y_Shape_join ws_Shape_join rm_Shape_join D ar [.ref a_this, .int x1, .int x2] [(a_this, .inr (7, [.ref a_this_inside, .ref a_this_partOf, .ref a_this_sizeOf, .ref a_this_firstOf, .int s_width, .int s_height, .int s_parts, .int s_count, .ref a_this_queue])), (a_this_inside, .inl (ar 1, 256, .inl s_inside)), (a_this_partOf, .inl (ar 0, 256, .inl s_partOf)), (a_this_queue, .inl (ar 0, 256, .inl s_queue))] [(a_this, .inr (7, [.ref a_this_inside, .ref a_this_partOf, .ref a_this_sizeOf, .ref a_this_firstOf, .int s_width, .int s_height, .int s_parts, .int s_count, .ref a_this_queue])), (a_this_inside, .inl (ar 1, 256, .inl s_inside)), (a_this_partOf, .inl (ar 0, 256, .inl r_partOf)), (a_this_queue, .inl (ar 0, 256, .inl r_queue))] r_v := by
  refine sd_metI (cc := prog_8_method_7_code) (maxL := 3) (ret := (some .int)) (own := "FreeWavelets$Shape") (by decide) rfl rfl (Nat.le_of_ble_eq_true rfl) ?_
  intro p e s m below meth c A ls C0 hP hD hl
  obtain ⟨hx, hb, hr, hml, hown, hts, hlocks, hA, hK, hZ⟩ := id C0
  have hS : va_S A s.heap s.heap [] := va_S.rf
  have hl : lv_has ls 3 [(0, .ref a_this), (1, .int x1), (2, .int x2)] := hl
  unfold m_Shape_join at h
  refine lv_aload_n hx hb d_Shape_join_0 rfl (lv_at hl 0 rfl) ?_
  refine va_get (D := D) (ci := 7) (v := .ref a_this_inside) (C := R_Shape) (T := F_Shape) (N := 9) hx hb hts in_Shape hown hK hP 0 rfl rfl 0 (by decide) (hts _ k_70) (fun _ h9 => h9) rfl d_Shape_join_1 ?_
  refine lv_iload_n hx hb d_Shape_join_4 rfl (lv_at hl 1 rfl) ?_
  obtain ⟨b_1, h⟩ := chk_some h
  refine va_zald hx hb hK hP 1 1 rfl rfl b_1 d_Shape_join_5 ?_
  refine lv_if_eq (tgt := 26) hx hb d_Shape_join_6 (by decide) (fun c_2 => ?_) (fun c_2 => ?_)
  · have h := Eq.trans (if_pos c_2).symm h
    exact w_Shape_join_b26 C0 x2 s_parts s_inside s_partOf s_queue h _ _ _ hP hD hS (lv_sub hl [2] rfl)
  · have h := Eq.trans (if_neg c_2).symm h
    refine lv_aload_n hx hb d_Shape_join_9 rfl (lv_at hl 0 rfl) ?_
    refine va_get (D := D) (ci := 7) (v := .ref a_this_partOf) (C := R_Shape) (T := F_Shape) (N := 9) hx hb hts in_Shape hown hK hP 0 rfl rfl 1 (by decide) (hts _ k_75) (fun _ h9 => h9) rfl d_Shape_join_10 ?_
    refine lv_iload_n hx hb d_Shape_join_13 rfl (lv_at hl 1 rfl) ?_
    obtain ⟨b_3, h⟩ := chk_some h
    refine va_iald hx hb hK hP 2 0 rfl rfl b_3 d_Shape_join_14 ?_
    refine lv_iconst (v := (-1 : Int32)) hx hb d_Shape_join_15 (by decide) ?_
    refine lv_icmp_ne (tgt := 26) hx hb d_Shape_join_16 (by decide) (fun c_4 => ?_) (fun c_4 => ?_)
    · have h := Eq.trans (if_neg c_4).symm h
      exact w_Shape_join_b26 C0 x2 s_parts s_inside s_partOf s_queue h _ _ _ hP hD hS (lv_sub hl [2] rfl)
    · have h := Eq.trans (if_pos c_4).symm h
      refine lv_iload_n hx hb d_Shape_join_19 rfl (lv_at hl 2 rfl) ?_
      refine lv_sipush (v := (256 : Int32)) hx hb d_Shape_join_20 (by decide) ?_
      refine lv_icmp_lt (tgt := 28) hx hb d_Shape_join_23 (by decide) (fun c_5 => ?_) (fun c_5 => ?_)
      · have h := Eq.trans (if_pos c_5).symm h
        refine lv_aload_n hx hb d_Shape_join_28 rfl (lv_at hl 0 rfl) ?_
        refine va_get (D := D) (ci := 7) (v := .ref a_this_partOf) (C := R_Shape) (T := F_Shape) (N := 9) hx hb hts in_Shape hown hK hP 0 rfl rfl 1 (by decide) (hts _ k_75) (fun _ h9 => h9) rfl d_Shape_join_29 ?_
        refine lv_iload_n hx hb d_Shape_join_32 rfl (lv_at hl 1 rfl) ?_
        refine lv_aload_n hx hb d_Shape_join_33 rfl (lv_at hl 0 rfl) ?_
        refine va_get (D := D) (ci := 7) (v := .int s_parts) (C := R_Shape) (T := F_Shape) (N := 9) hx hb hts in_Shape hown hK hP 0 rfl rfl 6 (by decide) (hts _ k_91) (fun _ h9 => h9) rfl d_Shape_join_34 ?_
        obtain ⟨b_6, h⟩ := chk_some h
        refine va_iast hx hb hK hP hD hS 2 0 rfl rfl b_6 d_Shape_join_37 (fun H locs hP hD hS => ?_)
        have hP : va_P D vwCl [(a_this, .inr (7, [.ref a_this_inside, .ref a_this_partOf, .ref a_this_sizeOf, .ref a_this_firstOf, .int s_width, .int s_height, .int s_parts, .int s_count, .ref a_this_queue])), (a_this_inside, .inl (ar 1, 256, .inl s_inside)), (a_this_partOf, .inl (ar 0, 256, .inl (upd s_partOf (x1).toNatClampNeg s_parts))), (a_this_queue, .inl (ar 0, 256, .inl s_queue))] H := hP
        have hD : va_D A [(a_this, .inr (7, [.ref a_this_inside, .ref a_this_partOf, .ref a_this_sizeOf, .ref a_this_firstOf, .int s_width, .int s_height, .int s_parts, .int s_count, .ref a_this_queue])), (a_this_inside, .inl (ar 1, 256, .inl s_inside)), (a_this_partOf, .inl (ar 0, 256, .inl (upd s_partOf (x1).toNatClampNeg s_parts))), (a_this_queue, .inl (ar 0, 256, .inl s_queue))] := hD
        refine lv_aload_n hx hb d_Shape_join_38 rfl (lv_at hl 0 rfl) ?_
        refine va_get (D := D) (ci := 7) (v := .ref a_this_queue) (C := R_Shape) (T := F_Shape) (N := 9) hx hb hts in_Shape hown hK hP 0 rfl rfl 8 (by decide) (hts _ k_95) (fun _ h9 => h9) rfl d_Shape_join_39 ?_
        refine lv_iload_n hx hb d_Shape_join_42 rfl (lv_at hl 2 rfl) ?_
        refine lv_iload_n hx hb d_Shape_join_43 rfl (lv_at hl 1 rfl) ?_
        obtain ⟨b_7, h⟩ := chk_some h
        refine va_iast hx hb hK hP hD hS 3 0 rfl rfl b_7 d_Shape_join_44 (fun H locs hP hD hS => ?_)
        have hP : va_P D vwCl [(a_this, .inr (7, [.ref a_this_inside, .ref a_this_partOf, .ref a_this_sizeOf, .ref a_this_firstOf, .int s_width, .int s_height, .int s_parts, .int s_count, .ref a_this_queue])), (a_this_inside, .inl (ar 1, 256, .inl s_inside)), (a_this_partOf, .inl (ar 0, 256, .inl (upd s_partOf (x1).toNatClampNeg s_parts))), (a_this_queue, .inl (ar 0, 256, .inl (upd s_queue (x2).toNatClampNeg x1)))] H := hP
        have hD : va_D A [(a_this, .inr (7, [.ref a_this_inside, .ref a_this_partOf, .ref a_this_sizeOf, .ref a_this_firstOf, .int s_width, .int s_height, .int s_parts, .int s_count, .ref a_this_queue])), (a_this_inside, .inl (ar 1, 256, .inl s_inside)), (a_this_partOf, .inl (ar 0, 256, .inl (upd s_partOf (x1).toNatClampNeg s_parts))), (a_this_queue, .inl (ar 0, 256, .inl (upd s_queue (x2).toNatClampNeg x1)))] := hD
        refine lv_iload_n hx hb d_Shape_join_45 rfl (lv_at hl 2 rfl) ?_
        refine lv_iconst (v := (1 : Int32)) hx hb d_Shape_join_46 (by decide) ?_
        refine lv_iadd hx hb d_Shape_join_47 ?_
        cases h
        exact sd_iret hx hb hr hlocks hP hD hK hS d_Shape_join_48
      · have h := Eq.trans (if_neg c_5).symm h
        exact w_Shape_join_b26 C0 x2 s_parts s_inside s_partOf s_queue h _ _ _ hP hD hS (lv_sub hl [2] rfl)
abbrev rm_Shape_has : Room := { frames := 0, cells := 0, slots := 0, locals := 0 }
def m_Shape_has_b29 (fu : Nat) (t0 : Int32) (s_height : Int32) (s_width : Int32) : Option (Int32) :=
  chkB t0 (some t0)
set_option maxHeartbeats 4000000 in
set_option maxRecDepth 100000 in
theorem w_Shape_has_b29 {p : Program} {l : Launch} {e : Env} {s : State} {m : MethodId} {args : Array Value} {below : List Frame} {meth : Method} {c : Code} {D : va_G} {ar : Nat → ClassId} {A : Nat → Prop} {fu : Nat} {a_this a_this_inside a_this_partOf a_this_sizeOf a_this_firstOf a_this_queue : Nat} {s_parts : Int32} {s_count : Int32} {r_v : Int32} (C0 : CX p s m meth c args prog_8_method_3_code 3 (some .boolean) "FreeWavelets$Shape" D ar A) (t0 : Int32) (s_height : Int32) (s_width : Int32) (h : m_Shape_has_b29 fu t0 s_height s_width = some r_v) : WA p l e rm_Shape_has s m args below meth c D A 3 (MQ below (QI D ar [(a_this, .inr (7, [.ref a_this_inside, .ref a_this_partOf, .ref a_this_sizeOf, .ref a_this_firstOf, .int s_width, .int s_height, .int s_parts, .int s_count, .ref a_this_queue]))] r_v A) args s 0 0 A) 29 [(a_this, .inr (7, [.ref a_this_inside, .ref a_this_partOf, .ref a_this_sizeOf, .ref a_this_firstOf, .int s_width, .int s_height, .int s_parts, .int s_count, .ref a_this_queue]))] [] [.int t0] := by
  intro H locs ls hP hD hS hl
  obtain ⟨hx, hb, hr, hml, hown, hts, hlocks, hA, hK, hZ⟩ := id C0
  unfold m_Shape_has_b29 at h
  obtain ⟨b_2, h⟩ := chkB_some h
  cases h
  exact sd_zret (nar_z b_2) hx hb hr hlocks hP hD hK hS d_Shape_has_29
def m_Shape_has_b28 (fu : Nat) (s_height : Int32) (s_width : Int32) : Option (Int32) :=
  m_Shape_has_b29 fu (0 : Int32) s_height s_width
set_option maxHeartbeats 4000000 in
set_option maxRecDepth 100000 in
theorem w_Shape_has_b28 {p : Program} {l : Launch} {e : Env} {s : State} {m : MethodId} {args : Array Value} {below : List Frame} {meth : Method} {c : Code} {D : va_G} {ar : Nat → ClassId} {A : Nat → Prop} {fu : Nat} {a_this a_this_inside a_this_partOf a_this_sizeOf a_this_firstOf a_this_queue : Nat} {s_parts : Int32} {s_count : Int32} {r_v : Int32} (C0 : CX p s m meth c args prog_8_method_3_code 3 (some .boolean) "FreeWavelets$Shape" D ar A) (s_height : Int32) (s_width : Int32) (h : m_Shape_has_b28 fu s_height s_width = some r_v) : WA p l e rm_Shape_has s m args below meth c D A 3 (MQ below (QI D ar [(a_this, .inr (7, [.ref a_this_inside, .ref a_this_partOf, .ref a_this_sizeOf, .ref a_this_firstOf, .int s_width, .int s_height, .int s_parts, .int s_count, .ref a_this_queue]))] r_v A) args s 0 0 A) 28 [(a_this, .inr (7, [.ref a_this_inside, .ref a_this_partOf, .ref a_this_sizeOf, .ref a_this_firstOf, .int s_width, .int s_height, .int s_parts, .int s_count, .ref a_this_queue]))] [] [] := by
  intro H locs ls hP hD hS hl
  obtain ⟨hx, hb, hr, hml, hown, hts, hlocks, hA, hK, hZ⟩ := id C0
  unfold m_Shape_has_b28 at h
  refine lv_iconst (v := (0 : Int32)) hx hb d_Shape_has_28 (by decide) ?_
  exact w_Shape_has_b29 C0 (0 : Int32) s_height s_width h _ _ _ hP hD hS hl
def m_Shape_has (fu : Nat) (x1 : Int32) (x2 : Int32) (s_height : Int32) (s_width : Int32) : Option (Int32) :=
  if x1 < (0 : Int32) then (m_Shape_has_b28 fu s_height s_width) else (if s_width ≤ x1 then (m_Shape_has_b28 fu s_height s_width) else (if x2 < (0 : Int32) then (m_Shape_has_b28 fu s_height s_width) else (if s_height ≤ x2 then (m_Shape_has_b28 fu s_height s_width) else (m_Shape_has_b29 fu (1 : Int32) s_height s_width))))
set_option maxHeartbeats 4000000 in
set_option maxRecDepth 100000 in
theorem c_Shape_has {l : Launch} {D : va_G} {ar : Nat → ClassId} {fu : Nat} (a_this a_this_inside a_this_partOf a_this_sizeOf a_this_firstOf a_this_queue : Nat) (s_parts : Int32) (s_count : Int32) (x1 : Int32) (x2 : Int32) (s_height : Int32) (s_width : Int32) {r_v : Int32} (h : m_Shape_has fu x1 x2 s_height s_width = some r_v) : StdI l y_Shape_has ws_Shape_has rm_Shape_has D ar [.ref a_this, .int x1, .int x2] [(a_this, .inr (7, [.ref a_this_inside, .ref a_this_partOf, .ref a_this_sizeOf, .ref a_this_firstOf, .int s_width, .int s_height, .int s_parts, .int s_count, .ref a_this_queue]))] [(a_this, .inr (7, [.ref a_this_inside, .ref a_this_partOf, .ref a_this_sizeOf, .ref a_this_firstOf, .int s_width, .int s_height, .int s_parts, .int s_count, .ref a_this_queue]))] r_v := by
  refine sd_metI (cc := prog_8_method_3_code) (maxL := 3) (ret := (some .boolean)) (own := "FreeWavelets$Shape") (by decide) rfl rfl (Nat.le_of_ble_eq_true rfl) ?_
  intro p e s m below meth c A ls C0 hP hD hl
  obtain ⟨hx, hb, hr, hml, hown, hts, hlocks, hA, hK, hZ⟩ := id C0
  have hS : va_S A s.heap s.heap [] := va_S.rf
  have hl : lv_has ls 3 [(0, .ref a_this), (1, .int x1), (2, .int x2)] := hl
  unfold m_Shape_has at h
  refine lv_iload_n hx hb d_Shape_has_0 rfl (lv_at hl 1 rfl) ?_
  refine lv_if_lt (tgt := 28) hx hb d_Shape_has_1 (by decide) (fun c_1 => ?_) (fun c_1 => ?_)
  · have h := Eq.trans (if_pos c_1).symm h
    exact w_Shape_has_b28 C0 s_height s_width h _ _ _ hP hD hS (lv_sub hl [] rfl)
  · have h := Eq.trans (if_neg c_1).symm h
    refine lv_iload_n hx hb d_Shape_has_4 rfl (lv_at hl 1 rfl) ?_
    refine lv_aload_n hx hb d_Shape_has_5 rfl (lv_at hl 0 rfl) ?_
    refine va_get (D := D) (ci := 7) (v := .int s_width) (C := R_Shape) (T := F_Shape) (N := 9) hx hb hts in_Shape hown hK hP 0 rfl rfl 4 (by decide) (hts _ k_81) (fun _ h9 => h9) rfl d_Shape_has_6 ?_
    refine lv_icmp_ge (tgt := 28) hx hb d_Shape_has_9 (by decide) (fun c_3 => ?_) (fun c_3 => ?_)
    · have h := Eq.trans (if_pos c_3).symm h
      exact w_Shape_has_b28 C0 s_height s_width h _ _ _ hP hD hS (lv_sub hl [] rfl)
    · have h := Eq.trans (if_neg c_3).symm h
      refine lv_iload_n hx hb d_Shape_has_12 rfl (lv_at hl 2 rfl) ?_
      refine lv_if_lt (tgt := 28) hx hb d_Shape_has_13 (by decide) (fun c_4 => ?_) (fun c_4 => ?_)
      · have h := Eq.trans (if_pos c_4).symm h
        exact w_Shape_has_b28 C0 s_height s_width h _ _ _ hP hD hS (lv_sub hl [] rfl)
      · have h := Eq.trans (if_neg c_4).symm h
        refine lv_iload_n hx hb d_Shape_has_16 rfl (lv_at hl 2 rfl) ?_
        refine lv_aload_n hx hb d_Shape_has_17 rfl (lv_at hl 0 rfl) ?_
        refine va_get (D := D) (ci := 7) (v := .int s_height) (C := R_Shape) (T := F_Shape) (N := 9) hx hb hts in_Shape hown hK hP 0 rfl rfl 5 (by decide) (hts _ k_86) (fun _ h9 => h9) rfl d_Shape_has_18 ?_
        refine lv_icmp_ge (tgt := 28) hx hb d_Shape_has_21 (by decide) (fun c_5 => ?_) (fun c_5 => ?_)
        · have h := Eq.trans (if_pos c_5).symm h
          exact w_Shape_has_b28 C0 s_height s_width h _ _ _ hP hD hS (lv_sub hl [] rfl)
        · have h := Eq.trans (if_neg c_5).symm h
          refine lv_iconst (v := (1 : Int32)) hx hb d_Shape_has_24 (by decide) ?_
          refine lv_goto (tgt := 29) hx hb d_Shape_has_25 (by decide) ?_
          exact w_Shape_has_b29 C0 (1 : Int32) s_height s_width h _ _ _ hP hD hS (lv_sub hl [] rfl)
abbrev rm_Shape_spread : Room := { frames := 1, cells := 0, slots := 0, locals := 22 }
def m_Shape_spread_b152 (fu : Nat) (rec : Int32 → Int32 → (Nat → Int32) → (Nat → Int32) → Option ((Int32 × (Nat → Int32) × (Nat → Int32)))) (x1 : Int32) (x3 : Int32) (t0 : Int32) (s_count : Int32) (s_height : Int32) (s_parts : Int32) (s_width : Int32) (s_firstOf : Nat → Int32) (s_inside : Nat → Int32) (s_partOf : Nat → Int32) (s_queue : Nat → Int32) (s_sizeOf : Nat → Int32) : Option ((Int32 × (Nat → Int32) × (Nat → Int32))) :=
  letB (x3 + (1 : Int32)) (fun x3_18 => rec t0 x3_18 s_partOf s_queue)
set_option maxHeartbeats 4000000 in
set_option maxRecDepth 100000 in
theorem w_Shape_spread_b152 {p : Program} {l : Launch} {e : Env} {s : State} {m : MethodId} {args : Array Value} {below : List Frame} {meth : Method} {c : Code} {D : va_G} {ar : Nat → ClassId} {A : Nat → Prop} {Q : State → Prop} {fu : Nat} {a_this a_this_inside a_this_partOf a_this_sizeOf a_this_firstOf a_this_queue : Nat} {o_x2 : Int32} {o_partOf : Nat → Int32} {o_queue : Nat → Int32} (C0 : CX p s m meth c args prog_8_method_6_code 7 none "FreeWavelets$Shape" D ar A) (x1 : Int32) (x3 : Int32) (t0 : Int32) (s_count : Int32) (s_height : Int32) (s_parts : Int32) (s_width : Int32) (s_firstOf : Nat → Int32) (s_inside : Nat → Int32) (s_partOf : Nat → Int32) (s_queue : Nat → Int32) (s_sizeOf : Nat → Int32) (rec : Int32 → Int32 → (Nat → Int32) → (Nat → Int32) → Option ((Int32 × (Nat → Int32) × (Nat → Int32)))) (hrec : ∀ (x2 : Int32) (x3 : Int32) (s_partOf : Nat → Int32) (s_queue : Nat → Int32), rec x2 x3 s_partOf s_queue = some (o_x2, o_partOf, o_queue) → WA p l e rm_Shape_spread s m args below meth c D A 7 Q 9 [(a_this, .inr (7, [.ref a_this_inside, .ref a_this_partOf, .ref a_this_sizeOf, .ref a_this_firstOf, .int s_width, .int s_height, .int s_parts, .int s_count, .ref a_this_queue])), (a_this_firstOf, .inl (ar 0, 256, .inl s_firstOf)), (a_this_inside, .inl (ar 1, 256, .inl s_inside)), (a_this_partOf, .inl (ar 0, 256, .inl s_partOf)), (a_this_queue, .inl (ar 0, 256, .inl s_queue)), (a_this_sizeOf, .inl (ar 0, 256, .inl s_sizeOf))] [(0, .ref a_this), (1, .int x1), (2, .int x2), (3, .int x3)] []) (K1 : WA p l e rm_Shape_spread s m args below meth c D A 7 Q 159 [(a_this, .inr (7, [.ref a_this_inside, .ref a_this_partOf, .ref a_this_sizeOf, .ref a_this_firstOf, .int s_width, .int s_height, .int s_parts, .int s_count, .ref a_this_queue])), (a_this_firstOf, .inl (ar 0, 256, .inl s_firstOf)), (a_this_inside, .inl (ar 1, 256, .inl s_inside)), (a_this_partOf, .inl (ar 0, 256, .inl o_partOf)), (a_this_queue, .inl (ar 0, 256, .inl o_queue)), (a_this_sizeOf, .inl (ar 0, 256, .inl s_sizeOf))] [(0, .ref a_this), (1, .int x1), (2, .int o_x2)] []) (h : m_Shape_spread_b152 fu rec x1 x3 t0 s_count s_height s_parts s_width s_firstOf s_inside s_partOf s_queue s_sizeOf = some (o_x2, o_partOf, o_queue)) : WA p l e rm_Shape_spread s m args below meth c D A 7 Q 152 [(a_this, .inr (7, [.ref a_this_inside, .ref a_this_partOf, .ref a_this_sizeOf, .ref a_this_firstOf, .int s_width, .int s_height, .int s_parts, .int s_count, .ref a_this_queue])), (a_this_firstOf, .inl (ar 0, 256, .inl s_firstOf)), (a_this_inside, .inl (ar 1, 256, .inl s_inside)), (a_this_partOf, .inl (ar 0, 256, .inl s_partOf)), (a_this_queue, .inl (ar 0, 256, .inl s_queue)), (a_this_sizeOf, .inl (ar 0, 256, .inl s_sizeOf))] [(0, .ref a_this), (1, .int x1), (3, .int x3)] [.int t0] := by
  intro H locs ls hP hD hS hl
  obtain ⟨hx, hb, hr, hml, hown, hts, hlocks, hA, hK, hZ⟩ := id C0
  unfold m_Shape_spread_b152 at h
  refine lv_istore_n (lv' := [(2, .int t0), (0, .ref a_this), (1, .int x1), (3, .int x3)]) hx hb d_Shape_spread_152 rfl hl (by decide) rfl (fun ls hl => ?_)
  obtain ⟨x3_18, e_x3_18⟩ : ∃ y : Int32, y = x3 + (1 : Int32) := ⟨_, rfl⟩
  have h := letB_at e_x3_18 h
  refine lv_iinc (v := x3_18) (lv' := [(3, .int x3_18), (2, .int t0), (0, .ref a_this), (1, .int x1)]) hx hb d_Shape_spread_153 hl (k := 3) rfl (by rw [e_x3_18]; rfl) (by decide) rfl (fun ls hl => ?_)
  refine lv_goto (tgt := 9) hx hb d_Shape_spread_156 (by decide) ?_
  exact hrec t0 x3_18 s_partOf s_queue h _ _ _ hP hD hS (lv_sub hl [2, 3, 1, 0] rfl)
def m_Shape_spread_b124 (fu : Nat) (rec : Int32 → Int32 → (Nat → Int32) → (Nat → Int32) → Option ((Int32 × (Nat → Int32) × (Nat → Int32)))) (x1 : Int32) (x3 : Int32) (x4 : Int32) (x5 : Int32) (x6 : Int32) (t0 : Int32) (s_count : Int32) (s_height : Int32) (s_parts : Int32) (s_width : Int32) (s_firstOf : Nat → Int32) (s_inside : Nat → Int32) (s_partOf : Nat → Int32) (s_queue : Nat → Int32) (s_sizeOf : Nat → Int32) : Option ((Int32 × (Nat → Int32) × (Nat → Int32))) :=
  bn1 (m_Shape_has fu x5 (x6 + (1 : Int32)) s_height s_width) (fun r_16 => if r_16 = (0 : Int32) then (m_Shape_spread_b152 fu rec x1 x3 t0 s_count s_height s_parts s_width s_firstOf s_inside s_partOf s_queue s_sizeOf) else (bn3 (m_Shape_join fu (x4 + (16 : Int32)) t0 s_parts s_inside s_partOf s_queue) (fun r_19 s_partOf_20 s_queue_21 => m_Shape_spread_b152 fu rec x1 x3 r_19 s_count s_height s_parts s_width s_firstOf s_inside s_partOf_20 s_queue_21 s_sizeOf)))
set_option maxHeartbeats 4000000 in
set_option maxRecDepth 100000 in
theorem w_Shape_spread_b124 {p : Program} {l : Launch} {e : Env} {s : State} {m : MethodId} {args : Array Value} {below : List Frame} {meth : Method} {c : Code} {D : va_G} {ar : Nat → ClassId} {A : Nat → Prop} {Q : State → Prop} {fu : Nat} {a_this a_this_inside a_this_partOf a_this_sizeOf a_this_firstOf a_this_queue : Nat} {o_x2 : Int32} {o_partOf : Nat → Int32} {o_queue : Nat → Int32} (C0 : CX p s m meth c args prog_8_method_6_code 7 none "FreeWavelets$Shape" D ar A) (x1 : Int32) (x3 : Int32) (x4 : Int32) (x5 : Int32) (x6 : Int32) (t0 : Int32) (s_count : Int32) (s_height : Int32) (s_parts : Int32) (s_width : Int32) (s_firstOf : Nat → Int32) (s_inside : Nat → Int32) (s_partOf : Nat → Int32) (s_queue : Nat → Int32) (s_sizeOf : Nat → Int32) (rec : Int32 → Int32 → (Nat → Int32) → (Nat → Int32) → Option ((Int32 × (Nat → Int32) × (Nat → Int32)))) (hrec : ∀ (x2 : Int32) (x3 : Int32) (s_partOf : Nat → Int32) (s_queue : Nat → Int32), rec x2 x3 s_partOf s_queue = some (o_x2, o_partOf, o_queue) → WA p l e rm_Shape_spread s m args below meth c D A 7 Q 9 [(a_this, .inr (7, [.ref a_this_inside, .ref a_this_partOf, .ref a_this_sizeOf, .ref a_this_firstOf, .int s_width, .int s_height, .int s_parts, .int s_count, .ref a_this_queue])), (a_this_firstOf, .inl (ar 0, 256, .inl s_firstOf)), (a_this_inside, .inl (ar 1, 256, .inl s_inside)), (a_this_partOf, .inl (ar 0, 256, .inl s_partOf)), (a_this_queue, .inl (ar 0, 256, .inl s_queue)), (a_this_sizeOf, .inl (ar 0, 256, .inl s_sizeOf))] [(0, .ref a_this), (1, .int x1), (2, .int x2), (3, .int x3)] []) (K1 : WA p l e rm_Shape_spread s m args below meth c D A 7 Q 159 [(a_this, .inr (7, [.ref a_this_inside, .ref a_this_partOf, .ref a_this_sizeOf, .ref a_this_firstOf, .int s_width, .int s_height, .int s_parts, .int s_count, .ref a_this_queue])), (a_this_firstOf, .inl (ar 0, 256, .inl s_firstOf)), (a_this_inside, .inl (ar 1, 256, .inl s_inside)), (a_this_partOf, .inl (ar 0, 256, .inl o_partOf)), (a_this_queue, .inl (ar 0, 256, .inl o_queue)), (a_this_sizeOf, .inl (ar 0, 256, .inl s_sizeOf))] [(0, .ref a_this), (1, .int x1), (2, .int o_x2)] []) (h : m_Shape_spread_b124 fu rec x1 x3 x4 x5 x6 t0 s_count s_height s_parts s_width s_firstOf s_inside s_partOf s_queue s_sizeOf = some (o_x2, o_partOf, o_queue)) : WA p l e rm_Shape_spread s m args below meth c D A 7 Q 124 [(a_this, .inr (7, [.ref a_this_inside, .ref a_this_partOf, .ref a_this_sizeOf, .ref a_this_firstOf, .int s_width, .int s_height, .int s_parts, .int s_count, .ref a_this_queue])), (a_this_firstOf, .inl (ar 0, 256, .inl s_firstOf)), (a_this_inside, .inl (ar 1, 256, .inl s_inside)), (a_this_partOf, .inl (ar 0, 256, .inl s_partOf)), (a_this_queue, .inl (ar 0, 256, .inl s_queue)), (a_this_sizeOf, .inl (ar 0, 256, .inl s_sizeOf))] [(0, .ref a_this), (1, .int x1), (3, .int x3), (4, .int x4), (5, .int x5), (6, .int x6)] [.int t0] := by
  intro H locs ls hP hD hS hl
  obtain ⟨hx, hb, hr, hml, hown, hts, hlocks, hA, hK, hZ⟩ := id C0
  unfold m_Shape_spread_b124 at h
  refine lv_istore_n (lv' := [(2, .int t0), (0, .ref a_this), (1, .int x1), (3, .int x3), (4, .int x4), (5, .int x5), (6, .int x6)]) hx hb d_Shape_spread_124 rfl hl (by decide) rfl (fun ls hl => ?_)
  refine lv_aload_n hx hb d_Shape_spread_125 rfl (lv_at hl 1 rfl) ?_
  refine lv_iload hx hb d_Shape_spread_126 (lv_at hl 5 rfl) ?_
  refine lv_iload hx hb d_Shape_spread_128 (lv_at hl 6 rfl) ?_
  refine lv_iconst (v := (1 : Int32)) hx hb d_Shape_spread_130 (by decide) ?_
  refine lv_iadd hx hb d_Shape_spread_131 ?_
  obtain ⟨r_16, hcall, h⟩ := bn1_some h
  refine sd_i (wr := [(a_this_firstOf, .inl (ar 0, 256, .inl s_firstOf)), (a_this_inside, .inl (ar 1, 256, .inl s_inside)), (a_this_partOf, .inl (ar 0, 256, .inl s_partOf)), (a_this_queue, .inl (ar 0, 256, .inl s_queue)), (a_this_sizeOf, .inl (ar 0, 256, .inl s_sizeOf))]) (va_runV (As := [.int x5, .int (x6 + (1 : Int32))]) (rest := []) ⟨hx, hb, hml, hown, hts⟩ (c_Shape_has a_this a_this_inside a_this_partOf a_this_sizeOf a_this_firstOf a_this_queue s_parts s_count x5 (x6 + (1 : Int32)) s_height s_width hcall _) (cw_V 2 hts k_292 k_293 k_294 k_31 k_295 rfl rfl (by decide +kernel) ⟨Nat.le_of_ble_eq_true rfl, Nat.le_of_ble_eq_true rfl⟩) (sd_preV hK hP hD hS hA hZ [0] (by decide) rfl (va_recv hK hP (ci := 7) (q0 := 0) rfl rfl)) rfl rfl hl.1 rfl (lv_room (Nat.le_of_ble_eq_true rfl)) d_Shape_spread_132 ⟨Nat.le_of_ble_eq_true rfl, Nat.le_of_ble_eq_true rfl⟩) hP hD hS hA [0] [1, 2, 3, 4, 5] rfl rfl (by decide) (by decide) (fun H locs hP hD hS => ?_)
  have hP : va_P D vwCl [(a_this_firstOf, .inl (ar 0, 256, .inl s_firstOf)), (a_this_inside, .inl (ar 1, 256, .inl s_inside)), (a_this_partOf, .inl (ar 0, 256, .inl s_partOf)), (a_this_queue, .inl (ar 0, 256, .inl s_queue)), (a_this_sizeOf, .inl (ar 0, 256, .inl s_sizeOf)), (a_this, .inr (7, [.ref a_this_inside, .ref a_this_partOf, .ref a_this_sizeOf, .ref a_this_firstOf, .int s_width, .int s_height, .int s_parts, .int s_count, .ref a_this_queue]))] H := hP
  have hD : va_D A [(a_this_firstOf, .inl (ar 0, 256, .inl s_firstOf)), (a_this_inside, .inl (ar 1, 256, .inl s_inside)), (a_this_partOf, .inl (ar 0, 256, .inl s_partOf)), (a_this_queue, .inl (ar 0, 256, .inl s_queue)), (a_this_sizeOf, .inl (ar 0, 256, .inl s_sizeOf)), (a_this, .inr (7, [.ref a_this_inside, .ref a_this_partOf, .ref a_this_sizeOf, .ref a_this_firstOf, .int s_width, .int s_height, .int s_parts, .int s_count, .ref a_this_queue]))] := hD
  refine lv_if_eq (tgt := 151) hx hb d_Shape_spread_135 (by decide) (fun c_17 => ?_) (fun c_17 => ?_)
  · have h := Eq.trans (if_pos c_17).symm h
    refine lv_iload_n hx hb d_Shape_spread_151 rfl (lv_at hl 0 rfl) ?_
    exact w_Shape_spread_b152 C0 x1 x3 t0 s_count s_height s_parts s_width s_firstOf s_inside s_partOf s_queue s_sizeOf _ hrec K1 h _ _ _ (hP.sub [5, 0, 1, 2, 3, 4] rfl) (hD.sub [5, 0, 1, 2, 3, 4] (by decide) rfl) hS (lv_sub hl [1, 2, 3] rfl)
  · have h := Eq.trans (if_neg c_17).symm h
    refine lv_aload_n hx hb d_Shape_spread_138 rfl (lv_at hl 1 rfl) ?_
    refine lv_iload hx hb d_Shape_spread_139 (lv_at hl 4 rfl) ?_
    refine lv_bipush (v := (16 : Int32)) hx hb d_Shape_spread_141 (by decide) ?_
    refine lv_iadd hx hb d_Shape_spread_143 ?_
    refine lv_iload_n hx hb d_Shape_spread_144 rfl (lv_at hl 0 rfl) ?_
    obtain ⟨r_19, s_partOf_20, s_queue_21, hcall, h⟩ := bn3_some h
    refine sd_i (wr := [(a_this_firstOf, .inl (ar 0, 256, .inl s_firstOf)), (a_this_sizeOf, .inl (ar 0, 256, .inl s_sizeOf))]) (va_runV (As := [.int (x4 + (16 : Int32)), .int t0]) (rest := []) ⟨hx, hb, hml, hown, hts⟩ (c_Shape_join a_this a_this_inside a_this_partOf a_this_sizeOf a_this_firstOf a_this_queue s_width s_height s_count (x4 + (16 : Int32)) t0 s_parts s_inside s_partOf s_queue hcall _) (cw_V 2 hts k_282 k_284 k_1 k_31 k_285 rfl rfl (by decide +kernel) ⟨Nat.le_of_ble_eq_true rfl, Nat.le_of_ble_eq_true rfl⟩) (sd_preV hK hP hD hS hA hZ [5, 1, 2, 3] (by decide) rfl (va_recv hK hP (ci := 7) (q0 := 5) rfl rfl)) rfl rfl hl.1 rfl (lv_room (Nat.le_of_ble_eq_true rfl)) d_Shape_spread_145 ⟨Nat.le_of_ble_eq_true rfl, Nat.le_of_ble_eq_true rfl⟩) hP hD hS hA [5, 1, 2, 3] [0, 4] rfl rfl (by decide) (by decide) (fun H locs hP hD hS => ?_)
    have hP : va_P D vwCl [(a_this_firstOf, .inl (ar 0, 256, .inl s_firstOf)), (a_this_sizeOf, .inl (ar 0, 256, .inl s_sizeOf)), (a_this, .inr (7, [.ref a_this_inside, .ref a_this_partOf, .ref a_this_sizeOf, .ref a_this_firstOf, .int s_width, .int s_height, .int s_parts, .int s_count, .ref a_this_queue])), (a_this_inside, .inl (ar 1, 256, .inl s_inside)), (a_this_partOf, .inl (ar 0, 256, .inl s_partOf_20)), (a_this_queue, .inl (ar 0, 256, .inl s_queue_21))] H := hP
    have hD : va_D A [(a_this_firstOf, .inl (ar 0, 256, .inl s_firstOf)), (a_this_sizeOf, .inl (ar 0, 256, .inl s_sizeOf)), (a_this, .inr (7, [.ref a_this_inside, .ref a_this_partOf, .ref a_this_sizeOf, .ref a_this_firstOf, .int s_width, .int s_height, .int s_parts, .int s_count, .ref a_this_queue])), (a_this_inside, .inl (ar 1, 256, .inl s_inside)), (a_this_partOf, .inl (ar 0, 256, .inl s_partOf_20)), (a_this_queue, .inl (ar 0, 256, .inl s_queue_21))] := hD
    refine lv_goto (tgt := 152) hx hb d_Shape_spread_148 (by decide) ?_
    exact w_Shape_spread_b152 C0 x1 x3 r_19 s_count s_height s_parts s_width s_firstOf s_inside s_partOf_20 s_queue_21 s_sizeOf _ hrec K1 h _ _ _ (hP.sub [2, 0, 3, 4, 5, 1] rfl) (hD.sub [2, 0, 3, 4, 5, 1] (by decide) rfl) hS (lv_sub hl [1, 2, 3] rfl)
def m_Shape_spread_b96 (fu : Nat) (rec : Int32 → Int32 → (Nat → Int32) → (Nat → Int32) → Option ((Int32 × (Nat → Int32) × (Nat → Int32)))) (x1 : Int32) (x3 : Int32) (x4 : Int32) (x5 : Int32) (x6 : Int32) (t0 : Int32) (s_count : Int32) (s_height : Int32) (s_parts : Int32) (s_width : Int32) (s_firstOf : Nat → Int32) (s_inside : Nat → Int32) (s_partOf : Nat → Int32) (s_queue : Nat → Int32) (s_sizeOf : Nat → Int32) : Option ((Int32 × (Nat → Int32) × (Nat → Int32))) :=
  bn1 (m_Shape_has fu x5 (x6 - (1 : Int32)) s_height s_width) (fun r_14 => if r_14 = (0 : Int32) then (m_Shape_spread_b124 fu rec x1 x3 x4 x5 x6 t0 s_count s_height s_parts s_width s_firstOf s_inside s_partOf s_queue s_sizeOf) else (bn3 (m_Shape_join fu (x4 - (16 : Int32)) t0 s_parts s_inside s_partOf s_queue) (fun r_22 s_partOf_23 s_queue_24 => m_Shape_spread_b124 fu rec x1 x3 x4 x5 x6 r_22 s_count s_height s_parts s_width s_firstOf s_inside s_partOf_23 s_queue_24 s_sizeOf)))
set_option maxHeartbeats 4000000 in
set_option maxRecDepth 100000 in
theorem w_Shape_spread_b96 {p : Program} {l : Launch} {e : Env} {s : State} {m : MethodId} {args : Array Value} {below : List Frame} {meth : Method} {c : Code} {D : va_G} {ar : Nat → ClassId} {A : Nat → Prop} {Q : State → Prop} {fu : Nat} {a_this a_this_inside a_this_partOf a_this_sizeOf a_this_firstOf a_this_queue : Nat} {o_x2 : Int32} {o_partOf : Nat → Int32} {o_queue : Nat → Int32} (C0 : CX p s m meth c args prog_8_method_6_code 7 none "FreeWavelets$Shape" D ar A) (x1 : Int32) (x3 : Int32) (x4 : Int32) (x5 : Int32) (x6 : Int32) (t0 : Int32) (s_count : Int32) (s_height : Int32) (s_parts : Int32) (s_width : Int32) (s_firstOf : Nat → Int32) (s_inside : Nat → Int32) (s_partOf : Nat → Int32) (s_queue : Nat → Int32) (s_sizeOf : Nat → Int32) (rec : Int32 → Int32 → (Nat → Int32) → (Nat → Int32) → Option ((Int32 × (Nat → Int32) × (Nat → Int32)))) (hrec : ∀ (x2 : Int32) (x3 : Int32) (s_partOf : Nat → Int32) (s_queue : Nat → Int32), rec x2 x3 s_partOf s_queue = some (o_x2, o_partOf, o_queue) → WA p l e rm_Shape_spread s m args below meth c D A 7 Q 9 [(a_this, .inr (7, [.ref a_this_inside, .ref a_this_partOf, .ref a_this_sizeOf, .ref a_this_firstOf, .int s_width, .int s_height, .int s_parts, .int s_count, .ref a_this_queue])), (a_this_firstOf, .inl (ar 0, 256, .inl s_firstOf)), (a_this_inside, .inl (ar 1, 256, .inl s_inside)), (a_this_partOf, .inl (ar 0, 256, .inl s_partOf)), (a_this_queue, .inl (ar 0, 256, .inl s_queue)), (a_this_sizeOf, .inl (ar 0, 256, .inl s_sizeOf))] [(0, .ref a_this), (1, .int x1), (2, .int x2), (3, .int x3)] []) (K1 : WA p l e rm_Shape_spread s m args below meth c D A 7 Q 159 [(a_this, .inr (7, [.ref a_this_inside, .ref a_this_partOf, .ref a_this_sizeOf, .ref a_this_firstOf, .int s_width, .int s_height, .int s_parts, .int s_count, .ref a_this_queue])), (a_this_firstOf, .inl (ar 0, 256, .inl s_firstOf)), (a_this_inside, .inl (ar 1, 256, .inl s_inside)), (a_this_partOf, .inl (ar 0, 256, .inl o_partOf)), (a_this_queue, .inl (ar 0, 256, .inl o_queue)), (a_this_sizeOf, .inl (ar 0, 256, .inl s_sizeOf))] [(0, .ref a_this), (1, .int x1), (2, .int o_x2)] []) (h : m_Shape_spread_b96 fu rec x1 x3 x4 x5 x6 t0 s_count s_height s_parts s_width s_firstOf s_inside s_partOf s_queue s_sizeOf = some (o_x2, o_partOf, o_queue)) : WA p l e rm_Shape_spread s m args below meth c D A 7 Q 96 [(a_this, .inr (7, [.ref a_this_inside, .ref a_this_partOf, .ref a_this_sizeOf, .ref a_this_firstOf, .int s_width, .int s_height, .int s_parts, .int s_count, .ref a_this_queue])), (a_this_firstOf, .inl (ar 0, 256, .inl s_firstOf)), (a_this_inside, .inl (ar 1, 256, .inl s_inside)), (a_this_partOf, .inl (ar 0, 256, .inl s_partOf)), (a_this_queue, .inl (ar 0, 256, .inl s_queue)), (a_this_sizeOf, .inl (ar 0, 256, .inl s_sizeOf))] [(0, .ref a_this), (1, .int x1), (3, .int x3), (4, .int x4), (5, .int x5), (6, .int x6)] [.int t0] := by
  intro H locs ls hP hD hS hl
  obtain ⟨hx, hb, hr, hml, hown, hts, hlocks, hA, hK, hZ⟩ := id C0
  unfold m_Shape_spread_b96 at h
  refine lv_istore_n (lv' := [(2, .int t0), (0, .ref a_this), (1, .int x1), (3, .int x3), (4, .int x4), (5, .int x5), (6, .int x6)]) hx hb d_Shape_spread_96 rfl hl (by decide) rfl (fun ls hl => ?_)
  refine lv_aload_n hx hb d_Shape_spread_97 rfl (lv_at hl 1 rfl) ?_
  refine lv_iload hx hb d_Shape_spread_98 (lv_at hl 5 rfl) ?_
  refine lv_iload hx hb d_Shape_spread_100 (lv_at hl 6 rfl) ?_
  refine lv_iconst (v := (1 : Int32)) hx hb d_Shape_spread_102 (by decide) ?_
  refine lv_isub hx hb d_Shape_spread_103 ?_
  obtain ⟨r_14, hcall, h⟩ := bn1_some h
  refine sd_i (wr := [(a_this_firstOf, .inl (ar 0, 256, .inl s_firstOf)), (a_this_inside, .inl (ar 1, 256, .inl s_inside)), (a_this_partOf, .inl (ar 0, 256, .inl s_partOf)), (a_this_queue, .inl (ar 0, 256, .inl s_queue)), (a_this_sizeOf, .inl (ar 0, 256, .inl s_sizeOf))]) (va_runV (As := [.int x5, .int (x6 - (1 : Int32))]) (rest := []) ⟨hx, hb, hml, hown, hts⟩ (c_Shape_has a_this a_this_inside a_this_partOf a_this_sizeOf a_this_firstOf a_this_queue s_parts s_count x5 (x6 - (1 : Int32)) s_height s_width hcall _) (cw_V 2 hts k_292 k_293 k_294 k_31 k_295 rfl rfl (by decide +kernel) ⟨Nat.le_of_ble_eq_true rfl, Nat.le_of_ble_eq_true rfl⟩) (sd_preV hK hP hD hS hA hZ [0] (by decide) rfl (va_recv hK hP (ci := 7) (q0 := 0) rfl rfl)) rfl rfl hl.1 rfl (lv_room (Nat.le_of_ble_eq_true rfl)) d_Shape_spread_104 ⟨Nat.le_of_ble_eq_true rfl, Nat.le_of_ble_eq_true rfl⟩) hP hD hS hA [0] [1, 2, 3, 4, 5] rfl rfl (by decide) (by decide) (fun H locs hP hD hS => ?_)
  have hP : va_P D vwCl [(a_this_firstOf, .inl (ar 0, 256, .inl s_firstOf)), (a_this_inside, .inl (ar 1, 256, .inl s_inside)), (a_this_partOf, .inl (ar 0, 256, .inl s_partOf)), (a_this_queue, .inl (ar 0, 256, .inl s_queue)), (a_this_sizeOf, .inl (ar 0, 256, .inl s_sizeOf)), (a_this, .inr (7, [.ref a_this_inside, .ref a_this_partOf, .ref a_this_sizeOf, .ref a_this_firstOf, .int s_width, .int s_height, .int s_parts, .int s_count, .ref a_this_queue]))] H := hP
  have hD : va_D A [(a_this_firstOf, .inl (ar 0, 256, .inl s_firstOf)), (a_this_inside, .inl (ar 1, 256, .inl s_inside)), (a_this_partOf, .inl (ar 0, 256, .inl s_partOf)), (a_this_queue, .inl (ar 0, 256, .inl s_queue)), (a_this_sizeOf, .inl (ar 0, 256, .inl s_sizeOf)), (a_this, .inr (7, [.ref a_this_inside, .ref a_this_partOf, .ref a_this_sizeOf, .ref a_this_firstOf, .int s_width, .int s_height, .int s_parts, .int s_count, .ref a_this_queue]))] := hD
  refine lv_if_eq (tgt := 123) hx hb d_Shape_spread_107 (by decide) (fun c_15 => ?_) (fun c_15 => ?_)
  · have h := Eq.trans (if_pos c_15).symm h
    refine lv_iload_n hx hb d_Shape_spread_123 rfl (lv_at hl 0 rfl) ?_
    exact w_Shape_spread_b124 C0 x1 x3 x4 x5 x6 t0 s_count s_height s_parts s_width s_firstOf s_inside s_partOf s_queue s_sizeOf _ hrec K1 h _ _ _ (hP.sub [5, 0, 1, 2, 3, 4] rfl) (hD.sub [5, 0, 1, 2, 3, 4] (by decide) rfl) hS (lv_sub hl [1, 2, 3, 4, 5, 6] rfl)
  · have h := Eq.trans (if_neg c_15).symm h
    refine lv_aload_n hx hb d_Shape_spread_110 rfl (lv_at hl 1 rfl) ?_
    refine lv_iload hx hb d_Shape_spread_111 (lv_at hl 4 rfl) ?_
    refine lv_bipush (v := (16 : Int32)) hx hb d_Shape_spread_113 (by decide) ?_
    refine lv_isub hx hb d_Shape_spread_115 ?_
    refine lv_iload_n hx hb d_Shape_spread_116 rfl (lv_at hl 0 rfl) ?_
    obtain ⟨r_22, s_partOf_23, s_queue_24, hcall, h⟩ := bn3_some h
    refine sd_i (wr := [(a_this_firstOf, .inl (ar 0, 256, .inl s_firstOf)), (a_this_sizeOf, .inl (ar 0, 256, .inl s_sizeOf))]) (va_runV (As := [.int (x4 - (16 : Int32)), .int t0]) (rest := []) ⟨hx, hb, hml, hown, hts⟩ (c_Shape_join a_this a_this_inside a_this_partOf a_this_sizeOf a_this_firstOf a_this_queue s_width s_height s_count (x4 - (16 : Int32)) t0 s_parts s_inside s_partOf s_queue hcall _) (cw_V 2 hts k_282 k_284 k_1 k_31 k_285 rfl rfl (by decide +kernel) ⟨Nat.le_of_ble_eq_true rfl, Nat.le_of_ble_eq_true rfl⟩) (sd_preV hK hP hD hS hA hZ [5, 1, 2, 3] (by decide) rfl (va_recv hK hP (ci := 7) (q0 := 5) rfl rfl)) rfl rfl hl.1 rfl (lv_room (Nat.le_of_ble_eq_true rfl)) d_Shape_spread_117 ⟨Nat.le_of_ble_eq_true rfl, Nat.le_of_ble_eq_true rfl⟩) hP hD hS hA [5, 1, 2, 3] [0, 4] rfl rfl (by decide) (by decide) (fun H locs hP hD hS => ?_)
    have hP : va_P D vwCl [(a_this_firstOf, .inl (ar 0, 256, .inl s_firstOf)), (a_this_sizeOf, .inl (ar 0, 256, .inl s_sizeOf)), (a_this, .inr (7, [.ref a_this_inside, .ref a_this_partOf, .ref a_this_sizeOf, .ref a_this_firstOf, .int s_width, .int s_height, .int s_parts, .int s_count, .ref a_this_queue])), (a_this_inside, .inl (ar 1, 256, .inl s_inside)), (a_this_partOf, .inl (ar 0, 256, .inl s_partOf_23)), (a_this_queue, .inl (ar 0, 256, .inl s_queue_24))] H := hP
    have hD : va_D A [(a_this_firstOf, .inl (ar 0, 256, .inl s_firstOf)), (a_this_sizeOf, .inl (ar 0, 256, .inl s_sizeOf)), (a_this, .inr (7, [.ref a_this_inside, .ref a_this_partOf, .ref a_this_sizeOf, .ref a_this_firstOf, .int s_width, .int s_height, .int s_parts, .int s_count, .ref a_this_queue])), (a_this_inside, .inl (ar 1, 256, .inl s_inside)), (a_this_partOf, .inl (ar 0, 256, .inl s_partOf_23)), (a_this_queue, .inl (ar 0, 256, .inl s_queue_24))] := hD
    refine lv_goto (tgt := 124) hx hb d_Shape_spread_120 (by decide) ?_
    exact w_Shape_spread_b124 C0 x1 x3 x4 x5 x6 r_22 s_count s_height s_parts s_width s_firstOf s_inside s_partOf_23 s_queue_24 s_sizeOf _ hrec K1 h _ _ _ (hP.sub [2, 0, 3, 4, 5, 1] rfl) (hD.sub [2, 0, 3, 4, 5, 1] (by decide) rfl) hS (lv_sub hl [1, 2, 3, 4, 5, 6] rfl)
def m_Shape_spread_b69 (fu : Nat) (rec : Int32 → Int32 → (Nat → Int32) → (Nat → Int32) → Option ((Int32 × (Nat → Int32) × (Nat → Int32)))) (x1 : Int32) (x3 : Int32) (x4 : Int32) (x5 : Int32) (x6 : Int32) (t0 : Int32) (s_count : Int32) (s_height : Int32) (s_parts : Int32) (s_width : Int32) (s_firstOf : Nat → Int32) (s_inside : Nat → Int32) (s_partOf : Nat → Int32) (s_queue : Nat → Int32) (s_sizeOf : Nat → Int32) : Option ((Int32 × (Nat → Int32) × (Nat → Int32))) :=
  bn1 (m_Shape_has fu (x5 + (1 : Int32)) x6 s_height s_width) (fun r_12 => if r_12 = (0 : Int32) then (m_Shape_spread_b96 fu rec x1 x3 x4 x5 x6 t0 s_count s_height s_parts s_width s_firstOf s_inside s_partOf s_queue s_sizeOf) else (bn3 (m_Shape_join fu (x4 + (1 : Int32)) t0 s_parts s_inside s_partOf s_queue) (fun r_25 s_partOf_26 s_queue_27 => m_Shape_spread_b96 fu rec x1 x3 x4 x5 x6 r_25 s_count s_height s_parts s_width s_firstOf s_inside s_partOf_26 s_queue_27 s_sizeOf)))
set_option maxHeartbeats 4000000 in
set_option maxRecDepth 100000 in
theorem w_Shape_spread_b69 {p : Program} {l : Launch} {e : Env} {s : State} {m : MethodId} {args : Array Value} {below : List Frame} {meth : Method} {c : Code} {D : va_G} {ar : Nat → ClassId} {A : Nat → Prop} {Q : State → Prop} {fu : Nat} {a_this a_this_inside a_this_partOf a_this_sizeOf a_this_firstOf a_this_queue : Nat} {o_x2 : Int32} {o_partOf : Nat → Int32} {o_queue : Nat → Int32} (C0 : CX p s m meth c args prog_8_method_6_code 7 none "FreeWavelets$Shape" D ar A) (x1 : Int32) (x3 : Int32) (x4 : Int32) (x5 : Int32) (x6 : Int32) (t0 : Int32) (s_count : Int32) (s_height : Int32) (s_parts : Int32) (s_width : Int32) (s_firstOf : Nat → Int32) (s_inside : Nat → Int32) (s_partOf : Nat → Int32) (s_queue : Nat → Int32) (s_sizeOf : Nat → Int32) (rec : Int32 → Int32 → (Nat → Int32) → (Nat → Int32) → Option ((Int32 × (Nat → Int32) × (Nat → Int32)))) (hrec : ∀ (x2 : Int32) (x3 : Int32) (s_partOf : Nat → Int32) (s_queue : Nat → Int32), rec x2 x3 s_partOf s_queue = some (o_x2, o_partOf, o_queue) → WA p l e rm_Shape_spread s m args below meth c D A 7 Q 9 [(a_this, .inr (7, [.ref a_this_inside, .ref a_this_partOf, .ref a_this_sizeOf, .ref a_this_firstOf, .int s_width, .int s_height, .int s_parts, .int s_count, .ref a_this_queue])), (a_this_firstOf, .inl (ar 0, 256, .inl s_firstOf)), (a_this_inside, .inl (ar 1, 256, .inl s_inside)), (a_this_partOf, .inl (ar 0, 256, .inl s_partOf)), (a_this_queue, .inl (ar 0, 256, .inl s_queue)), (a_this_sizeOf, .inl (ar 0, 256, .inl s_sizeOf))] [(0, .ref a_this), (1, .int x1), (2, .int x2), (3, .int x3)] []) (K1 : WA p l e rm_Shape_spread s m args below meth c D A 7 Q 159 [(a_this, .inr (7, [.ref a_this_inside, .ref a_this_partOf, .ref a_this_sizeOf, .ref a_this_firstOf, .int s_width, .int s_height, .int s_parts, .int s_count, .ref a_this_queue])), (a_this_firstOf, .inl (ar 0, 256, .inl s_firstOf)), (a_this_inside, .inl (ar 1, 256, .inl s_inside)), (a_this_partOf, .inl (ar 0, 256, .inl o_partOf)), (a_this_queue, .inl (ar 0, 256, .inl o_queue)), (a_this_sizeOf, .inl (ar 0, 256, .inl s_sizeOf))] [(0, .ref a_this), (1, .int x1), (2, .int o_x2)] []) (h : m_Shape_spread_b69 fu rec x1 x3 x4 x5 x6 t0 s_count s_height s_parts s_width s_firstOf s_inside s_partOf s_queue s_sizeOf = some (o_x2, o_partOf, o_queue)) : WA p l e rm_Shape_spread s m args below meth c D A 7 Q 69 [(a_this, .inr (7, [.ref a_this_inside, .ref a_this_partOf, .ref a_this_sizeOf, .ref a_this_firstOf, .int s_width, .int s_height, .int s_parts, .int s_count, .ref a_this_queue])), (a_this_firstOf, .inl (ar 0, 256, .inl s_firstOf)), (a_this_inside, .inl (ar 1, 256, .inl s_inside)), (a_this_partOf, .inl (ar 0, 256, .inl s_partOf)), (a_this_queue, .inl (ar 0, 256, .inl s_queue)), (a_this_sizeOf, .inl (ar 0, 256, .inl s_sizeOf))] [(0, .ref a_this), (1, .int x1), (3, .int x3), (4, .int x4), (5, .int x5), (6, .int x6)] [.int t0] := by
  intro H locs ls hP hD hS hl
  obtain ⟨hx, hb, hr, hml, hown, hts, hlocks, hA, hK, hZ⟩ := id C0
  unfold m_Shape_spread_b69 at h
  refine lv_istore_n (lv' := [(2, .int t0), (0, .ref a_this), (1, .int x1), (3, .int x3), (4, .int x4), (5, .int x5), (6, .int x6)]) hx hb d_Shape_spread_69 rfl hl (by decide) rfl (fun ls hl => ?_)
  refine lv_aload_n hx hb d_Shape_spread_70 rfl (lv_at hl 1 rfl) ?_
  refine lv_iload hx hb d_Shape_spread_71 (lv_at hl 5 rfl) ?_
  refine lv_iconst (v := (1 : Int32)) hx hb d_Shape_spread_73 (by decide) ?_
  refine lv_iadd hx hb d_Shape_spread_74 ?_
  refine lv_iload hx hb d_Shape_spread_75 (lv_at hl 6 rfl) ?_
  obtain ⟨r_12, hcall, h⟩ := bn1_some h
  refine sd_i (wr := [(a_this_firstOf, .inl (ar 0, 256, .inl s_firstOf)), (a_this_inside, .inl (ar 1, 256, .inl s_inside)), (a_this_partOf, .inl (ar 0, 256, .inl s_partOf)), (a_this_queue, .inl (ar 0, 256, .inl s_queue)), (a_this_sizeOf, .inl (ar 0, 256, .inl s_sizeOf))]) (va_runV (As := [.int (x5 + (1 : Int32)), .int x6]) (rest := []) ⟨hx, hb, hml, hown, hts⟩ (c_Shape_has a_this a_this_inside a_this_partOf a_this_sizeOf a_this_firstOf a_this_queue s_parts s_count (x5 + (1 : Int32)) x6 s_height s_width hcall _) (cw_V 2 hts k_292 k_293 k_294 k_31 k_295 rfl rfl (by decide +kernel) ⟨Nat.le_of_ble_eq_true rfl, Nat.le_of_ble_eq_true rfl⟩) (sd_preV hK hP hD hS hA hZ [0] (by decide) rfl (va_recv hK hP (ci := 7) (q0 := 0) rfl rfl)) rfl rfl hl.1 rfl (lv_room (Nat.le_of_ble_eq_true rfl)) d_Shape_spread_77 ⟨Nat.le_of_ble_eq_true rfl, Nat.le_of_ble_eq_true rfl⟩) hP hD hS hA [0] [1, 2, 3, 4, 5] rfl rfl (by decide) (by decide) (fun H locs hP hD hS => ?_)
  have hP : va_P D vwCl [(a_this_firstOf, .inl (ar 0, 256, .inl s_firstOf)), (a_this_inside, .inl (ar 1, 256, .inl s_inside)), (a_this_partOf, .inl (ar 0, 256, .inl s_partOf)), (a_this_queue, .inl (ar 0, 256, .inl s_queue)), (a_this_sizeOf, .inl (ar 0, 256, .inl s_sizeOf)), (a_this, .inr (7, [.ref a_this_inside, .ref a_this_partOf, .ref a_this_sizeOf, .ref a_this_firstOf, .int s_width, .int s_height, .int s_parts, .int s_count, .ref a_this_queue]))] H := hP
  have hD : va_D A [(a_this_firstOf, .inl (ar 0, 256, .inl s_firstOf)), (a_this_inside, .inl (ar 1, 256, .inl s_inside)), (a_this_partOf, .inl (ar 0, 256, .inl s_partOf)), (a_this_queue, .inl (ar 0, 256, .inl s_queue)), (a_this_sizeOf, .inl (ar 0, 256, .inl s_sizeOf)), (a_this, .inr (7, [.ref a_this_inside, .ref a_this_partOf, .ref a_this_sizeOf, .ref a_this_firstOf, .int s_width, .int s_height, .int s_parts, .int s_count, .ref a_this_queue]))] := hD
  refine lv_if_eq (tgt := 95) hx hb d_Shape_spread_80 (by decide) (fun c_13 => ?_) (fun c_13 => ?_)
  · have h := Eq.trans (if_pos c_13).symm h
    refine lv_iload_n hx hb d_Shape_spread_95 rfl (lv_at hl 0 rfl) ?_
    exact w_Shape_spread_b96 C0 x1 x3 x4 x5 x6 t0 s_count s_height s_parts s_width s_firstOf s_inside s_partOf s_queue s_sizeOf _ hrec K1 h _ _ _ (hP.sub [5, 0, 1, 2, 3, 4] rfl) (hD.sub [5, 0, 1, 2, 3, 4] (by decide) rfl) hS (lv_sub hl [1, 2, 3, 4, 5, 6] rfl)
  · have h := Eq.trans (if_neg c_13).symm h
    refine lv_aload_n hx hb d_Shape_spread_83 rfl (lv_at hl 1 rfl) ?_
    refine lv_iload hx hb d_Shape_spread_84 (lv_at hl 4 rfl) ?_
    refine lv_iconst (v := (1 : Int32)) hx hb d_Shape_spread_86 (by decide) ?_
    refine lv_iadd hx hb d_Shape_spread_87 ?_
    refine lv_iload_n hx hb d_Shape_spread_88 rfl (lv_at hl 0 rfl) ?_
    obtain ⟨r_25, s_partOf_26, s_queue_27, hcall, h⟩ := bn3_some h
    refine sd_i (wr := [(a_this_firstOf, .inl (ar 0, 256, .inl s_firstOf)), (a_this_sizeOf, .inl (ar 0, 256, .inl s_sizeOf))]) (va_runV (As := [.int (x4 + (1 : Int32)), .int t0]) (rest := []) ⟨hx, hb, hml, hown, hts⟩ (c_Shape_join a_this a_this_inside a_this_partOf a_this_sizeOf a_this_firstOf a_this_queue s_width s_height s_count (x4 + (1 : Int32)) t0 s_parts s_inside s_partOf s_queue hcall _) (cw_V 2 hts k_282 k_284 k_1 k_31 k_285 rfl rfl (by decide +kernel) ⟨Nat.le_of_ble_eq_true rfl, Nat.le_of_ble_eq_true rfl⟩) (sd_preV hK hP hD hS hA hZ [5, 1, 2, 3] (by decide) rfl (va_recv hK hP (ci := 7) (q0 := 5) rfl rfl)) rfl rfl hl.1 rfl (lv_room (Nat.le_of_ble_eq_true rfl)) d_Shape_spread_89 ⟨Nat.le_of_ble_eq_true rfl, Nat.le_of_ble_eq_true rfl⟩) hP hD hS hA [5, 1, 2, 3] [0, 4] rfl rfl (by decide) (by decide) (fun H locs hP hD hS => ?_)
    have hP : va_P D vwCl [(a_this_firstOf, .inl (ar 0, 256, .inl s_firstOf)), (a_this_sizeOf, .inl (ar 0, 256, .inl s_sizeOf)), (a_this, .inr (7, [.ref a_this_inside, .ref a_this_partOf, .ref a_this_sizeOf, .ref a_this_firstOf, .int s_width, .int s_height, .int s_parts, .int s_count, .ref a_this_queue])), (a_this_inside, .inl (ar 1, 256, .inl s_inside)), (a_this_partOf, .inl (ar 0, 256, .inl s_partOf_26)), (a_this_queue, .inl (ar 0, 256, .inl s_queue_27))] H := hP
    have hD : va_D A [(a_this_firstOf, .inl (ar 0, 256, .inl s_firstOf)), (a_this_sizeOf, .inl (ar 0, 256, .inl s_sizeOf)), (a_this, .inr (7, [.ref a_this_inside, .ref a_this_partOf, .ref a_this_sizeOf, .ref a_this_firstOf, .int s_width, .int s_height, .int s_parts, .int s_count, .ref a_this_queue])), (a_this_inside, .inl (ar 1, 256, .inl s_inside)), (a_this_partOf, .inl (ar 0, 256, .inl s_partOf_26)), (a_this_queue, .inl (ar 0, 256, .inl s_queue_27))] := hD
    refine lv_goto (tgt := 96) hx hb d_Shape_spread_92 (by decide) ?_
    exact w_Shape_spread_b96 C0 x1 x3 x4 x5 x6 r_25 s_count s_height s_parts s_width s_firstOf s_inside s_partOf_26 s_queue_27 s_sizeOf _ hrec K1 h _ _ _ (hP.sub [2, 0, 3, 4, 5, 1] rfl) (hD.sub [2, 0, 3, 4, 5, 1] (by decide) rfl) hS (lv_sub hl [1, 2, 3, 4, 5, 6] rfl)
def m_Shape_spread_k9 (fu : Nat) (x1 : Int32) (s_count : Int32) (s_height : Int32) (s_parts : Int32) (s_width : Int32) (s_firstOf : Nat → Int32) (s_inside : Nat → Int32) (s_sizeOf : Nat → Int32) (rec : Int32 → Int32 → (Nat → Int32) → (Nat → Int32) → Option ((Int32 × (Nat → Int32) × (Nat → Int32)))) (x2 : Int32) (x3 : Int32) (s_partOf : Nat → Int32) (s_queue : Nat → Int32) : Option ((Int32 × (Nat → Int32) × (Nat → Int32))) :=
  if x2 ≤ x3 then (some (x2, s_partOf, s_queue)) else (if (256 : Int32) ≤ x3 then (some (x2, s_partOf, s_queue)) else (chk x3 256 (letB (s_queue (x3).toNatClampNeg) (fun x4_7 => bn1 (m_FW_columnOf fu x4_7) (fun r_8 => bn1 (m_FW_rowOf fu x4_7) (fun r_9 => bn1 (m_Shape_has fu (r_8 - (1 : Int32)) r_9 s_height s_width) (fun r_10 => if r_10 = (0 : Int32) then (m_Shape_spread_b69 fu rec x1 x3 x4_7 r_8 r_9 x2 s_count s_height s_parts s_width s_firstOf s_inside s_partOf s_queue s_sizeOf) else (bn3 (m_Shape_join fu (x4_7 - (1 : Int32)) x2 s_parts s_inside s_partOf s_queue) (fun r_28 s_partOf_29 s_queue_30 => m_Shape_spread_b69 fu rec x1 x3 x4_7 r_8 r_9 r_28 s_count s_height s_parts s_width s_firstOf s_inside s_partOf_29 s_queue_30 s_sizeOf)))))))))
set_option maxHeartbeats 4000000 in
set_option maxRecDepth 100000 in
theorem w_Shape_spread_l9 {p : Program} {l : Launch} {e : Env} {s : State} {m : MethodId} {args : Array Value} {below : List Frame} {meth : Method} {c : Code} {D : va_G} {ar : Nat → ClassId} {A : Nat → Prop} {Q : State → Prop} {fu : Nat} {a_this a_this_inside a_this_partOf a_this_sizeOf a_this_firstOf a_this_queue : Nat} (C0 : CX p s m meth c args prog_8_method_6_code 7 none "FreeWavelets$Shape" D ar A) (x1 : Int32) (s_count : Int32) (s_height : Int32) (s_parts : Int32) (s_width : Int32) (s_firstOf : Nat → Int32) (s_inside : Nat → Int32) (s_sizeOf : Nat → Int32) : ∀ (n : Nat) (x2 : Int32) (x3 : Int32) (s_partOf : Nat → Int32) (s_queue : Nat → Int32) (o_x2 : Int32) (o_partOf : Nat → Int32) (o_queue : Nat → Int32), loop4 (m_Shape_spread_k9 fu x1 s_count s_height s_parts s_width s_firstOf s_inside s_sizeOf) n x2 x3 s_partOf s_queue = some (o_x2, o_partOf, o_queue) → (WA p l e rm_Shape_spread s m args below meth c D A 7 Q 159 [(a_this, .inr (7, [.ref a_this_inside, .ref a_this_partOf, .ref a_this_sizeOf, .ref a_this_firstOf, .int s_width, .int s_height, .int s_parts, .int s_count, .ref a_this_queue])), (a_this_firstOf, .inl (ar 0, 256, .inl s_firstOf)), (a_this_inside, .inl (ar 1, 256, .inl s_inside)), (a_this_partOf, .inl (ar 0, 256, .inl o_partOf)), (a_this_queue, .inl (ar 0, 256, .inl o_queue)), (a_this_sizeOf, .inl (ar 0, 256, .inl s_sizeOf))] [(0, .ref a_this), (1, .int x1), (2, .int o_x2)] []) → WA p l e rm_Shape_spread s m args below meth c D A 7 Q 9 [(a_this, .inr (7, [.ref a_this_inside, .ref a_this_partOf, .ref a_this_sizeOf, .ref a_this_firstOf, .int s_width, .int s_height, .int s_parts, .int s_count, .ref a_this_queue])), (a_this_firstOf, .inl (ar 0, 256, .inl s_firstOf)), (a_this_inside, .inl (ar 1, 256, .inl s_inside)), (a_this_partOf, .inl (ar 0, 256, .inl s_partOf)), (a_this_queue, .inl (ar 0, 256, .inl s_queue)), (a_this_sizeOf, .inl (ar 0, 256, .inl s_sizeOf))] [(0, .ref a_this), (1, .int x1), (2, .int x2), (3, .int x3)] [] := by
  intro n
  induction n with
  | zero => intro x2 x3 s_partOf s_queue o_x2 o_partOf o_queue h; exact (no0 h).elim
  | succ n ih =>
    intro x2 x3 s_partOf s_queue o_x2 o_partOf o_queue h K1
    have hrec : ∀ (x2 : Int32) (x3 : Int32) (s_partOf : Nat → Int32) (s_queue : Nat → Int32), loop4 (m_Shape_spread_k9 fu x1 s_count s_height s_parts s_width s_firstOf s_inside s_sizeOf) n x2 x3 s_partOf s_queue = some (o_x2, o_partOf, o_queue) → WA p l e rm_Shape_spread s m args below meth c D A 7 Q 9 [(a_this, .inr (7, [.ref a_this_inside, .ref a_this_partOf, .ref a_this_sizeOf, .ref a_this_firstOf, .int s_width, .int s_height, .int s_parts, .int s_count, .ref a_this_queue])), (a_this_firstOf, .inl (ar 0, 256, .inl s_firstOf)), (a_this_inside, .inl (ar 1, 256, .inl s_inside)), (a_this_partOf, .inl (ar 0, 256, .inl s_partOf)), (a_this_queue, .inl (ar 0, 256, .inl s_queue)), (a_this_sizeOf, .inl (ar 0, 256, .inl s_sizeOf))] [(0, .ref a_this), (1, .int x1), (2, .int x2), (3, .int x3)] [] := fun x2 x3 s_partOf s_queue h => ih x2 x3 s_partOf s_queue o_x2 o_partOf o_queue h K1
    clear ih
    intro H locs ls hP hD hS hl
    obtain ⟨hx, hb, hr, hml, hown, hts, hlocks, hA, hK, hZ⟩ := id C0
    have h : m_Shape_spread_k9 fu x1 s_count s_height s_parts s_width s_firstOf s_inside s_sizeOf (loop4 (m_Shape_spread_k9 fu x1 s_count s_height s_parts s_width s_firstOf s_inside s_sizeOf) n) x2 x3 s_partOf s_queue = some (o_x2, o_partOf, o_queue) := h
    unfold m_Shape_spread_k9 at h
    refine lv_iload_n hx hb d_Shape_spread_9 rfl (lv_at hl 3 rfl) ?_
    refine lv_iload_n hx hb d_Shape_spread_10 rfl (lv_at hl 2 rfl) ?_
    refine lv_icmp_ge (tgt := 159) hx hb d_Shape_spread_11 (by decide) (fun c_4 => ?_) (fun c_4 => ?_)
    · have h := Eq.trans (if_pos c_4).symm h
      cases h
      exact K1 _ _ _ hP hD hS (lv_sub hl [0, 1, 2] rfl)
    · have h := Eq.trans (if_neg c_4).symm h
      refine lv_iload_n hx hb d_Shape_spread_14 rfl (lv_at hl 3 rfl) ?_
      refine lv_sipush (v := (256 : Int32)) hx hb d_Shape_spread_15 (by decide) ?_
      refine lv_icmp_ge (tgt := 159) hx hb d_Shape_spread_18 (by decide) (fun c_5 => ?_) (fun c_5 => ?_)
      · have h := Eq.trans (if_pos c_5).symm h
        cases h
        exact K1 _ _ _ hP hD hS (lv_sub hl [0, 1, 2] rfl)
      · have h := Eq.trans (if_neg c_5).symm h
        refine lv_aload_n hx hb d_Shape_spread_21 rfl (lv_at hl 0 rfl) ?_
        refine va_get (D := D) (ci := 7) (v := .ref a_this_queue) (C := R_Shape) (T := F_Shape) (N := 9) hx hb hts in_Shape hown hK hP 0 rfl rfl 8 (by decide) (hts _ k_95) (fun _ h9 => h9) rfl d_Shape_spread_22 ?_
        refine lv_iload_n hx hb d_Shape_spread_25 rfl (lv_at hl 3 rfl) ?_
        obtain ⟨b_6, h⟩ := chk_some h
        refine va_iald hx hb hK hP 4 0 rfl rfl b_6 d_Shape_spread_26 ?_
        refine lv_topi (fun x4_7 e_x4_7 => ?_)
        have h := letB_at e_x4_7 h
        refine lv_istore (lv' := [(4, .int x4_7), (0, .ref a_this), (1, .int x1), (2, .int x2), (3, .int x3)]) hx hb d_Shape_spread_27 hl (by decide) rfl (fun ls hl => ?_)
        refine lv_iload hx hb d_Shape_spread_29 (lv_at hl 0 rfl) ?_
        obtain ⟨r_8, hcall, h⟩ := bn1_some h
        refine sd_i (wr := [(a_this, .inr (7, [.ref a_this_inside, .ref a_this_partOf, .ref a_this_sizeOf, .ref a_this_firstOf, .int s_width, .int s_height, .int s_parts, .int s_count, .ref a_this_queue])), (a_this_firstOf, .inl (ar 0, 256, .inl s_firstOf)), (a_this_inside, .inl (ar 1, 256, .inl s_inside)), (a_this_partOf, .inl (ar 0, 256, .inl s_partOf)), (a_this_queue, .inl (ar 0, 256, .inl s_queue)), (a_this_sizeOf, .inl (ar 0, 256, .inl s_sizeOf))]) (va_runSN (As := [.int x4_7]) (rest := []) ⟨hx, hb, hml, hown, hts⟩ (c_FW_columnOf 0 x4_7 hcall _) (cw_SN 1 hts (hZ.nw k_286 rfl) k_287 k_29 k_288 rfl rfl (by decide +kernel) ⟨Nat.le_of_ble_eq_true rfl, Nat.le_of_ble_eq_true rfl⟩) (sd_preS hK hP hD hS hA hZ [] (by decide) rfl) rfl rfl hl.1 rfl (lv_room (Nat.le_of_ble_eq_true rfl)) d_Shape_spread_31 ⟨Nat.le_of_ble_eq_true rfl, Nat.le_of_ble_eq_true rfl⟩) hP hD hS hA [] [0, 1, 2, 3, 4, 5] rfl rfl (by decide) (by decide) (fun H locs hP hD hS => ?_)
        have hP : va_P D vwCl [(a_this, .inr (7, [.ref a_this_inside, .ref a_this_partOf, .ref a_this_sizeOf, .ref a_this_firstOf, .int s_width, .int s_height, .int s_parts, .int s_count, .ref a_this_queue])), (a_this_firstOf, .inl (ar 0, 256, .inl s_firstOf)), (a_this_inside, .inl (ar 1, 256, .inl s_inside)), (a_this_partOf, .inl (ar 0, 256, .inl s_partOf)), (a_this_queue, .inl (ar 0, 256, .inl s_queue)), (a_this_sizeOf, .inl (ar 0, 256, .inl s_sizeOf))] H := hP
        have hD : va_D A [(a_this, .inr (7, [.ref a_this_inside, .ref a_this_partOf, .ref a_this_sizeOf, .ref a_this_firstOf, .int s_width, .int s_height, .int s_parts, .int s_count, .ref a_this_queue])), (a_this_firstOf, .inl (ar 0, 256, .inl s_firstOf)), (a_this_inside, .inl (ar 1, 256, .inl s_inside)), (a_this_partOf, .inl (ar 0, 256, .inl s_partOf)), (a_this_queue, .inl (ar 0, 256, .inl s_queue)), (a_this_sizeOf, .inl (ar 0, 256, .inl s_sizeOf))] := hD
        refine lv_istore (lv' := [(5, .int r_8), (4, .int x4_7), (0, .ref a_this), (1, .int x1), (2, .int x2), (3, .int x3)]) hx hb d_Shape_spread_34 hl (by decide) rfl (fun ls hl => ?_)
        refine lv_iload hx hb d_Shape_spread_36 (lv_at hl 1 rfl) ?_
        obtain ⟨r_9, hcall, h⟩ := bn1_some h
        refine sd_i (wr := [(a_this, .inr (7, [.ref a_this_inside, .ref a_this_partOf, .ref a_this_sizeOf, .ref a_this_firstOf, .int s_width, .int s_height, .int s_parts, .int s_count, .ref a_this_queue])), (a_this_firstOf, .inl (ar 0, 256, .inl s_firstOf)), (a_this_inside, .inl (ar 1, 256, .inl s_inside)), (a_this_partOf, .inl (ar 0, 256, .inl s_partOf)), (a_this_queue, .inl (ar 0, 256, .inl s_queue)), (a_this_sizeOf, .inl (ar 0, 256, .inl s_sizeOf))]) (va_runSN (As := [.int x4_7]) (rest := []) ⟨hx, hb, hml, hown, hts⟩ (c_FW_rowOf 0 x4_7 hcall _) (cw_SN 1 hts (hZ.nw k_289 rfl) k_290 k_29 k_291 rfl rfl (by decide +kernel) ⟨Nat.le_of_ble_eq_true rfl, Nat.le_of_ble_eq_true rfl⟩) (sd_preS hK hP hD hS hA hZ [] (by decide) rfl) rfl rfl hl.1 rfl (lv_room (Nat.le_of_ble_eq_true rfl)) d_Shape_spread_38 ⟨Nat.le_of_ble_eq_true rfl, Nat.le_of_ble_eq_true rfl⟩) hP hD hS hA [] [0, 1, 2, 3, 4, 5] rfl rfl (by decide) (by decide) (fun H locs hP hD hS => ?_)
        have hP : va_P D vwCl [(a_this, .inr (7, [.ref a_this_inside, .ref a_this_partOf, .ref a_this_sizeOf, .ref a_this_firstOf, .int s_width, .int s_height, .int s_parts, .int s_count, .ref a_this_queue])), (a_this_firstOf, .inl (ar 0, 256, .inl s_firstOf)), (a_this_inside, .inl (ar 1, 256, .inl s_inside)), (a_this_partOf, .inl (ar 0, 256, .inl s_partOf)), (a_this_queue, .inl (ar 0, 256, .inl s_queue)), (a_this_sizeOf, .inl (ar 0, 256, .inl s_sizeOf))] H := hP
        have hD : va_D A [(a_this, .inr (7, [.ref a_this_inside, .ref a_this_partOf, .ref a_this_sizeOf, .ref a_this_firstOf, .int s_width, .int s_height, .int s_parts, .int s_count, .ref a_this_queue])), (a_this_firstOf, .inl (ar 0, 256, .inl s_firstOf)), (a_this_inside, .inl (ar 1, 256, .inl s_inside)), (a_this_partOf, .inl (ar 0, 256, .inl s_partOf)), (a_this_queue, .inl (ar 0, 256, .inl s_queue)), (a_this_sizeOf, .inl (ar 0, 256, .inl s_sizeOf))] := hD
        refine lv_istore (lv' := [(6, .int r_9), (5, .int r_8), (4, .int x4_7), (0, .ref a_this), (1, .int x1), (2, .int x2), (3, .int x3)]) hx hb d_Shape_spread_41 hl (by decide) rfl (fun ls hl => ?_)
        refine lv_aload_n hx hb d_Shape_spread_43 rfl (lv_at hl 3 rfl) ?_
        refine lv_iload hx hb d_Shape_spread_44 (lv_at hl 1 rfl) ?_
        refine lv_iconst (v := (1 : Int32)) hx hb d_Shape_spread_46 (by decide) ?_
        refine lv_isub hx hb d_Shape_spread_47 ?_
        refine lv_iload hx hb d_Shape_spread_48 (lv_at hl 0 rfl) ?_
        obtain ⟨r_10, hcall, h⟩ := bn1_some h
        refine sd_i (wr := [(a_this_firstOf, .inl (ar 0, 256, .inl s_firstOf)), (a_this_inside, .inl (ar 1, 256, .inl s_inside)), (a_this_partOf, .inl (ar 0, 256, .inl s_partOf)), (a_this_queue, .inl (ar 0, 256, .inl s_queue)), (a_this_sizeOf, .inl (ar 0, 256, .inl s_sizeOf))]) (va_runV (As := [.int (r_8 - (1 : Int32)), .int r_9]) (rest := []) ⟨hx, hb, hml, hown, hts⟩ (c_Shape_has a_this a_this_inside a_this_partOf a_this_sizeOf a_this_firstOf a_this_queue s_parts s_count (r_8 - (1 : Int32)) r_9 s_height s_width hcall _) (cw_V 2 hts k_292 k_293 k_294 k_31 k_295 rfl rfl (by decide +kernel) ⟨Nat.le_of_ble_eq_true rfl, Nat.le_of_ble_eq_true rfl⟩) (sd_preV hK hP hD hS hA hZ [0] (by decide) rfl (va_recv hK hP (ci := 7) (q0 := 0) rfl rfl)) rfl rfl hl.1 rfl (lv_room (Nat.le_of_ble_eq_true rfl)) d_Shape_spread_50 ⟨Nat.le_of_ble_eq_true rfl, Nat.le_of_ble_eq_true rfl⟩) hP hD hS hA [0] [1, 2, 3, 4, 5] rfl rfl (by decide) (by decide) (fun H locs hP hD hS => ?_)
        have hP : va_P D vwCl [(a_this_firstOf, .inl (ar 0, 256, .inl s_firstOf)), (a_this_inside, .inl (ar 1, 256, .inl s_inside)), (a_this_partOf, .inl (ar 0, 256, .inl s_partOf)), (a_this_queue, .inl (ar 0, 256, .inl s_queue)), (a_this_sizeOf, .inl (ar 0, 256, .inl s_sizeOf)), (a_this, .inr (7, [.ref a_this_inside, .ref a_this_partOf, .ref a_this_sizeOf, .ref a_this_firstOf, .int s_width, .int s_height, .int s_parts, .int s_count, .ref a_this_queue]))] H := hP
        have hD : va_D A [(a_this_firstOf, .inl (ar 0, 256, .inl s_firstOf)), (a_this_inside, .inl (ar 1, 256, .inl s_inside)), (a_this_partOf, .inl (ar 0, 256, .inl s_partOf)), (a_this_queue, .inl (ar 0, 256, .inl s_queue)), (a_this_sizeOf, .inl (ar 0, 256, .inl s_sizeOf)), (a_this, .inr (7, [.ref a_this_inside, .ref a_this_partOf, .ref a_this_sizeOf, .ref a_this_firstOf, .int s_width, .int s_height, .int s_parts, .int s_count, .ref a_this_queue]))] := hD
        refine lv_if_eq (tgt := 68) hx hb d_Shape_spread_53 (by decide) (fun c_11 => ?_) (fun c_11 => ?_)
        · have h := Eq.trans (if_pos c_11).symm h
          refine lv_iload_n hx hb d_Shape_spread_68 rfl (lv_at hl 5 rfl) ?_
          exact w_Shape_spread_b69 C0 x1 x3 x4_7 r_8 r_9 x2 s_count s_height s_parts s_width s_firstOf s_inside s_partOf s_queue s_sizeOf _ hrec K1 h _ _ _ (hP.sub [5, 0, 1, 2, 3, 4] rfl) (hD.sub [5, 0, 1, 2, 3, 4] (by decide) rfl) hS (lv_sub hl [3, 4, 6, 2, 1, 0] rfl)
        · have h := Eq.trans (if_neg c_11).symm h
          refine lv_aload_n hx hb d_Shape_spread_56 rfl (lv_at hl 3 rfl) ?_
          refine lv_iload hx hb d_Shape_spread_57 (lv_at hl 2 rfl) ?_
          refine lv_iconst (v := (1 : Int32)) hx hb d_Shape_spread_59 (by decide) ?_
          refine lv_isub hx hb d_Shape_spread_60 ?_
          refine lv_iload_n hx hb d_Shape_spread_61 rfl (lv_at hl 5 rfl) ?_
          obtain ⟨r_28, s_partOf_29, s_queue_30, hcall, h⟩ := bn3_some h
          refine sd_i (wr := [(a_this_firstOf, .inl (ar 0, 256, .inl s_firstOf)), (a_this_sizeOf, .inl (ar 0, 256, .inl s_sizeOf))]) (va_runV (As := [.int (x4_7 - (1 : Int32)), .int x2]) (rest := []) ⟨hx, hb, hml, hown, hts⟩ (c_Shape_join a_this a_this_inside a_this_partOf a_this_sizeOf a_this_firstOf a_this_queue s_width s_height s_count (x4_7 - (1 : Int32)) x2 s_parts s_inside s_partOf s_queue hcall _) (cw_V 2 hts k_282 k_284 k_1 k_31 k_285 rfl rfl (by decide +kernel) ⟨Nat.le_of_ble_eq_true rfl, Nat.le_of_ble_eq_true rfl⟩) (sd_preV hK hP hD hS hA hZ [5, 1, 2, 3] (by decide) rfl (va_recv hK hP (ci := 7) (q0 := 5) rfl rfl)) rfl rfl hl.1 rfl (lv_room (Nat.le_of_ble_eq_true rfl)) d_Shape_spread_62 ⟨Nat.le_of_ble_eq_true rfl, Nat.le_of_ble_eq_true rfl⟩) hP hD hS hA [5, 1, 2, 3] [0, 4] rfl rfl (by decide) (by decide) (fun H locs hP hD hS => ?_)
          have hP : va_P D vwCl [(a_this_firstOf, .inl (ar 0, 256, .inl s_firstOf)), (a_this_sizeOf, .inl (ar 0, 256, .inl s_sizeOf)), (a_this, .inr (7, [.ref a_this_inside, .ref a_this_partOf, .ref a_this_sizeOf, .ref a_this_firstOf, .int s_width, .int s_height, .int s_parts, .int s_count, .ref a_this_queue])), (a_this_inside, .inl (ar 1, 256, .inl s_inside)), (a_this_partOf, .inl (ar 0, 256, .inl s_partOf_29)), (a_this_queue, .inl (ar 0, 256, .inl s_queue_30))] H := hP
          have hD : va_D A [(a_this_firstOf, .inl (ar 0, 256, .inl s_firstOf)), (a_this_sizeOf, .inl (ar 0, 256, .inl s_sizeOf)), (a_this, .inr (7, [.ref a_this_inside, .ref a_this_partOf, .ref a_this_sizeOf, .ref a_this_firstOf, .int s_width, .int s_height, .int s_parts, .int s_count, .ref a_this_queue])), (a_this_inside, .inl (ar 1, 256, .inl s_inside)), (a_this_partOf, .inl (ar 0, 256, .inl s_partOf_29)), (a_this_queue, .inl (ar 0, 256, .inl s_queue_30))] := hD
          refine lv_goto (tgt := 69) hx hb d_Shape_spread_65 (by decide) ?_
          exact w_Shape_spread_b69 C0 x1 x3 x4_7 r_8 r_9 r_28 s_count s_height s_parts s_width s_firstOf s_inside s_partOf_29 s_queue_30 s_sizeOf _ hrec K1 h _ _ _ (hP.sub [2, 0, 3, 4, 5, 1] rfl) (hD.sub [2, 0, 3, 4, 5, 1] (by decide) rfl) hS (lv_sub hl [3, 4, 6, 2, 1, 0] rfl)
def m_Shape_spread (fu : Nat) (x1 : Int32) (s_count : Int32) (s_height : Int32) (s_parts : Int32) (s_width : Int32) (s_firstOf : Nat → Int32) (s_inside : Nat → Int32) (s_partOf : Nat → Int32) (s_queue : Nat → Int32) (s_sizeOf : Nat → Int32) : Option (Int32 × Int32 × (Nat → Int32) × (Nat → Int32) × (Nat → Int32) × (Nat → Int32)) :=
  bn3 (m_Shape_join fu x1 (0 : Int32) s_parts s_inside s_partOf s_queue) (fun r_1 s_partOf_2 s_queue_3 => bn3 (loop4 (m_Shape_spread_k9 fu x1 s_count s_height s_parts s_width s_firstOf s_inside s_sizeOf) fu r_1 (0 : Int32) s_partOf_2 s_queue_3) (fun o_x2_31 o_partOf_32 o_queue_33 => chk s_parts 256 (chk s_parts 256 (letB (s_count + o_x2_31) (fun f_36 => letB (s_parts + (1 : Int32)) (fun f_37 => some (f_36, f_37, upd s_firstOf (s_parts).toNatClampNeg x1, o_partOf_32, o_queue_33, upd s_sizeOf (s_parts).toNatClampNeg o_x2_31)))))))
set_option maxHeartbeats 4000000 in
set_option maxRecDepth 100000 in
theorem c_Shape_spread {l : Launch} {D : va_G} {ar : Nat → ClassId} {fu : Nat} (a_this a_this_inside a_this_partOf a_this_sizeOf a_this_firstOf a_this_queue : Nat) (x1 : Int32) (s_count : Int32) (s_height : Int32) (s_parts : Int32) (s_width : Int32) (s_firstOf : Nat → Int32) (s_inside : Nat → Int32) (s_partOf : Nat → Int32) (s_queue : Nat → Int32) (s_sizeOf : Nat → Int32) {r_count : Int32} {r_parts : Int32} {r_firstOf : Nat → Int32} {r_partOf : Nat → Int32} {r_queue : Nat → Int32} {r_sizeOf : Nat → Int32} (h : m_Shape_spread fu x1 s_count s_height s_parts s_width s_firstOf s_inside s_partOf s_queue s_sizeOf = some (r_count, r_parts, r_firstOf, r_partOf, r_queue, r_sizeOf)) : StdV l y_Shape_spread ws_Shape_spread rm_Shape_spread D ar [.ref a_this, .int x1] [(a_this, .inr (7, [.ref a_this_inside, .ref a_this_partOf, .ref a_this_sizeOf, .ref a_this_firstOf, .int s_width, .int s_height, .int s_parts, .int s_count, .ref a_this_queue])), (a_this_firstOf, .inl (ar 0, 256, .inl s_firstOf)), (a_this_inside, .inl (ar 1, 256, .inl s_inside)), (a_this_partOf, .inl (ar 0, 256, .inl s_partOf)), (a_this_queue, .inl (ar 0, 256, .inl s_queue)), (a_this_sizeOf, .inl (ar 0, 256, .inl s_sizeOf))] [(a_this, .inr (7, [.ref a_this_inside, .ref a_this_partOf, .ref a_this_sizeOf, .ref a_this_firstOf, .int s_width, .int s_height, .int r_parts, .int r_count, .ref a_this_queue])), (a_this_firstOf, .inl (ar 0, 256, .inl r_firstOf)), (a_this_inside, .inl (ar 1, 256, .inl s_inside)), (a_this_partOf, .inl (ar 0, 256, .inl r_partOf)), (a_this_queue, .inl (ar 0, 256, .inl r_queue)), (a_this_sizeOf, .inl (ar 0, 256, .inl r_sizeOf))] := by
  refine sd_metV (cc := prog_8_method_6_code) (maxL := 7) (ret := none) (own := "FreeWavelets$Shape") (by decide) rfl rfl (Nat.le_of_ble_eq_true rfl) ?_
  intro p e s m below meth c A ls C0 hP hD hl
  obtain ⟨hx, hb, hr, hml, hown, hts, hlocks, hA, hK, hZ⟩ := id C0
  have hS : va_S A s.heap s.heap [] := va_S.rf
  have hl : lv_has ls 7 [(0, .ref a_this), (1, .int x1)] := hl
  unfold m_Shape_spread at h
  refine lv_aload_n hx hb d_Shape_spread_0 rfl (lv_at hl 0 rfl) ?_
  refine lv_iload_n hx hb d_Shape_spread_1 rfl (lv_at hl 1 rfl) ?_
  refine lv_iconst (v := (0 : Int32)) hx hb d_Shape_spread_2 (by decide) ?_
  obtain ⟨r_1, s_partOf_2, s_queue_3, hcall, h⟩ := bn3_some h
  refine sd_i (wr := [(a_this_firstOf, .inl (ar 0, 256, .inl s_firstOf)), (a_this_sizeOf, .inl (ar 0, 256, .inl s_sizeOf))]) (va_runV (As := [.int x1, .int (0 : Int32)]) (rest := []) ⟨hx, hb, hml, hown, hts⟩ (c_Shape_join a_this a_this_inside a_this_partOf a_this_sizeOf a_this_firstOf a_this_queue s_width s_height s_count x1 (0 : Int32) s_parts s_inside s_partOf s_queue hcall _) (cw_V 2 hts k_282 k_284 k_1 k_31 k_285 rfl rfl (by decide +kernel) ⟨Nat.le_of_ble_eq_true rfl, Nat.le_of_ble_eq_true rfl⟩) (sd_preV hK hP hD hS hA hZ [0, 2, 3, 4] (by decide) rfl (va_recv hK hP (ci := 7) (q0 := 0) rfl rfl)) rfl rfl hl.1 rfl (lv_room (Nat.le_of_ble_eq_true rfl)) d_Shape_spread_3 ⟨Nat.le_of_ble_eq_true rfl, Nat.le_of_ble_eq_true rfl⟩) hP hD hS hA [0, 2, 3, 4] [1, 5] rfl rfl (by decide) (by decide) (fun H locs hP hD hS => ?_)
  have hP : va_P D vwCl [(a_this_firstOf, .inl (ar 0, 256, .inl s_firstOf)), (a_this_sizeOf, .inl (ar 0, 256, .inl s_sizeOf)), (a_this, .inr (7, [.ref a_this_inside, .ref a_this_partOf, .ref a_this_sizeOf, .ref a_this_firstOf, .int s_width, .int s_height, .int s_parts, .int s_count, .ref a_this_queue])), (a_this_inside, .inl (ar 1, 256, .inl s_inside)), (a_this_partOf, .inl (ar 0, 256, .inl s_partOf_2)), (a_this_queue, .inl (ar 0, 256, .inl s_queue_3))] H := hP
  have hD : va_D A [(a_this_firstOf, .inl (ar 0, 256, .inl s_firstOf)), (a_this_sizeOf, .inl (ar 0, 256, .inl s_sizeOf)), (a_this, .inr (7, [.ref a_this_inside, .ref a_this_partOf, .ref a_this_sizeOf, .ref a_this_firstOf, .int s_width, .int s_height, .int s_parts, .int s_count, .ref a_this_queue])), (a_this_inside, .inl (ar 1, 256, .inl s_inside)), (a_this_partOf, .inl (ar 0, 256, .inl s_partOf_2)), (a_this_queue, .inl (ar 0, 256, .inl s_queue_3))] := hD
  refine lv_istore_n (lv' := [(2, .int r_1), (0, .ref a_this), (1, .int x1)]) hx hb d_Shape_spread_6 rfl hl (by decide) rfl (fun ls hl => ?_)
  refine lv_iconst (v := (0 : Int32)) hx hb d_Shape_spread_7 (by decide) ?_
  refine lv_istore_n (lv' := [(3, .int (0 : Int32)), (2, .int r_1), (0, .ref a_this), (1, .int x1)]) hx hb d_Shape_spread_8 rfl hl (by decide) rfl (fun ls hl => ?_)
  obtain ⟨o_x2_31, o_partOf_32, o_queue_33, hloop, h⟩ := bn3_some h
  refine w_Shape_spread_l9 C0 x1 s_count s_height s_parts s_width s_firstOf s_inside s_sizeOf fu r_1 (0 : Int32) s_partOf_2 s_queue_3 _ _ _ hloop ?_ _ _ _ (hP.sub [2, 0, 3, 4, 5, 1] rfl) (hD.sub [2, 0, 3, 4, 5, 1] (by decide) rfl) hS (lv_sub hl [2, 3, 1, 0] rfl)
  clear hP hD hS hl hloop
  intro H locs ls hP hD hS hl
  refine lv_aload_n hx hb d_Shape_spread_159 rfl (lv_at hl 0 rfl) ?_
  refine va_get (D := D) (ci := 7) (v := .ref a_this_firstOf) (C := R_Shape) (T := F_Shape) (N := 9) hx hb hts in_Shape hown hK hP 0 rfl rfl 3 (by decide) (hts _ k_79) (fun _ h9 => h9) rfl d_Shape_spread_160 ?_
  refine lv_aload_n hx hb d_Shape_spread_163 rfl (lv_at hl 0 rfl) ?_
  refine va_get (D := D) (ci := 7) (v := .int s_parts) (C := R_Shape) (T := F_Shape) (N := 9) hx hb hts in_Shape hown hK hP 0 rfl rfl 6 (by decide) (hts _ k_91) (fun _ h9 => h9) rfl d_Shape_spread_164 ?_
  refine lv_iload_n hx hb d_Shape_spread_167 rfl (lv_at hl 1 rfl) ?_
  obtain ⟨b_34, h⟩ := chk_some h
  refine va_iast hx hb hK hP hD hS 1 0 rfl rfl b_34 d_Shape_spread_168 (fun H locs hP hD hS => ?_)
  have hP : va_P D vwCl [(a_this, .inr (7, [.ref a_this_inside, .ref a_this_partOf, .ref a_this_sizeOf, .ref a_this_firstOf, .int s_width, .int s_height, .int s_parts, .int s_count, .ref a_this_queue])), (a_this_firstOf, .inl (ar 0, 256, .inl (upd s_firstOf (s_parts).toNatClampNeg x1))), (a_this_inside, .inl (ar 1, 256, .inl s_inside)), (a_this_partOf, .inl (ar 0, 256, .inl o_partOf_32)), (a_this_queue, .inl (ar 0, 256, .inl o_queue_33)), (a_this_sizeOf, .inl (ar 0, 256, .inl s_sizeOf))] H := hP
  have hD : va_D A [(a_this, .inr (7, [.ref a_this_inside, .ref a_this_partOf, .ref a_this_sizeOf, .ref a_this_firstOf, .int s_width, .int s_height, .int s_parts, .int s_count, .ref a_this_queue])), (a_this_firstOf, .inl (ar 0, 256, .inl (upd s_firstOf (s_parts).toNatClampNeg x1))), (a_this_inside, .inl (ar 1, 256, .inl s_inside)), (a_this_partOf, .inl (ar 0, 256, .inl o_partOf_32)), (a_this_queue, .inl (ar 0, 256, .inl o_queue_33)), (a_this_sizeOf, .inl (ar 0, 256, .inl s_sizeOf))] := hD
  refine lv_aload_n hx hb d_Shape_spread_169 rfl (lv_at hl 0 rfl) ?_
  refine va_get (D := D) (ci := 7) (v := .ref a_this_sizeOf) (C := R_Shape) (T := F_Shape) (N := 9) hx hb hts in_Shape hown hK hP 0 rfl rfl 2 (by decide) (hts _ k_77) (fun _ h9 => h9) rfl d_Shape_spread_170 ?_
  refine lv_aload_n hx hb d_Shape_spread_173 rfl (lv_at hl 0 rfl) ?_
  refine va_get (D := D) (ci := 7) (v := .int s_parts) (C := R_Shape) (T := F_Shape) (N := 9) hx hb hts in_Shape hown hK hP 0 rfl rfl 6 (by decide) (hts _ k_91) (fun _ h9 => h9) rfl d_Shape_spread_174 ?_
  refine lv_iload_n hx hb d_Shape_spread_177 rfl (lv_at hl 2 rfl) ?_
  obtain ⟨b_35, h⟩ := chk_some h
  refine va_iast hx hb hK hP hD hS 5 0 rfl rfl b_35 d_Shape_spread_178 (fun H locs hP hD hS => ?_)
  have hP : va_P D vwCl [(a_this, .inr (7, [.ref a_this_inside, .ref a_this_partOf, .ref a_this_sizeOf, .ref a_this_firstOf, .int s_width, .int s_height, .int s_parts, .int s_count, .ref a_this_queue])), (a_this_firstOf, .inl (ar 0, 256, .inl (upd s_firstOf (s_parts).toNatClampNeg x1))), (a_this_inside, .inl (ar 1, 256, .inl s_inside)), (a_this_partOf, .inl (ar 0, 256, .inl o_partOf_32)), (a_this_queue, .inl (ar 0, 256, .inl o_queue_33)), (a_this_sizeOf, .inl (ar 0, 256, .inl (upd s_sizeOf (s_parts).toNatClampNeg o_x2_31)))] H := hP
  have hD : va_D A [(a_this, .inr (7, [.ref a_this_inside, .ref a_this_partOf, .ref a_this_sizeOf, .ref a_this_firstOf, .int s_width, .int s_height, .int s_parts, .int s_count, .ref a_this_queue])), (a_this_firstOf, .inl (ar 0, 256, .inl (upd s_firstOf (s_parts).toNatClampNeg x1))), (a_this_inside, .inl (ar 1, 256, .inl s_inside)), (a_this_partOf, .inl (ar 0, 256, .inl o_partOf_32)), (a_this_queue, .inl (ar 0, 256, .inl o_queue_33)), (a_this_sizeOf, .inl (ar 0, 256, .inl (upd s_sizeOf (s_parts).toNatClampNeg o_x2_31)))] := hD
  refine lv_aload_n hx hb d_Shape_spread_179 rfl (lv_at hl 0 rfl) ?_
  refine lv_dup hx hb d_Shape_spread_180 rfl ?_
  refine va_get (D := D) (ci := 7) (v := .int s_count) (C := R_Shape) (T := F_Shape) (N := 9) hx hb hts in_Shape hown hK hP 0 rfl rfl 7 (by decide) (hts _ k_93) (fun _ h9 => h9) rfl d_Shape_spread_181 ?_
  refine lv_iload_n hx hb d_Shape_spread_184 rfl (lv_at hl 2 rfl) ?_
  refine lv_iadd hx hb d_Shape_spread_185 ?_
  refine lv_topi (fun f_36 e_f_36 => ?_)
  have h := letB_at e_f_36 h
  refine va_put (D := D) (ci := 7) (v := .int f_36) (ty := .int) (C := R_Shape) (T := F_Shape) (N := 9) hx hb hts in_Shape t_Shape t_Shape_ok n_Shape hown hK hP hD hS 0 rfl rfl 7 (by decide) (hts _ k_93) (fun _ h9 => h9) rfl (by decide +kernel) rfl rfl (Nat.le_of_ble_eq_true rfl) d_Shape_spread_186 (fun H locs hP hD hS => ?_)
  have hP : va_P D vwCl [(a_this, .inr (7, [.ref a_this_inside, .ref a_this_partOf, .ref a_this_sizeOf, .ref a_this_firstOf, .int s_width, .int s_height, .int s_parts, .int f_36, .ref a_this_queue])), (a_this_firstOf, .inl (ar 0, 256, .inl (upd s_firstOf (s_parts).toNatClampNeg x1))), (a_this_inside, .inl (ar 1, 256, .inl s_inside)), (a_this_partOf, .inl (ar 0, 256, .inl o_partOf_32)), (a_this_queue, .inl (ar 0, 256, .inl o_queue_33)), (a_this_sizeOf, .inl (ar 0, 256, .inl (upd s_sizeOf (s_parts).toNatClampNeg o_x2_31)))] H := hP
  have hD : va_D A [(a_this, .inr (7, [.ref a_this_inside, .ref a_this_partOf, .ref a_this_sizeOf, .ref a_this_firstOf, .int s_width, .int s_height, .int s_parts, .int f_36, .ref a_this_queue])), (a_this_firstOf, .inl (ar 0, 256, .inl (upd s_firstOf (s_parts).toNatClampNeg x1))), (a_this_inside, .inl (ar 1, 256, .inl s_inside)), (a_this_partOf, .inl (ar 0, 256, .inl o_partOf_32)), (a_this_queue, .inl (ar 0, 256, .inl o_queue_33)), (a_this_sizeOf, .inl (ar 0, 256, .inl (upd s_sizeOf (s_parts).toNatClampNeg o_x2_31)))] := hD
  refine lv_aload_n hx hb d_Shape_spread_189 rfl (lv_at hl 0 rfl) ?_
  refine lv_dup hx hb d_Shape_spread_190 rfl ?_
  refine va_get (D := D) (ci := 7) (v := .int s_parts) (C := R_Shape) (T := F_Shape) (N := 9) hx hb hts in_Shape hown hK hP 0 rfl rfl 6 (by decide) (hts _ k_91) (fun _ h9 => h9) rfl d_Shape_spread_191 ?_
  refine lv_iconst (v := (1 : Int32)) hx hb d_Shape_spread_194 (by decide) ?_
  refine lv_iadd hx hb d_Shape_spread_195 ?_
  refine lv_topi (fun f_37 e_f_37 => ?_)
  have h := letB_at e_f_37 h
  refine va_put (D := D) (ci := 7) (v := .int f_37) (ty := .int) (C := R_Shape) (T := F_Shape) (N := 9) hx hb hts in_Shape t_Shape t_Shape_ok n_Shape hown hK hP hD hS 0 rfl rfl 6 (by decide) (hts _ k_91) (fun _ h9 => h9) rfl (by decide +kernel) rfl rfl (Nat.le_of_ble_eq_true rfl) d_Shape_spread_196 (fun H locs hP hD hS => ?_)
  have hP : va_P D vwCl [(a_this, .inr (7, [.ref a_this_inside, .ref a_this_partOf, .ref a_this_sizeOf, .ref a_this_firstOf, .int s_width, .int s_height, .int f_37, .int f_36, .ref a_this_queue])), (a_this_firstOf, .inl (ar 0, 256, .inl (upd s_firstOf (s_parts).toNatClampNeg x1))), (a_this_inside, .inl (ar 1, 256, .inl s_inside)), (a_this_partOf, .inl (ar 0, 256, .inl o_partOf_32)), (a_this_queue, .inl (ar 0, 256, .inl o_queue_33)), (a_this_sizeOf, .inl (ar 0, 256, .inl (upd s_sizeOf (s_parts).toNatClampNeg o_x2_31)))] H := hP
  have hD : va_D A [(a_this, .inr (7, [.ref a_this_inside, .ref a_this_partOf, .ref a_this_sizeOf, .ref a_this_firstOf, .int s_width, .int s_height, .int f_37, .int f_36, .ref a_this_queue])), (a_this_firstOf, .inl (ar 0, 256, .inl (upd s_firstOf (s_parts).toNatClampNeg x1))), (a_this_inside, .inl (ar 1, 256, .inl s_inside)), (a_this_partOf, .inl (ar 0, 256, .inl o_partOf_32)), (a_this_queue, .inl (ar 0, 256, .inl o_queue_33)), (a_this_sizeOf, .inl (ar 0, 256, .inl (upd s_sizeOf (s_parts).toNatClampNeg o_x2_31)))] := hD
  cases h
  exact sd_vret hx hb hr hlocks hP hD hK hS d_Shape_spread_199
abbrev rm_Shape_findParts : Room := { frames := 2, cells := 0, slots := 0, locals := 48 }
def m_Shape_findParts_b78 (fu : Nat) (rec : Int32 → Int32 → Int32 → (Nat → Int32) → (Nat → Int32) → (Nat → Int32) → (Nat → Int32) → Option ((Int32 × Int32 × (Nat → Int32) × (Nat → Int32) × (Nat → Int32) × (Nat → Int32)))) (x1 : Int32) (x2 : Int32) (s_count : Int32) (s_height : Int32) (s_parts : Int32) (s_width : Int32) (s_firstOf : Nat → Int32) (s_inside : Nat → Int32) (s_partOf : Nat → Int32) (s_queue : Nat → Int32) (s_sizeOf : Nat → Int32) : Option ((Int32 × Int32 × (Nat → Int32) × (Nat → Int32) × (Nat → Int32) × (Nat → Int32))) :=
  letB (x2 + (1 : Int32)) (fun x2_7 => rec x2_7 s_count s_parts s_firstOf s_partOf s_queue s_sizeOf)
set_option maxHeartbeats 4000000 in
set_option maxRecDepth 100000 in
theorem w_Shape_findParts_b78 {p : Program} {l : Launch} {e : Env} {s : State} {m : MethodId} {args : Array Value} {below : List Frame} {meth : Method} {c : Code} {D : va_G} {ar : Nat → ClassId} {A : Nat → Prop} {Q : State → Prop} {fu : Nat} {a_this a_this_inside a_this_partOf a_this_sizeOf a_this_firstOf a_this_queue : Nat} {o_count : Int32} {o_parts : Int32} {o_firstOf : Nat → Int32} {o_partOf : Nat → Int32} {o_queue : Nat → Int32} {o_sizeOf : Nat → Int32} (C0 : CX p s m meth c args prog_8_method_5_code 4 none "FreeWavelets$Shape" D ar A) (x1 : Int32) (x2 : Int32) (s_count : Int32) (s_height : Int32) (s_parts : Int32) (s_width : Int32) (s_firstOf : Nat → Int32) (s_inside : Nat → Int32) (s_partOf : Nat → Int32) (s_queue : Nat → Int32) (s_sizeOf : Nat → Int32) (rec : Int32 → Int32 → Int32 → (Nat → Int32) → (Nat → Int32) → (Nat → Int32) → (Nat → Int32) → Option ((Int32 × Int32 × (Nat → Int32) × (Nat → Int32) × (Nat → Int32) × (Nat → Int32)))) (hrec : ∀ (x2 : Int32) (s_count : Int32) (s_parts : Int32) (s_firstOf : Nat → Int32) (s_partOf : Nat → Int32) (s_queue : Nat → Int32) (s_sizeOf : Nat → Int32), rec x2 s_count s_parts s_firstOf s_partOf s_queue s_sizeOf = some (o_count, o_parts, o_firstOf, o_partOf, o_queue, o_sizeOf) → WA p l e rm_Shape_findParts s m args below meth c D A 4 Q 30 [(a_this, .inr (7, [.ref a_this_inside, .ref a_this_partOf, .ref a_this_sizeOf, .ref a_this_firstOf, .int s_width, .int s_height, .int s_parts, .int s_count, .ref a_this_queue])), (a_this_firstOf, .inl (ar 0, 256, .inl s_firstOf)), (a_this_inside, .inl (ar 1, 256, .inl s_inside)), (a_this_partOf, .inl (ar 0, 256, .inl s_partOf)), (a_this_queue, .inl (ar 0, 256, .inl s_queue)), (a_this_sizeOf, .inl (ar 0, 256, .inl s_sizeOf))] [(0, .ref a_this), (1, .int x1), (2, .int x2)] []) (K1 : WA p l e rm_Shape_findParts s m args below meth c D A 4 Q 84 [(a_this, .inr (7, [.ref a_this_inside, .ref a_this_partOf, .ref a_this_sizeOf, .ref a_this_firstOf, .int s_width, .int s_height, .int o_parts, .int o_count, .ref a_this_queue])), (a_this_firstOf, .inl (ar 0, 256, .inl o_firstOf)), (a_this_inside, .inl (ar 1, 256, .inl s_inside)), (a_this_partOf, .inl (ar 0, 256, .inl o_partOf)), (a_this_queue, .inl (ar 0, 256, .inl o_queue)), (a_this_sizeOf, .inl (ar 0, 256, .inl o_sizeOf))] [(0, .ref a_this), (1, .int x1)] []) (h : m_Shape_findParts_b78 fu rec x1 x2 s_count s_height s_parts s_width s_firstOf s_inside s_partOf s_queue s_sizeOf = some (o_count, o_parts, o_firstOf, o_partOf, o_queue, o_sizeOf)) : WA p l e rm_Shape_findParts s m args below meth c D A 4 Q 78 [(a_this, .inr (7, [.ref a_this_inside, .ref a_this_partOf, .ref a_this_sizeOf, .ref a_this_firstOf, .int s_width, .int s_height, .int s_parts, .int s_count, .ref a_this_queue])), (a_this_firstOf, .inl (ar 0, 256, .inl s_firstOf)), (a_this_inside, .inl (ar 1, 256, .inl s_inside)), (a_this_partOf, .inl (ar 0, 256, .inl s_partOf)), (a_this_queue, .inl (ar 0, 256, .inl s_queue)), (a_this_sizeOf, .inl (ar 0, 256, .inl s_sizeOf))] [(0, .ref a_this), (1, .int x1), (2, .int x2)] [] := by
  intro H locs ls hP hD hS hl
  obtain ⟨hx, hb, hr, hml, hown, hts, hlocks, hA, hK, hZ⟩ := id C0
  unfold m_Shape_findParts_b78 at h
  obtain ⟨x2_7, e_x2_7⟩ : ∃ y : Int32, y = x2 + (1 : Int32) := ⟨_, rfl⟩
  have h := letB_at e_x2_7 h
  refine lv_iinc (v := x2_7) (lv' := [(2, .int x2_7), (0, .ref a_this), (1, .int x1)]) hx hb d_Shape_findParts_78 hl (k := 2) rfl (by rw [e_x2_7]; rfl) (by decide) rfl (fun ls hl => ?_)
  refine lv_goto (tgt := 30) hx hb d_Shape_findParts_81 (by decide) ?_
  exact hrec x2_7 s_count s_parts s_firstOf s_partOf s_queue s_sizeOf h _ _ _ hP hD hS (lv_sub hl [1, 2, 0] rfl)
def m_Shape_findParts_k30 (fu : Nat) (x1 : Int32) (s_height : Int32) (s_width : Int32) (s_inside : Nat → Int32) (rec : Int32 → Int32 → Int32 → (Nat → Int32) → (Nat → Int32) → (Nat → Int32) → (Nat → Int32) → Option ((Int32 × Int32 × (Nat → Int32) × (Nat → Int32) × (Nat → Int32) × (Nat → Int32)))) (x2 : Int32) (s_count : Int32) (s_parts : Int32) (s_firstOf : Nat → Int32) (s_partOf : Nat → Int32) (s_queue : Nat → Int32) (s_sizeOf : Nat → Int32) : Option ((Int32 × Int32 × (Nat → Int32) × (Nat → Int32) × (Nat → Int32) × (Nat → Int32))) :=
  if s_width ≤ x2 then (some (s_count, s_parts, s_firstOf, s_partOf, s_queue, s_sizeOf)) else (bn1 (m_FW_sampleOf fu x2 x1) (fun r_4 => chk r_4 256 (if (s_inside (r_4).toNatClampNeg) = (0 : Int32) then (m_Shape_findParts_b78 fu rec x1 x2 s_count s_height s_parts s_width s_firstOf s_inside s_partOf s_queue s_sizeOf) else (chk r_4 256 (if (s_partOf (r_4).toNatClampNeg) = (-1 : Int32) then (if (256 : Int32) ≤ s_parts then (m_Shape_findParts_b78 fu rec x1 x2 s_count s_height s_parts s_width s_firstOf s_inside s_partOf s_queue s_sizeOf) else (bn6 (m_Shape_spread fu r_4 s_count s_height s_parts s_width s_firstOf s_inside s_partOf s_queue s_sizeOf) (fun s_count_11 s_parts_12 s_firstOf_13 s_partOf_14 s_queue_15 s_sizeOf_16 => m_Shape_findParts_b78 fu rec x1 x2 s_count_11 s_height s_parts_12 s_width s_firstOf_13 s_inside s_partOf_14 s_queue_15 s_sizeOf_16))) else (m_Shape_findParts_b78 fu rec x1 x2 s_count s_height s_parts s_width s_firstOf s_inside s_partOf s_queue s_sizeOf))))))
set_option maxHeartbeats 4000000 in
set_option maxRecDepth 100000 in
theorem w_Shape_findParts_l30 {p : Program} {l : Launch} {e : Env} {s : State} {m : MethodId} {args : Array Value} {below : List Frame} {meth : Method} {c : Code} {D : va_G} {ar : Nat → ClassId} {A : Nat → Prop} {Q : State → Prop} {fu : Nat} {a_this a_this_inside a_this_partOf a_this_sizeOf a_this_firstOf a_this_queue : Nat} (C0 : CX p s m meth c args prog_8_method_5_code 4 none "FreeWavelets$Shape" D ar A) (x1 : Int32) (s_height : Int32) (s_width : Int32) (s_inside : Nat → Int32) : ∀ (n : Nat) (x2 : Int32) (s_count : Int32) (s_parts : Int32) (s_firstOf : Nat → Int32) (s_partOf : Nat → Int32) (s_queue : Nat → Int32) (s_sizeOf : Nat → Int32) (o_count : Int32) (o_parts : Int32) (o_firstOf : Nat → Int32) (o_partOf : Nat → Int32) (o_queue : Nat → Int32) (o_sizeOf : Nat → Int32), loop7 (m_Shape_findParts_k30 fu x1 s_height s_width s_inside) n x2 s_count s_parts s_firstOf s_partOf s_queue s_sizeOf = some (o_count, o_parts, o_firstOf, o_partOf, o_queue, o_sizeOf) → (WA p l e rm_Shape_findParts s m args below meth c D A 4 Q 84 [(a_this, .inr (7, [.ref a_this_inside, .ref a_this_partOf, .ref a_this_sizeOf, .ref a_this_firstOf, .int s_width, .int s_height, .int o_parts, .int o_count, .ref a_this_queue])), (a_this_firstOf, .inl (ar 0, 256, .inl o_firstOf)), (a_this_inside, .inl (ar 1, 256, .inl s_inside)), (a_this_partOf, .inl (ar 0, 256, .inl o_partOf)), (a_this_queue, .inl (ar 0, 256, .inl o_queue)), (a_this_sizeOf, .inl (ar 0, 256, .inl o_sizeOf))] [(0, .ref a_this), (1, .int x1)] []) → WA p l e rm_Shape_findParts s m args below meth c D A 4 Q 30 [(a_this, .inr (7, [.ref a_this_inside, .ref a_this_partOf, .ref a_this_sizeOf, .ref a_this_firstOf, .int s_width, .int s_height, .int s_parts, .int s_count, .ref a_this_queue])), (a_this_firstOf, .inl (ar 0, 256, .inl s_firstOf)), (a_this_inside, .inl (ar 1, 256, .inl s_inside)), (a_this_partOf, .inl (ar 0, 256, .inl s_partOf)), (a_this_queue, .inl (ar 0, 256, .inl s_queue)), (a_this_sizeOf, .inl (ar 0, 256, .inl s_sizeOf))] [(0, .ref a_this), (1, .int x1), (2, .int x2)] [] := by
  intro n
  induction n with
  | zero => intro x2 s_count s_parts s_firstOf s_partOf s_queue s_sizeOf o_count o_parts o_firstOf o_partOf o_queue o_sizeOf h; exact (no0 h).elim
  | succ n ih =>
    intro x2 s_count s_parts s_firstOf s_partOf s_queue s_sizeOf o_count o_parts o_firstOf o_partOf o_queue o_sizeOf h K1
    have hrec : ∀ (x2 : Int32) (s_count : Int32) (s_parts : Int32) (s_firstOf : Nat → Int32) (s_partOf : Nat → Int32) (s_queue : Nat → Int32) (s_sizeOf : Nat → Int32), loop7 (m_Shape_findParts_k30 fu x1 s_height s_width s_inside) n x2 s_count s_parts s_firstOf s_partOf s_queue s_sizeOf = some (o_count, o_parts, o_firstOf, o_partOf, o_queue, o_sizeOf) → WA p l e rm_Shape_findParts s m args below meth c D A 4 Q 30 [(a_this, .inr (7, [.ref a_this_inside, .ref a_this_partOf, .ref a_this_sizeOf, .ref a_this_firstOf, .int s_width, .int s_height, .int s_parts, .int s_count, .ref a_this_queue])), (a_this_firstOf, .inl (ar 0, 256, .inl s_firstOf)), (a_this_inside, .inl (ar 1, 256, .inl s_inside)), (a_this_partOf, .inl (ar 0, 256, .inl s_partOf)), (a_this_queue, .inl (ar 0, 256, .inl s_queue)), (a_this_sizeOf, .inl (ar 0, 256, .inl s_sizeOf))] [(0, .ref a_this), (1, .int x1), (2, .int x2)] [] := fun x2 s_count s_parts s_firstOf s_partOf s_queue s_sizeOf h => ih x2 s_count s_parts s_firstOf s_partOf s_queue s_sizeOf o_count o_parts o_firstOf o_partOf o_queue o_sizeOf h K1
    clear ih
    intro H locs ls hP hD hS hl
    obtain ⟨hx, hb, hr, hml, hown, hts, hlocks, hA, hK, hZ⟩ := id C0
    have h : m_Shape_findParts_k30 fu x1 s_height s_width s_inside (loop7 (m_Shape_findParts_k30 fu x1 s_height s_width s_inside) n) x2 s_count s_parts s_firstOf s_partOf s_queue s_sizeOf = some (o_count, o_parts, o_firstOf, o_partOf, o_queue, o_sizeOf) := h
    unfold m_Shape_findParts_k30 at h
    refine lv_iload_n hx hb d_Shape_findParts_30 rfl (lv_at hl 2 rfl) ?_
    refine lv_aload_n hx hb d_Shape_findParts_31 rfl (lv_at hl 0 rfl) ?_
    refine va_get (D := D) (ci := 7) (v := .int s_width) (C := R_Shape) (T := F_Shape) (N := 9) hx hb hts in_Shape hown hK hP 0 rfl rfl 4 (by decide) (hts _ k_81) (fun _ h9 => h9) rfl d_Shape_findParts_32 ?_
    refine lv_icmp_ge (tgt := 84) hx hb d_Shape_findParts_35 (by decide) (fun c_3 => ?_) (fun c_3 => ?_)
    · have h := Eq.trans (if_pos c_3).symm h
      cases h
      exact K1 _ _ _ hP hD hS (lv_sub hl [0, 1] rfl)
    · have h := Eq.trans (if_neg c_3).symm h
      refine lv_iload_n hx hb d_Shape_findParts_38 rfl (lv_at hl 2 rfl) ?_
      refine lv_iload_n hx hb d_Shape_findParts_39 rfl (lv_at hl 1 rfl) ?_
      obtain ⟨r_4, hcall, h⟩ := bn1_some h
      refine sd_i (wr := [(a_this, .inr (7, [.ref a_this_inside, .ref a_this_partOf, .ref a_this_sizeOf, .ref a_this_firstOf, .int s_width, .int s_height, .int s_parts, .int s_count, .ref a_this_queue])), (a_this_firstOf, .inl (ar 0, 256, .inl s_firstOf)), (a_this_inside, .inl (ar 1, 256, .inl s_inside)), (a_this_partOf, .inl (ar 0, 256, .inl s_partOf)), (a_this_queue, .inl (ar 0, 256, .inl s_queue)), (a_this_sizeOf, .inl (ar 0, 256, .inl s_sizeOf))]) (va_runSN (As := [.int x2, .int x1]) (rest := []) ⟨hx, hb, hml, hown, hts⟩ (c_FW_sampleOf 0 x2 x1 hcall _) (cw_SN 2 hts (hZ.nw k_275 rfl) k_276 k_29 k_277 rfl rfl (by decide +kernel) ⟨Nat.le_of_ble_eq_true rfl, Nat.le_of_ble_eq_true rfl⟩) (sd_preS hK hP hD hS hA hZ [] (by decide) rfl) rfl rfl hl.1 rfl (lv_room (Nat.le_of_ble_eq_true rfl)) d_Shape_findParts_40 ⟨Nat.le_of_ble_eq_true rfl, Nat.le_of_ble_eq_true rfl⟩) hP hD hS hA [] [0, 1, 2, 3, 4, 5] rfl rfl (by decide) (by decide) (fun H locs hP hD hS => ?_)
      have hP : va_P D vwCl [(a_this, .inr (7, [.ref a_this_inside, .ref a_this_partOf, .ref a_this_sizeOf, .ref a_this_firstOf, .int s_width, .int s_height, .int s_parts, .int s_count, .ref a_this_queue])), (a_this_firstOf, .inl (ar 0, 256, .inl s_firstOf)), (a_this_inside, .inl (ar 1, 256, .inl s_inside)), (a_this_partOf, .inl (ar 0, 256, .inl s_partOf)), (a_this_queue, .inl (ar 0, 256, .inl s_queue)), (a_this_sizeOf, .inl (ar 0, 256, .inl s_sizeOf))] H := hP
      have hD : va_D A [(a_this, .inr (7, [.ref a_this_inside, .ref a_this_partOf, .ref a_this_sizeOf, .ref a_this_firstOf, .int s_width, .int s_height, .int s_parts, .int s_count, .ref a_this_queue])), (a_this_firstOf, .inl (ar 0, 256, .inl s_firstOf)), (a_this_inside, .inl (ar 1, 256, .inl s_inside)), (a_this_partOf, .inl (ar 0, 256, .inl s_partOf)), (a_this_queue, .inl (ar 0, 256, .inl s_queue)), (a_this_sizeOf, .inl (ar 0, 256, .inl s_sizeOf))] := hD
      refine lv_istore_n (lv' := [(3, .int r_4), (0, .ref a_this), (1, .int x1), (2, .int x2)]) hx hb d_Shape_findParts_43 rfl hl (by decide) rfl (fun ls hl => ?_)
      refine lv_aload_n hx hb d_Shape_findParts_44 rfl (lv_at hl 1 rfl) ?_
      refine va_get (D := D) (ci := 7) (v := .ref a_this_inside) (C := R_Shape) (T := F_Shape) (N := 9) hx hb hts in_Shape hown hK hP 0 rfl rfl 0 (by decide) (hts _ k_70) (fun _ h9 => h9) rfl d_Shape_findParts_45 ?_
      refine lv_iload_n hx hb d_Shape_findParts_48 rfl (lv_at hl 0 rfl) ?_
      obtain ⟨b_5, h⟩ := chk_some h
      refine va_zald hx hb hK hP 2 1 rfl rfl b_5 d_Shape_findParts_49 ?_
      refine lv_if_eq (tgt := 78) hx hb d_Shape_findParts_50 (by decide) (fun c_6 => ?_) (fun c_6 => ?_)
      · have h := Eq.trans (if_pos c_6).symm h
        exact w_Shape_findParts_b78 C0 x1 x2 s_count s_height s_parts s_width s_firstOf s_inside s_partOf s_queue s_sizeOf _ hrec K1 h _ _ _ hP hD hS (lv_sub hl [1, 2, 3] rfl)
      · have h := Eq.trans (if_neg c_6).symm h
        refine lv_aload_n hx hb d_Shape_findParts_53 rfl (lv_at hl 1 rfl) ?_
        refine va_get (D := D) (ci := 7) (v := .ref a_this_partOf) (C := R_Shape) (T := F_Shape) (N := 9) hx hb hts in_Shape hown hK hP 0 rfl rfl 1 (by decide) (hts _ k_75) (fun _ h9 => h9) rfl d_Shape_findParts_54 ?_
        refine lv_iload_n hx hb d_Shape_findParts_57 rfl (lv_at hl 0 rfl) ?_
        obtain ⟨b_8, h⟩ := chk_some h
        refine va_iald hx hb hK hP 3 0 rfl rfl b_8 d_Shape_findParts_58 ?_
        refine lv_iconst (v := (-1 : Int32)) hx hb d_Shape_findParts_59 (by decide) ?_
        refine lv_icmp_ne (tgt := 78) hx hb d_Shape_findParts_60 (by decide) (fun c_9 => ?_) (fun c_9 => ?_)
        · have h := Eq.trans (if_neg c_9).symm h
          exact w_Shape_findParts_b78 C0 x1 x2 s_count s_height s_parts s_width s_firstOf s_inside s_partOf s_queue s_sizeOf _ hrec K1 h _ _ _ hP hD hS (lv_sub hl [1, 2, 3] rfl)
        · have h := Eq.trans (if_pos c_9).symm h
          refine lv_aload_n hx hb d_Shape_findParts_63 rfl (lv_at hl 1 rfl) ?_
          refine va_get (D := D) (ci := 7) (v := .int s_parts) (C := R_Shape) (T := F_Shape) (N := 9) hx hb hts in_Shape hown hK hP 0 rfl rfl 6 (by decide) (hts _ k_91) (fun _ h9 => h9) rfl d_Shape_findParts_64 ?_
          refine lv_sipush (v := (256 : Int32)) hx hb d_Shape_findParts_67 (by decide) ?_
          refine lv_icmp_ge (tgt := 78) hx hb d_Shape_findParts_70 (by decide) (fun c_10 => ?_) (fun c_10 => ?_)
          · have h := Eq.trans (if_pos c_10).symm h
            exact w_Shape_findParts_b78 C0 x1 x2 s_count s_height s_parts s_width s_firstOf s_inside s_partOf s_queue s_sizeOf _ hrec K1 h _ _ _ hP hD hS (lv_sub hl [1, 2, 3] rfl)
          · have h := Eq.trans (if_neg c_10).symm h
            refine lv_aload_n hx hb d_Shape_findParts_73 rfl (lv_at hl 1 rfl) ?_
            refine lv_iload_n hx hb d_Shape_findParts_74 rfl (lv_at hl 0 rfl) ?_
            obtain ⟨s_count_11, s_parts_12, s_firstOf_13, s_partOf_14, s_queue_15, s_sizeOf_16, hcall, h⟩ := bn6_some h
            refine sd_v (wr := []) (va_runV (As := [.int r_4]) (rest := []) ⟨hx, hb, hml, hown, hts⟩ (c_Shape_spread a_this a_this_inside a_this_partOf a_this_sizeOf a_this_firstOf a_this_queue r_4 s_count s_height s_parts s_width s_firstOf s_inside s_partOf s_queue s_sizeOf hcall _) (cw_V 1 hts k_278 k_280 k_0 k_31 k_281 rfl rfl (by decide +kernel) ⟨Nat.le_of_ble_eq_true rfl, Nat.le_of_ble_eq_true rfl⟩) (sd_preV hK hP hD hS hA hZ [0, 1, 2, 3, 4, 5] (by decide) rfl (va_recv hK hP (ci := 7) (q0 := 0) rfl rfl)) rfl rfl hl.1 rfl (lv_room (Nat.le_of_ble_eq_true rfl)) d_Shape_findParts_75 ⟨Nat.le_of_ble_eq_true rfl, Nat.le_of_ble_eq_true rfl⟩) hP hD hS hA [0, 1, 2, 3, 4, 5] [] rfl rfl (by decide) (by decide) (fun H locs hP hD hS => ?_)
            have hP : va_P D vwCl [(a_this, .inr (7, [.ref a_this_inside, .ref a_this_partOf, .ref a_this_sizeOf, .ref a_this_firstOf, .int s_width, .int s_height, .int s_parts_12, .int s_count_11, .ref a_this_queue])), (a_this_firstOf, .inl (ar 0, 256, .inl s_firstOf_13)), (a_this_inside, .inl (ar 1, 256, .inl s_inside)), (a_this_partOf, .inl (ar 0, 256, .inl s_partOf_14)), (a_this_queue, .inl (ar 0, 256, .inl s_queue_15)), (a_this_sizeOf, .inl (ar 0, 256, .inl s_sizeOf_16))] H := hP
            have hD : va_D A [(a_this, .inr (7, [.ref a_this_inside, .ref a_this_partOf, .ref a_this_sizeOf, .ref a_this_firstOf, .int s_width, .int s_height, .int s_parts_12, .int s_count_11, .ref a_this_queue])), (a_this_firstOf, .inl (ar 0, 256, .inl s_firstOf_13)), (a_this_inside, .inl (ar 1, 256, .inl s_inside)), (a_this_partOf, .inl (ar 0, 256, .inl s_partOf_14)), (a_this_queue, .inl (ar 0, 256, .inl s_queue_15)), (a_this_sizeOf, .inl (ar 0, 256, .inl s_sizeOf_16))] := hD
            exact w_Shape_findParts_b78 C0 x1 x2 s_count_11 s_height s_parts_12 s_width s_firstOf_13 s_inside s_partOf_14 s_queue_15 s_sizeOf_16 _ hrec K1 h _ _ _ hP hD hS (lv_sub hl [1, 2, 3] rfl)
def m_Shape_findParts_k20 (fu : Nat) (s_height : Int32) (s_width : Int32) (s_inside : Nat → Int32) (rec : Int32 → Int32 → Int32 → (Nat → Int32) → (Nat → Int32) → (Nat → Int32) → (Nat → Int32) → Option ((Int32 × Int32 × (Nat → Int32) × (Nat → Int32) × (Nat → Int32) × (Nat → Int32)))) (x1 : Int32) (s_count : Int32) (s_parts : Int32) (s_firstOf : Nat → Int32) (s_partOf : Nat → Int32) (s_queue : Nat → Int32) (s_sizeOf : Nat → Int32) : Option ((Int32 × Int32 × (Nat → Int32) × (Nat → Int32) × (Nat → Int32) × (Nat → Int32))) :=
  if s_height ≤ x1 then (some (s_count, s_parts, s_firstOf, s_partOf, s_queue, s_sizeOf)) else (bn6 (loop7 (m_Shape_findParts_k30 fu x1 s_height s_width s_inside) fu (0 : Int32) s_count s_parts s_firstOf s_partOf s_queue s_sizeOf) (fun o_count_17 o_parts_18 o_firstOf_19 o_partOf_20 o_queue_21 o_sizeOf_22 => letB (x1 + (1 : Int32)) (fun x1_23 => rec x1_23 o_count_17 o_parts_18 o_firstOf_19 o_partOf_20 o_queue_21 o_sizeOf_22)))
set_option maxHeartbeats 4000000 in
set_option maxRecDepth 100000 in
theorem w_Shape_findParts_l20 {p : Program} {l : Launch} {e : Env} {s : State} {m : MethodId} {args : Array Value} {below : List Frame} {meth : Method} {c : Code} {D : va_G} {ar : Nat → ClassId} {A : Nat → Prop} {Q : State → Prop} {fu : Nat} {a_this a_this_inside a_this_partOf a_this_sizeOf a_this_firstOf a_this_queue : Nat} (C0 : CX p s m meth c args prog_8_method_5_code 4 none "FreeWavelets$Shape" D ar A) (s_height : Int32) (s_width : Int32) (s_inside : Nat → Int32) : ∀ (n : Nat) (x1 : Int32) (s_count : Int32) (s_parts : Int32) (s_firstOf : Nat → Int32) (s_partOf : Nat → Int32) (s_queue : Nat → Int32) (s_sizeOf : Nat → Int32) (o_count : Int32) (o_parts : Int32) (o_firstOf : Nat → Int32) (o_partOf : Nat → Int32) (o_queue : Nat → Int32) (o_sizeOf : Nat → Int32), loop7 (m_Shape_findParts_k20 fu s_height s_width s_inside) n x1 s_count s_parts s_firstOf s_partOf s_queue s_sizeOf = some (o_count, o_parts, o_firstOf, o_partOf, o_queue, o_sizeOf) → (WA p l e rm_Shape_findParts s m args below meth c D A 4 Q 90 [(a_this, .inr (7, [.ref a_this_inside, .ref a_this_partOf, .ref a_this_sizeOf, .ref a_this_firstOf, .int s_width, .int s_height, .int o_parts, .int o_count, .ref a_this_queue])), (a_this_firstOf, .inl (ar 0, 256, .inl o_firstOf)), (a_this_inside, .inl (ar 1, 256, .inl s_inside)), (a_this_partOf, .inl (ar 0, 256, .inl o_partOf)), (a_this_queue, .inl (ar 0, 256, .inl o_queue)), (a_this_sizeOf, .inl (ar 0, 256, .inl o_sizeOf))] [] []) → WA p l e rm_Shape_findParts s m args below meth c D A 4 Q 20 [(a_this, .inr (7, [.ref a_this_inside, .ref a_this_partOf, .ref a_this_sizeOf, .ref a_this_firstOf, .int s_width, .int s_height, .int s_parts, .int s_count, .ref a_this_queue])), (a_this_firstOf, .inl (ar 0, 256, .inl s_firstOf)), (a_this_inside, .inl (ar 1, 256, .inl s_inside)), (a_this_partOf, .inl (ar 0, 256, .inl s_partOf)), (a_this_queue, .inl (ar 0, 256, .inl s_queue)), (a_this_sizeOf, .inl (ar 0, 256, .inl s_sizeOf))] [(0, .ref a_this), (1, .int x1)] [] := by
  intro n
  induction n with
  | zero => intro x1 s_count s_parts s_firstOf s_partOf s_queue s_sizeOf o_count o_parts o_firstOf o_partOf o_queue o_sizeOf h; exact (no0 h).elim
  | succ n ih =>
    intro x1 s_count s_parts s_firstOf s_partOf s_queue s_sizeOf o_count o_parts o_firstOf o_partOf o_queue o_sizeOf h K1
    have hrec : ∀ (x1 : Int32) (s_count : Int32) (s_parts : Int32) (s_firstOf : Nat → Int32) (s_partOf : Nat → Int32) (s_queue : Nat → Int32) (s_sizeOf : Nat → Int32), loop7 (m_Shape_findParts_k20 fu s_height s_width s_inside) n x1 s_count s_parts s_firstOf s_partOf s_queue s_sizeOf = some (o_count, o_parts, o_firstOf, o_partOf, o_queue, o_sizeOf) → WA p l e rm_Shape_findParts s m args below meth c D A 4 Q 20 [(a_this, .inr (7, [.ref a_this_inside, .ref a_this_partOf, .ref a_this_sizeOf, .ref a_this_firstOf, .int s_width, .int s_height, .int s_parts, .int s_count, .ref a_this_queue])), (a_this_firstOf, .inl (ar 0, 256, .inl s_firstOf)), (a_this_inside, .inl (ar 1, 256, .inl s_inside)), (a_this_partOf, .inl (ar 0, 256, .inl s_partOf)), (a_this_queue, .inl (ar 0, 256, .inl s_queue)), (a_this_sizeOf, .inl (ar 0, 256, .inl s_sizeOf))] [(0, .ref a_this), (1, .int x1)] [] := fun x1 s_count s_parts s_firstOf s_partOf s_queue s_sizeOf h => ih x1 s_count s_parts s_firstOf s_partOf s_queue s_sizeOf o_count o_parts o_firstOf o_partOf o_queue o_sizeOf h K1
    clear ih
    intro H locs ls hP hD hS hl
    obtain ⟨hx, hb, hr, hml, hown, hts, hlocks, hA, hK, hZ⟩ := id C0
    have h : m_Shape_findParts_k20 fu s_height s_width s_inside (loop7 (m_Shape_findParts_k20 fu s_height s_width s_inside) n) x1 s_count s_parts s_firstOf s_partOf s_queue s_sizeOf = some (o_count, o_parts, o_firstOf, o_partOf, o_queue, o_sizeOf) := h
    unfold m_Shape_findParts_k20 at h
    refine lv_iload_n hx hb d_Shape_findParts_20 rfl (lv_at hl 1 rfl) ?_
    refine lv_aload_n hx hb d_Shape_findParts_21 rfl (lv_at hl 0 rfl) ?_
    refine va_get (D := D) (ci := 7) (v := .int s_height) (C := R_Shape) (T := F_Shape) (N := 9) hx hb hts in_Shape hown hK hP 0 rfl rfl 5 (by decide) (hts _ k_86) (fun _ h9 => h9) rfl d_Shape_findParts_22 ?_
    refine lv_icmp_ge (tgt := 90) hx hb d_Shape_findParts_25 (by decide) (fun c_2 => ?_) (fun c_2 => ?_)
    · have h := Eq.trans (if_pos c_2).symm h
      cases h
      exact K1 _ _ _ hP hD hS (lv_sub hl [] rfl)
    · have h := Eq.trans (if_neg c_2).symm h
      refine lv_iconst (v := (0 : Int32)) hx hb d_Shape_findParts_28 (by decide) ?_
      refine lv_istore_n (lv' := [(2, .int (0 : Int32)), (0, .ref a_this), (1, .int x1)]) hx hb d_Shape_findParts_29 rfl hl (by decide) rfl (fun ls hl => ?_)
      obtain ⟨o_count_17, o_parts_18, o_firstOf_19, o_partOf_20, o_queue_21, o_sizeOf_22, hloop, h⟩ := bn6_some h
      refine w_Shape_findParts_l30 C0 x1 s_height s_width s_inside fu (0 : Int32) s_count s_parts s_firstOf s_partOf s_queue s_sizeOf _ _ _ _ _ _ hloop ?_ _ _ _ hP hD hS (lv_sub hl [1, 2, 0] rfl)
      clear hP hD hS hl hloop
      intro H locs ls hP hD hS hl
      obtain ⟨x1_23, e_x1_23⟩ : ∃ y : Int32, y = x1 + (1 : Int32) := ⟨_, rfl⟩
      have h := letB_at e_x1_23 h
      refine lv_iinc (v := x1_23) (lv' := [(1, .int x1_23), (0, .ref a_this)]) hx hb d_Shape_findParts_84 hl (k := 1) rfl (by rw [e_x1_23]; rfl) (by decide) rfl (fun ls hl => ?_)
      refine lv_goto (tgt := 20) hx hb d_Shape_findParts_87 (by decide) ?_
      exact hrec x1_23 o_count_17 o_parts_18 o_firstOf_19 o_partOf_20 o_queue_21 o_sizeOf_22 h _ _ _ hP hD hS (lv_sub hl [1, 0] rfl)
def m_Shape_findParts (fu : Nat) (s_count : Int32) (s_height : Int32) (s_parts : Int32) (s_width : Int32) (s_firstOf : Nat → Int32) (s_inside : Nat → Int32) (s_partOf : Nat → Int32) (s_queue : Nat → Int32) (s_sizeOf : Nat → Int32) : Option (Int32 × Int32 × (Nat → Int32) × (Nat → Int32) × (Nat → Int32) × (Nat → Int32)) :=
  bn1 (m_Arrays_fill fu 256 (-1 : Int32) s_partOf) (fun s_partOf_1 => bn6 (loop7 (m_Shape_findParts_k20 fu s_height s_width s_inside) fu (0 : Int32) (0 : Int32) (0 : Int32) s_firstOf s_partOf_1 s_queue s_sizeOf) (fun o_count_24 o_parts_25 o_firstOf_26 o_partOf_27 o_queue_28 o_sizeOf_29 => some (o_count_24, o_parts_25, o_firstOf_26, o_partOf_27, o_queue_28, o_sizeOf_29)))
set_option maxHeartbeats 4000000 in
set_option maxRecDepth 100000 in
theorem c_Shape_findParts {l : Launch} {D : va_G} {ar : Nat → ClassId} {fu : Nat} (a_this a_this_inside a_this_partOf a_this_sizeOf a_this_firstOf a_this_queue : Nat) (s_count : Int32) (s_height : Int32) (s_parts : Int32) (s_width : Int32) (s_firstOf : Nat → Int32) (s_inside : Nat → Int32) (s_partOf : Nat → Int32) (s_queue : Nat → Int32) (s_sizeOf : Nat → Int32) {r_count : Int32} {r_parts : Int32} {r_firstOf : Nat → Int32} {r_partOf : Nat → Int32} {r_queue : Nat → Int32} {r_sizeOf : Nat → Int32} (h : m_Shape_findParts fu s_count s_height s_parts s_width s_firstOf s_inside s_partOf s_queue s_sizeOf = some (r_count, r_parts, r_firstOf, r_partOf, r_queue, r_sizeOf)) : StdV l y_Shape_findParts ws_Shape_findParts rm_Shape_findParts D ar [.ref a_this] [(a_this, .inr (7, [.ref a_this_inside, .ref a_this_partOf, .ref a_this_sizeOf, .ref a_this_firstOf, .int s_width, .int s_height, .int s_parts, .int s_count, .ref a_this_queue])), (a_this_firstOf, .inl (ar 0, 256, .inl s_firstOf)), (a_this_inside, .inl (ar 1, 256, .inl s_inside)), (a_this_partOf, .inl (ar 0, 256, .inl s_partOf)), (a_this_queue, .inl (ar 0, 256, .inl s_queue)), (a_this_sizeOf, .inl (ar 0, 256, .inl s_sizeOf))] [(a_this, .inr (7, [.ref a_this_inside, .ref a_this_partOf, .ref a_this_sizeOf, .ref a_this_firstOf, .int s_width, .int s_height, .int r_parts, .int r_count, .ref a_this_queue])), (a_this_firstOf, .inl (ar 0, 256, .inl r_firstOf)), (a_this_inside, .inl (ar 1, 256, .inl s_inside)), (a_this_partOf, .inl (ar 0, 256, .inl r_partOf)), (a_this_queue, .inl (ar 0, 256, .inl r_queue)), (a_this_sizeOf, .inl (ar 0, 256, .inl r_sizeOf))] := by
  refine sd_metV (cc := prog_8_method_5_code) (maxL := 4) (ret := none) (own := "FreeWavelets$Shape") (by decide) rfl rfl (Nat.le_of_ble_eq_true rfl) ?_
  intro p e s m below meth c A ls C0 hP hD hl
  obtain ⟨hx, hb, hr, hml, hown, hts, hlocks, hA, hK, hZ⟩ := id C0
  have hS : va_S A s.heap s.heap [] := va_S.rf
  have hl : lv_has ls 4 [(0, .ref a_this)] := hl
  unfold m_Shape_findParts at h
  refine lv_aload_n hx hb d_Shape_findParts_0 rfl (lv_at hl 0 rfl) ?_
  refine va_get (D := D) (ci := 7) (v := .ref a_this_partOf) (C := R_Shape) (T := F_Shape) (N := 9) hx hb hts in_Shape hown hK hP 0 rfl rfl 1 (by decide) (hts _ k_75) (fun _ h9 => h9) rfl d_Shape_findParts_1 ?_
  refine lv_iconst (v := (-1 : Int32)) hx hb d_Shape_findParts_4 (by decide) ?_
  obtain ⟨s_partOf_1, hcall, h⟩ := bn1_some h
  refine sd_v (wr := [(a_this, .inr (7, [.ref a_this_inside, .ref a_this_partOf, .ref a_this_sizeOf, .ref a_this_firstOf, .int s_width, .int s_height, .int s_parts, .int s_count, .ref a_this_queue])), (a_this_firstOf, .inl (ar 0, 256, .inl s_firstOf)), (a_this_inside, .inl (ar 1, 256, .inl s_inside)), (a_this_queue, .inl (ar 0, 256, .inl s_queue)), (a_this_sizeOf, .inl (ar 0, 256, .inl s_sizeOf))]) (va_runS (As := [.ref a_this_partOf, .int (-1 : Int32)]) (rest := []) ⟨hx, hb, hml, hown, hts⟩ (c_Arrays_fill a_this_partOf (-1 : Int32) s_partOf hcall _) (cw_S 2 hts k_272 k_273 k_39 k_274 rfl rfl (by decide +kernel) ⟨Nat.le_of_ble_eq_true rfl, Nat.le_of_ble_eq_true rfl⟩) (sd_preS hK hP hD hS hA hZ [3] (by decide) rfl) rfl rfl hl.1 rfl (lv_room (Nat.le_of_ble_eq_true rfl)) d_Shape_findParts_5 ⟨Nat.le_of_ble_eq_true rfl, Nat.le_of_ble_eq_true rfl⟩) hP hD hS hA [3] [0, 1, 2, 4, 5] rfl rfl (by decide) (by decide) (fun H locs hP hD hS => ?_)
  have hP : va_P D vwCl [(a_this, .inr (7, [.ref a_this_inside, .ref a_this_partOf, .ref a_this_sizeOf, .ref a_this_firstOf, .int s_width, .int s_height, .int s_parts, .int s_count, .ref a_this_queue])), (a_this_firstOf, .inl (ar 0, 256, .inl s_firstOf)), (a_this_inside, .inl (ar 1, 256, .inl s_inside)), (a_this_queue, .inl (ar 0, 256, .inl s_queue)), (a_this_sizeOf, .inl (ar 0, 256, .inl s_sizeOf)), (a_this_partOf, .inl (ar 0, 256, .inl s_partOf_1))] H := hP
  have hD : va_D A [(a_this, .inr (7, [.ref a_this_inside, .ref a_this_partOf, .ref a_this_sizeOf, .ref a_this_firstOf, .int s_width, .int s_height, .int s_parts, .int s_count, .ref a_this_queue])), (a_this_firstOf, .inl (ar 0, 256, .inl s_firstOf)), (a_this_inside, .inl (ar 1, 256, .inl s_inside)), (a_this_queue, .inl (ar 0, 256, .inl s_queue)), (a_this_sizeOf, .inl (ar 0, 256, .inl s_sizeOf)), (a_this_partOf, .inl (ar 0, 256, .inl s_partOf_1))] := hD
  refine lv_aload_n hx hb d_Shape_findParts_8 rfl (lv_at hl 0 rfl) ?_
  refine lv_iconst (v := (0 : Int32)) hx hb d_Shape_findParts_9 (by decide) ?_
  refine va_put (D := D) (ci := 7) (v := .int (0 : Int32)) (ty := .int) (C := R_Shape) (T := F_Shape) (N := 9) hx hb hts in_Shape t_Shape t_Shape_ok n_Shape hown hK hP hD hS 0 rfl rfl 6 (by decide) (hts _ k_91) (fun _ h9 => h9) rfl (by decide +kernel) rfl rfl (Nat.le_of_ble_eq_true rfl) d_Shape_findParts_10 (fun H locs hP hD hS => ?_)
  have hP : va_P D vwCl [(a_this, .inr (7, [.ref a_this_inside, .ref a_this_partOf, .ref a_this_sizeOf, .ref a_this_firstOf, .int s_width, .int s_height, .int (0 : Int32), .int s_count, .ref a_this_queue])), (a_this_firstOf, .inl (ar 0, 256, .inl s_firstOf)), (a_this_inside, .inl (ar 1, 256, .inl s_inside)), (a_this_queue, .inl (ar 0, 256, .inl s_queue)), (a_this_sizeOf, .inl (ar 0, 256, .inl s_sizeOf)), (a_this_partOf, .inl (ar 0, 256, .inl s_partOf_1))] H := hP
  have hD : va_D A [(a_this, .inr (7, [.ref a_this_inside, .ref a_this_partOf, .ref a_this_sizeOf, .ref a_this_firstOf, .int s_width, .int s_height, .int (0 : Int32), .int s_count, .ref a_this_queue])), (a_this_firstOf, .inl (ar 0, 256, .inl s_firstOf)), (a_this_inside, .inl (ar 1, 256, .inl s_inside)), (a_this_queue, .inl (ar 0, 256, .inl s_queue)), (a_this_sizeOf, .inl (ar 0, 256, .inl s_sizeOf)), (a_this_partOf, .inl (ar 0, 256, .inl s_partOf_1))] := hD
  refine lv_aload_n hx hb d_Shape_findParts_13 rfl (lv_at hl 0 rfl) ?_
  refine lv_iconst (v := (0 : Int32)) hx hb d_Shape_findParts_14 (by decide) ?_
  refine va_put (D := D) (ci := 7) (v := .int (0 : Int32)) (ty := .int) (C := R_Shape) (T := F_Shape) (N := 9) hx hb hts in_Shape t_Shape t_Shape_ok n_Shape hown hK hP hD hS 0 rfl rfl 7 (by decide) (hts _ k_93) (fun _ h9 => h9) rfl (by decide +kernel) rfl rfl (Nat.le_of_ble_eq_true rfl) d_Shape_findParts_15 (fun H locs hP hD hS => ?_)
  have hP : va_P D vwCl [(a_this, .inr (7, [.ref a_this_inside, .ref a_this_partOf, .ref a_this_sizeOf, .ref a_this_firstOf, .int s_width, .int s_height, .int (0 : Int32), .int (0 : Int32), .ref a_this_queue])), (a_this_firstOf, .inl (ar 0, 256, .inl s_firstOf)), (a_this_inside, .inl (ar 1, 256, .inl s_inside)), (a_this_queue, .inl (ar 0, 256, .inl s_queue)), (a_this_sizeOf, .inl (ar 0, 256, .inl s_sizeOf)), (a_this_partOf, .inl (ar 0, 256, .inl s_partOf_1))] H := hP
  have hD : va_D A [(a_this, .inr (7, [.ref a_this_inside, .ref a_this_partOf, .ref a_this_sizeOf, .ref a_this_firstOf, .int s_width, .int s_height, .int (0 : Int32), .int (0 : Int32), .ref a_this_queue])), (a_this_firstOf, .inl (ar 0, 256, .inl s_firstOf)), (a_this_inside, .inl (ar 1, 256, .inl s_inside)), (a_this_queue, .inl (ar 0, 256, .inl s_queue)), (a_this_sizeOf, .inl (ar 0, 256, .inl s_sizeOf)), (a_this_partOf, .inl (ar 0, 256, .inl s_partOf_1))] := hD
  refine lv_iconst (v := (0 : Int32)) hx hb d_Shape_findParts_18 (by decide) ?_
  refine lv_istore_n (lv' := [(1, .int (0 : Int32)), (0, .ref a_this)]) hx hb d_Shape_findParts_19 rfl hl (by decide) rfl (fun ls hl => ?_)
  obtain ⟨o_count_24, o_parts_25, o_firstOf_26, o_partOf_27, o_queue_28, o_sizeOf_29, hloop, h⟩ := bn6_some h
  refine w_Shape_findParts_l20 C0 s_height s_width s_inside fu (0 : Int32) (0 : Int32) (0 : Int32) s_firstOf s_partOf_1 s_queue s_sizeOf _ _ _ _ _ _ hloop ?_ _ _ _ (hP.sub [0, 1, 2, 5, 3, 4] rfl) (hD.sub [0, 1, 2, 5, 3, 4] (by decide) rfl) hS (lv_sub hl [1, 0] rfl)
  clear hP hD hS hl hloop
  intro H locs ls hP hD hS hl
  cases h
  exact sd_vret hx hb hr hlocks hP hD hK hS d_Shape_findParts_90
abbrev rm_Shape_resize : Room := { frames := 3, cells := 0, slots := 0, locals := 71 }
def m_Shape_resize_k12 (fu : Nat) (s_count : Int32) (s_height : Int32) (s_parts : Int32) (s_width : Int32) (s_firstOf : Nat → Int32) (s_partOf : Nat → Int32) (s_queue : Nat → Int32) (s_sizeOf : Nat → Int32) (rec : Int32 → (Nat → Int32) → Option (((Nat → Int32)))) (x3 : Int32) (s_inside : Nat → Int32) : Option (((Nat → Int32))) :=
  if (256 : Int32) ≤ x3 then (some s_inside) else (chk x3 256 (letB (x3 + (1 : Int32)) (fun x3_3 => rec x3_3 (upd s_inside (x3).toNatClampNeg (vp_nar .boolean (0 : Int32))))))
set_option maxHeartbeats 4000000 in
set_option maxRecDepth 100000 in
theorem w_Shape_resize_l12 {p : Program} {l : Launch} {e : Env} {s : State} {m : MethodId} {args : Array Value} {below : List Frame} {meth : Method} {c : Code} {D : va_G} {ar : Nat → ClassId} {A : Nat → Prop} {Q : State → Prop} {fu : Nat} {a_this a_this_inside a_this_partOf a_this_sizeOf a_this_firstOf a_this_queue : Nat} (C0 : CX p s m meth c args prog_8_method_2_code 4 none "FreeWavelets$Shape" D ar A) (s_count : Int32) (s_height : Int32) (s_parts : Int32) (s_width : Int32) (s_firstOf : Nat → Int32) (s_partOf : Nat → Int32) (s_queue : Nat → Int32) (s_sizeOf : Nat → Int32) : ∀ (n : Nat) (x3 : Int32) (s_inside : Nat → Int32) (o_inside : Nat → Int32), loop2 (m_Shape_resize_k12 fu s_count s_height s_parts s_width s_firstOf s_partOf s_queue s_sizeOf) n x3 s_inside = some o_inside → (WA p l e rm_Shape_resize s m args below meth c D A 4 Q 32 [(a_this, .inr (7, [.ref a_this_inside, .ref a_this_partOf, .ref a_this_sizeOf, .ref a_this_firstOf, .int s_width, .int s_height, .int s_parts, .int s_count, .ref a_this_queue])), (a_this_firstOf, .inl (ar 0, 256, .inl s_firstOf)), (a_this_inside, .inl (ar 1, 256, .inl o_inside)), (a_this_partOf, .inl (ar 0, 256, .inl s_partOf)), (a_this_queue, .inl (ar 0, 256, .inl s_queue)), (a_this_sizeOf, .inl (ar 0, 256, .inl s_sizeOf))] [(0, .ref a_this)] []) → WA p l e rm_Shape_resize s m args below meth c D A 4 Q 12 [(a_this, .inr (7, [.ref a_this_inside, .ref a_this_partOf, .ref a_this_sizeOf, .ref a_this_firstOf, .int s_width, .int s_height, .int s_parts, .int s_count, .ref a_this_queue])), (a_this_firstOf, .inl (ar 0, 256, .inl s_firstOf)), (a_this_inside, .inl (ar 1, 256, .inl s_inside)), (a_this_partOf, .inl (ar 0, 256, .inl s_partOf)), (a_this_queue, .inl (ar 0, 256, .inl s_queue)), (a_this_sizeOf, .inl (ar 0, 256, .inl s_sizeOf))] [(0, .ref a_this), (3, .int x3)] [] := by
  intro n
  induction n with
  | zero => intro x3 s_inside o_inside h; exact (no0 h).elim
  | succ n ih =>
    intro x3 s_inside o_inside h K1
    have hrec : ∀ (x3 : Int32) (s_inside : Nat → Int32), loop2 (m_Shape_resize_k12 fu s_count s_height s_parts s_width s_firstOf s_partOf s_queue s_sizeOf) n x3 s_inside = some o_inside → WA p l e rm_Shape_resize s m args below meth c D A 4 Q 12 [(a_this, .inr (7, [.ref a_this_inside, .ref a_this_partOf, .ref a_this_sizeOf, .ref a_this_firstOf, .int s_width, .int s_height, .int s_parts, .int s_count, .ref a_this_queue])), (a_this_firstOf, .inl (ar 0, 256, .inl s_firstOf)), (a_this_inside, .inl (ar 1, 256, .inl s_inside)), (a_this_partOf, .inl (ar 0, 256, .inl s_partOf)), (a_this_queue, .inl (ar 0, 256, .inl s_queue)), (a_this_sizeOf, .inl (ar 0, 256, .inl s_sizeOf))] [(0, .ref a_this), (3, .int x3)] [] := fun x3 s_inside h => ih x3 s_inside o_inside h K1
    clear ih
    intro H locs ls hP hD hS hl
    obtain ⟨hx, hb, hr, hml, hown, hts, hlocks, hA, hK, hZ⟩ := id C0
    have h : m_Shape_resize_k12 fu s_count s_height s_parts s_width s_firstOf s_partOf s_queue s_sizeOf (loop2 (m_Shape_resize_k12 fu s_count s_height s_parts s_width s_firstOf s_partOf s_queue s_sizeOf) n) x3 s_inside = some o_inside := h
    unfold m_Shape_resize_k12 at h
    refine lv_iload_n hx hb d_Shape_resize_12 rfl (lv_at hl 1 rfl) ?_
    refine lv_sipush (v := (256 : Int32)) hx hb d_Shape_resize_13 (by decide) ?_
    refine lv_icmp_ge (tgt := 32) hx hb d_Shape_resize_16 (by decide) (fun c_1 => ?_) (fun c_1 => ?_)
    · have h := Eq.trans (if_pos c_1).symm h
      cases h
      exact K1 _ _ _ hP hD hS (lv_sub hl [0] rfl)
    · have h := Eq.trans (if_neg c_1).symm h
      refine lv_aload_n hx hb d_Shape_resize_19 rfl (lv_at hl 0 rfl) ?_
      refine va_get (D := D) (ci := 7) (v := .ref a_this_inside) (C := R_Shape) (T := F_Shape) (N := 9) hx hb hts in_Shape hown hK hP 0 rfl rfl 0 (by decide) (hts _ k_70) (fun _ h9 => h9) rfl d_Shape_resize_20 ?_
      refine lv_iload_n hx hb d_Shape_resize_23 rfl (lv_at hl 1 rfl) ?_
      refine lv_iconst (v := (0 : Int32)) hx hb d_Shape_resize_24 (by decide) ?_
      obtain ⟨b_2, h⟩ := chk_some h
      refine va_zast hx hb hK hP hD hS 2 1 rfl rfl b_2 d_Shape_resize_25 (fun H locs hP hD hS => ?_)
      have hP : va_P D vwCl [(a_this, .inr (7, [.ref a_this_inside, .ref a_this_partOf, .ref a_this_sizeOf, .ref a_this_firstOf, .int s_width, .int s_height, .int s_parts, .int s_count, .ref a_this_queue])), (a_this_firstOf, .inl (ar 0, 256, .inl s_firstOf)), (a_this_inside, .inl (ar 1, 256, .inl (upd s_inside (x3).toNatClampNeg (vp_nar .boolean (0 : Int32))))), (a_this_partOf, .inl (ar 0, 256, .inl s_partOf)), (a_this_queue, .inl (ar 0, 256, .inl s_queue)), (a_this_sizeOf, .inl (ar 0, 256, .inl s_sizeOf))] H := hP
      have hD : va_D A [(a_this, .inr (7, [.ref a_this_inside, .ref a_this_partOf, .ref a_this_sizeOf, .ref a_this_firstOf, .int s_width, .int s_height, .int s_parts, .int s_count, .ref a_this_queue])), (a_this_firstOf, .inl (ar 0, 256, .inl s_firstOf)), (a_this_inside, .inl (ar 1, 256, .inl (upd s_inside (x3).toNatClampNeg (vp_nar .boolean (0 : Int32))))), (a_this_partOf, .inl (ar 0, 256, .inl s_partOf)), (a_this_queue, .inl (ar 0, 256, .inl s_queue)), (a_this_sizeOf, .inl (ar 0, 256, .inl s_sizeOf))] := hD
      obtain ⟨x3_3, e_x3_3⟩ : ∃ y : Int32, y = x3 + (1 : Int32) := ⟨_, rfl⟩
      have h := letB_at e_x3_3 h
      refine lv_iinc (v := x3_3) (lv' := [(3, .int x3_3), (0, .ref a_this)]) hx hb d_Shape_resize_26 hl (k := 1) rfl (by rw [e_x3_3]; rfl) (by decide) rfl (fun ls hl => ?_)
      refine lv_goto (tgt := 12) hx hb d_Shape_resize_29 (by decide) ?_
      exact hrec x3_3 (upd s_inside (x3).toNatClampNeg (vp_nar .boolean (0 : Int32))) h _ _ _ hP hD hS (lv_sub hl [1, 0] rfl)
def m_Shape_resize (fu : Nat) (x1 : Int32) (x2 : Int32) (s_count : Int32) (s_height : Int32) (s_parts : Int32) (s_width : Int32) (s_firstOf : Nat → Int32) (s_inside : Nat → Int32) (s_partOf : Nat → Int32) (s_queue : Nat → Int32) (s_sizeOf : Nat → Int32) : Option (Int32 × Int32 × Int32 × Int32 × (Nat → Int32) × (Nat → Int32) × (Nat → Int32) × (Nat → Int32) × (Nat → Int32)) :=
  bn1 (loop2 (m_Shape_resize_k12 fu s_count x2 s_parts x1 s_firstOf s_partOf s_queue s_sizeOf) fu (0 : Int32) s_inside) (fun o_inside_4 => bn6 (m_Shape_findParts fu s_count x2 s_parts x1 s_firstOf o_inside_4 s_partOf s_queue s_sizeOf) (fun s_count_5 s_parts_6 s_firstOf_7 s_partOf_8 s_queue_9 s_sizeOf_10 => some (s_count_5, x2, s_parts_6, x1, s_firstOf_7, o_inside_4, s_partOf_8, s_queue_9, s_sizeOf_10)))
set_option maxHeartbeats 4000000 in
set_option maxRecDepth 100000 in
theorem c_Shape_resize {l : Launch} {D : va_G} {ar : Nat → ClassId} {fu : Nat} (a_this a_this_inside a_this_partOf a_this_sizeOf a_this_firstOf a_this_queue : Nat) (x1 : Int32) (x2 : Int32) (s_count : Int32) (s_height : Int32) (s_parts : Int32) (s_width : Int32) (s_firstOf : Nat → Int32) (s_inside : Nat → Int32) (s_partOf : Nat → Int32) (s_queue : Nat → Int32) (s_sizeOf : Nat → Int32) {r_count : Int32} {r_height : Int32} {r_parts : Int32} {r_width : Int32} {r_firstOf : Nat → Int32} {r_inside : Nat → Int32} {r_partOf : Nat → Int32} {r_queue : Nat → Int32} {r_sizeOf : Nat → Int32} (h : m_Shape_resize fu x1 x2 s_count s_height s_parts s_width s_firstOf s_inside s_partOf s_queue s_sizeOf = some (r_count, r_height, r_parts, r_width, r_firstOf, r_inside, r_partOf, r_queue, r_sizeOf)) : StdV l y_Shape_resize ws_Shape_resize rm_Shape_resize D ar [.ref a_this, .int x1, .int x2] [(a_this, .inr (7, [.ref a_this_inside, .ref a_this_partOf, .ref a_this_sizeOf, .ref a_this_firstOf, .int s_width, .int s_height, .int s_parts, .int s_count, .ref a_this_queue])), (a_this_firstOf, .inl (ar 0, 256, .inl s_firstOf)), (a_this_inside, .inl (ar 1, 256, .inl s_inside)), (a_this_partOf, .inl (ar 0, 256, .inl s_partOf)), (a_this_queue, .inl (ar 0, 256, .inl s_queue)), (a_this_sizeOf, .inl (ar 0, 256, .inl s_sizeOf))] [(a_this, .inr (7, [.ref a_this_inside, .ref a_this_partOf, .ref a_this_sizeOf, .ref a_this_firstOf, .int r_width, .int r_height, .int r_parts, .int r_count, .ref a_this_queue])), (a_this_firstOf, .inl (ar 0, 256, .inl r_firstOf)), (a_this_inside, .inl (ar 1, 256, .inl r_inside)), (a_this_partOf, .inl (ar 0, 256, .inl r_partOf)), (a_this_queue, .inl (ar 0, 256, .inl r_queue)), (a_this_sizeOf, .inl (ar 0, 256, .inl r_sizeOf))] := by
  refine sd_metV (cc := prog_8_method_2_code) (maxL := 4) (ret := none) (own := "FreeWavelets$Shape") (by decide) rfl rfl (Nat.le_of_ble_eq_true rfl) ?_
  intro p e s m below meth c A ls C0 hP hD hl
  obtain ⟨hx, hb, hr, hml, hown, hts, hlocks, hA, hK, hZ⟩ := id C0
  have hS : va_S A s.heap s.heap [] := va_S.rf
  have hl : lv_has ls 4 [(0, .ref a_this), (1, .int x1), (2, .int x2)] := hl
  unfold m_Shape_resize at h
  refine lv_aload_n hx hb d_Shape_resize_0 rfl (lv_at hl 0 rfl) ?_
  refine lv_iload_n hx hb d_Shape_resize_1 rfl (lv_at hl 1 rfl) ?_
  refine va_put (D := D) (ci := 7) (v := .int x1) (ty := .int) (C := R_Shape) (T := F_Shape) (N := 9) hx hb hts in_Shape t_Shape t_Shape_ok n_Shape hown hK hP hD hS 0 rfl rfl 4 (by decide) (hts _ k_81) (fun _ h9 => h9) rfl (by decide +kernel) rfl rfl (Nat.le_of_ble_eq_true rfl) d_Shape_resize_2 (fun H locs hP hD hS => ?_)
  have hP : va_P D vwCl [(a_this, .inr (7, [.ref a_this_inside, .ref a_this_partOf, .ref a_this_sizeOf, .ref a_this_firstOf, .int x1, .int s_height, .int s_parts, .int s_count, .ref a_this_queue])), (a_this_firstOf, .inl (ar 0, 256, .inl s_firstOf)), (a_this_inside, .inl (ar 1, 256, .inl s_inside)), (a_this_partOf, .inl (ar 0, 256, .inl s_partOf)), (a_this_queue, .inl (ar 0, 256, .inl s_queue)), (a_this_sizeOf, .inl (ar 0, 256, .inl s_sizeOf))] H := hP
  have hD : va_D A [(a_this, .inr (7, [.ref a_this_inside, .ref a_this_partOf, .ref a_this_sizeOf, .ref a_this_firstOf, .int x1, .int s_height, .int s_parts, .int s_count, .ref a_this_queue])), (a_this_firstOf, .inl (ar 0, 256, .inl s_firstOf)), (a_this_inside, .inl (ar 1, 256, .inl s_inside)), (a_this_partOf, .inl (ar 0, 256, .inl s_partOf)), (a_this_queue, .inl (ar 0, 256, .inl s_queue)), (a_this_sizeOf, .inl (ar 0, 256, .inl s_sizeOf))] := hD
  refine lv_aload_n hx hb d_Shape_resize_5 rfl (lv_at hl 0 rfl) ?_
  refine lv_iload_n hx hb d_Shape_resize_6 rfl (lv_at hl 2 rfl) ?_
  refine va_put (D := D) (ci := 7) (v := .int x2) (ty := .int) (C := R_Shape) (T := F_Shape) (N := 9) hx hb hts in_Shape t_Shape t_Shape_ok n_Shape hown hK hP hD hS 0 rfl rfl 5 (by decide) (hts _ k_86) (fun _ h9 => h9) rfl (by decide +kernel) rfl rfl (Nat.le_of_ble_eq_true rfl) d_Shape_resize_7 (fun H locs hP hD hS => ?_)
  have hP : va_P D vwCl [(a_this, .inr (7, [.ref a_this_inside, .ref a_this_partOf, .ref a_this_sizeOf, .ref a_this_firstOf, .int x1, .int x2, .int s_parts, .int s_count, .ref a_this_queue])), (a_this_firstOf, .inl (ar 0, 256, .inl s_firstOf)), (a_this_inside, .inl (ar 1, 256, .inl s_inside)), (a_this_partOf, .inl (ar 0, 256, .inl s_partOf)), (a_this_queue, .inl (ar 0, 256, .inl s_queue)), (a_this_sizeOf, .inl (ar 0, 256, .inl s_sizeOf))] H := hP
  have hD : va_D A [(a_this, .inr (7, [.ref a_this_inside, .ref a_this_partOf, .ref a_this_sizeOf, .ref a_this_firstOf, .int x1, .int x2, .int s_parts, .int s_count, .ref a_this_queue])), (a_this_firstOf, .inl (ar 0, 256, .inl s_firstOf)), (a_this_inside, .inl (ar 1, 256, .inl s_inside)), (a_this_partOf, .inl (ar 0, 256, .inl s_partOf)), (a_this_queue, .inl (ar 0, 256, .inl s_queue)), (a_this_sizeOf, .inl (ar 0, 256, .inl s_sizeOf))] := hD
  refine lv_iconst (v := (0 : Int32)) hx hb d_Shape_resize_10 (by decide) ?_
  refine lv_istore_n (lv' := [(3, .int (0 : Int32)), (0, .ref a_this), (1, .int x1), (2, .int x2)]) hx hb d_Shape_resize_11 rfl hl (by decide) rfl (fun ls hl => ?_)
  obtain ⟨o_inside_4, hloop, h⟩ := bn1_some h
  refine w_Shape_resize_l12 C0 s_count x2 s_parts x1 s_firstOf s_partOf s_queue s_sizeOf fu (0 : Int32) s_inside _ hloop ?_ _ _ _ hP hD hS (lv_sub hl [1, 0] rfl)
  clear hP hD hS hl hloop
  intro H locs ls hP hD hS hl
  refine lv_aload_n hx hb d_Shape_resize_32 rfl (lv_at hl 0 rfl) ?_
  obtain ⟨s_count_5, s_parts_6, s_firstOf_7, s_partOf_8, s_queue_9, s_sizeOf_10, hcall, h⟩ := bn6_some h
  refine sd_v (wr := []) (va_runV (As := []) (rest := []) ⟨hx, hb, hml, hown, hts⟩ (c_Shape_findParts a_this a_this_inside a_this_partOf a_this_sizeOf a_this_firstOf a_this_queue s_count x2 s_parts x1 s_firstOf o_inside_4 s_partOf s_queue s_sizeOf hcall _) (cw_V 0 hts k_268 k_269 k_270 k_31 k_271 rfl rfl (by decide +kernel) ⟨Nat.le_of_ble_eq_true rfl, Nat.le_of_ble_eq_true rfl⟩) (sd_preV hK hP hD hS hA hZ [0, 1, 2, 3, 4, 5] (by decide) rfl (va_recv hK hP (ci := 7) (q0 := 0) rfl rfl)) rfl rfl hl.1 rfl (lv_room (Nat.le_of_ble_eq_true rfl)) d_Shape_resize_33 ⟨Nat.le_of_ble_eq_true rfl, Nat.le_of_ble_eq_true rfl⟩) hP hD hS hA [0, 1, 2, 3, 4, 5] [] rfl rfl (by decide) (by decide) (fun H locs hP hD hS => ?_)
  have hP : va_P D vwCl [(a_this, .inr (7, [.ref a_this_inside, .ref a_this_partOf, .ref a_this_sizeOf, .ref a_this_firstOf, .int x1, .int x2, .int s_parts_6, .int s_count_5, .ref a_this_queue])), (a_this_firstOf, .inl (ar 0, 256, .inl s_firstOf_7)), (a_this_inside, .inl (ar 1, 256, .inl o_inside_4)), (a_this_partOf, .inl (ar 0, 256, .inl s_partOf_8)), (a_this_queue, .inl (ar 0, 256, .inl s_queue_9)), (a_this_sizeOf, .inl (ar 0, 256, .inl s_sizeOf_10))] H := hP
  have hD : va_D A [(a_this, .inr (7, [.ref a_this_inside, .ref a_this_partOf, .ref a_this_sizeOf, .ref a_this_firstOf, .int x1, .int x2, .int s_parts_6, .int s_count_5, .ref a_this_queue])), (a_this_firstOf, .inl (ar 0, 256, .inl s_firstOf_7)), (a_this_inside, .inl (ar 1, 256, .inl o_inside_4)), (a_this_partOf, .inl (ar 0, 256, .inl s_partOf_8)), (a_this_queue, .inl (ar 0, 256, .inl s_queue_9)), (a_this_sizeOf, .inl (ar 0, 256, .inl s_sizeOf_10))] := hD
  cases h
  exact sd_vret hx hb hr hlocks hP hD hK hS d_Shape_resize_36
abbrev rm_Shape_partHere : Room := { frames := 1, cells := 0, slots := 0, locals := 22 }
def m_Shape_partHere_b23 (fu : Nat) (t0 : Int32) (s_height : Int32) (s_width : Int32) (s_partOf : Nat → Int32) : Option (Int32) :=
  some t0
set_option maxHeartbeats 4000000 in
set_option maxRecDepth 100000 in
theorem w_Shape_partHere_b23 {p : Program} {l : Launch} {e : Env} {s : State} {m : MethodId} {args : Array Value} {below : List Frame} {meth : Method} {c : Code} {D : va_G} {ar : Nat → ClassId} {A : Nat → Prop} {fu : Nat} {a_this a_this_inside a_this_partOf a_this_sizeOf a_this_firstOf a_this_queue : Nat} {s_parts : Int32} {s_count : Int32} {r_v : Int32} (C0 : CX p s m meth c args prog_8_method_4_code 3 (some .int) "FreeWavelets$Shape" D ar A) (t0 : Int32) (s_height : Int32) (s_width : Int32) (s_partOf : Nat → Int32) (h : m_Shape_partHere_b23 fu t0 s_height s_width s_partOf = some r_v) : WA p l e rm_Shape_partHere s m args below meth c D A 3 (MQ below (QI D ar [(a_this, .inr (7, [.ref a_this_inside, .ref a_this_partOf, .ref a_this_sizeOf, .ref a_this_firstOf, .int s_width, .int s_height, .int s_parts, .int s_count, .ref a_this_queue])), (a_this_partOf, .inl (ar 0, 256, .inl s_partOf))] r_v A) args s 0 0 A) 23 [(a_this, .inr (7, [.ref a_this_inside, .ref a_this_partOf, .ref a_this_sizeOf, .ref a_this_firstOf, .int s_width, .int s_height, .int s_parts, .int s_count, .ref a_this_queue])), (a_this_partOf, .inl (ar 0, 256, .inl s_partOf))] [] [.int t0] := by
  intro H locs ls hP hD hS hl
  obtain ⟨hx, hb, hr, hml, hown, hts, hlocks, hA, hK, hZ⟩ := id C0
  unfold m_Shape_partHere_b23 at h
  cases h
  exact sd_iret hx hb hr hlocks hP hD hK hS d_Shape_partHere_23
def m_Shape_partHere (fu : Nat) (x1 : Int32) (x2 : Int32) (s_height : Int32) (s_width : Int32) (s_partOf : Nat → Int32) : Option (Int32) :=
  bn1 (m_Shape_has fu x1 x2 s_height s_width) (fun r_1 => if r_1 = (0 : Int32) then (m_Shape_partHere_b23 fu (-1 : Int32) s_height s_width s_partOf) else (bn1 (m_FW_sampleOf fu x1 x2) (fun r_3 => chk r_3 256 (m_Shape_partHere_b23 fu (s_partOf (r_3).toNatClampNeg) s_height s_width s_partOf))))
set_option maxHeartbeats 4000000 in
set_option maxRecDepth 100000 in
theorem c_Shape_partHere {l : Launch} {D : va_G} {ar : Nat → ClassId} {fu : Nat} (a_this a_this_inside a_this_partOf a_this_sizeOf a_this_firstOf a_this_queue : Nat) (s_parts : Int32) (s_count : Int32) (x1 : Int32) (x2 : Int32) (s_height : Int32) (s_width : Int32) (s_partOf : Nat → Int32) {r_v : Int32} (h : m_Shape_partHere fu x1 x2 s_height s_width s_partOf = some r_v) : StdI l y_Shape_partHere ws_Shape_partHere rm_Shape_partHere D ar [.ref a_this, .int x1, .int x2] [(a_this, .inr (7, [.ref a_this_inside, .ref a_this_partOf, .ref a_this_sizeOf, .ref a_this_firstOf, .int s_width, .int s_height, .int s_parts, .int s_count, .ref a_this_queue])), (a_this_partOf, .inl (ar 0, 256, .inl s_partOf))] [(a_this, .inr (7, [.ref a_this_inside, .ref a_this_partOf, .ref a_this_sizeOf, .ref a_this_firstOf, .int s_width, .int s_height, .int s_parts, .int s_count, .ref a_this_queue])), (a_this_partOf, .inl (ar 0, 256, .inl s_partOf))] r_v := by
  refine sd_metI (cc := prog_8_method_4_code) (maxL := 3) (ret := (some .int)) (own := "FreeWavelets$Shape") (by decide) rfl rfl (Nat.le_of_ble_eq_true rfl) ?_
  intro p e s m below meth c A ls C0 hP hD hl
  obtain ⟨hx, hb, hr, hml, hown, hts, hlocks, hA, hK, hZ⟩ := id C0
  have hS : va_S A s.heap s.heap [] := va_S.rf
  have hl : lv_has ls 3 [(0, .ref a_this), (1, .int x1), (2, .int x2)] := hl
  unfold m_Shape_partHere at h
  refine lv_aload_n hx hb d_Shape_partHere_0 rfl (lv_at hl 0 rfl) ?_
  refine lv_iload_n hx hb d_Shape_partHere_1 rfl (lv_at hl 1 rfl) ?_
  refine lv_iload_n hx hb d_Shape_partHere_2 rfl (lv_at hl 2 rfl) ?_
  obtain ⟨r_1, hcall, h⟩ := bn1_some h
  refine sd_i (wr := [(a_this_partOf, .inl (ar 0, 256, .inl s_partOf))]) (va_runV (As := [.int x1, .int x2]) (rest := []) ⟨hx, hb, hml, hown, hts⟩ (c_Shape_has a_this a_this_inside a_this_partOf a_this_sizeOf a_this_firstOf a_this_queue s_parts s_count x1 x2 s_height s_width hcall _) (cw_V 2 hts k_292 k_293 k_294 k_31 k_295 rfl rfl (by decide +kernel) ⟨Nat.le_of_ble_eq_true rfl, Nat.le_of_ble_eq_true rfl⟩) (sd_preV hK hP hD hS hA hZ [0] (by decide) rfl (va_recv hK hP (ci := 7) (q0 := 0) rfl rfl)) rfl rfl hl.1 rfl (lv_room (Nat.le_of_ble_eq_true rfl)) d_Shape_partHere_3 ⟨Nat.le_of_ble_eq_true rfl, Nat.le_of_ble_eq_true rfl⟩) hP hD hS hA [0] [1] rfl rfl (by decide) (by decide) (fun H locs hP hD hS => ?_)
  have hP : va_P D vwCl [(a_this_partOf, .inl (ar 0, 256, .inl s_partOf)), (a_this, .inr (7, [.ref a_this_inside, .ref a_this_partOf, .ref a_this_sizeOf, .ref a_this_firstOf, .int s_width, .int s_height, .int s_parts, .int s_count, .ref a_this_queue]))] H := hP
  have hD : va_D A [(a_this_partOf, .inl (ar 0, 256, .inl s_partOf)), (a_this, .inr (7, [.ref a_this_inside, .ref a_this_partOf, .ref a_this_sizeOf, .ref a_this_firstOf, .int s_width, .int s_height, .int s_parts, .int s_count, .ref a_this_queue]))] := hD
  refine lv_if_eq (tgt := 22) hx hb d_Shape_partHere_6 (by decide) (fun c_2 => ?_) (fun c_2 => ?_)
  · have h := Eq.trans (if_pos c_2).symm h
    refine lv_iconst (v := (-1 : Int32)) hx hb d_Shape_partHere_22 (by decide) ?_
    exact w_Shape_partHere_b23 C0 (-1 : Int32) s_height s_width s_partOf h _ _ _ (hP.sub [1, 0] rfl) (hD.sub [1, 0] (by decide) rfl) hS (lv_sub hl [] rfl)
  · have h := Eq.trans (if_neg c_2).symm h
    refine lv_aload_n hx hb d_Shape_partHere_9 rfl (lv_at hl 0 rfl) ?_
    refine va_get (D := D) (ci := 7) (v := .ref a_this_partOf) (C := R_Shape) (T := F_Shape) (N := 9) hx hb hts in_Shape hown hK hP 1 rfl rfl 1 (by decide) (hts _ k_75) (fun _ h9 => h9) rfl d_Shape_partHere_10 ?_
    refine lv_iload_n hx hb d_Shape_partHere_13 rfl (lv_at hl 1 rfl) ?_
    refine lv_iload_n hx hb d_Shape_partHere_14 rfl (lv_at hl 2 rfl) ?_
    obtain ⟨r_3, hcall, h⟩ := bn1_some h
    refine sd_i (wr := [(a_this_partOf, .inl (ar 0, 256, .inl s_partOf)), (a_this, .inr (7, [.ref a_this_inside, .ref a_this_partOf, .ref a_this_sizeOf, .ref a_this_firstOf, .int s_width, .int s_height, .int s_parts, .int s_count, .ref a_this_queue]))]) (va_runSN (As := [.int x1, .int x2]) (rest := [.ref a_this_partOf]) ⟨hx, hb, hml, hown, hts⟩ (c_FW_sampleOf 0 x1 x2 hcall _) (cw_SN 2 hts (hZ.nw k_275 rfl) k_276 k_29 k_277 rfl rfl (by decide +kernel) ⟨Nat.le_of_ble_eq_true rfl, Nat.le_of_ble_eq_true rfl⟩) (sd_preS hK hP hD hS hA hZ [] (by decide) rfl) rfl rfl hl.1 rfl (lv_room (Nat.le_of_ble_eq_true rfl)) d_Shape_partHere_15 ⟨Nat.le_of_ble_eq_true rfl, Nat.le_of_ble_eq_true rfl⟩) hP hD hS hA [] [0, 1] rfl rfl (by decide) (by decide) (fun H locs hP hD hS => ?_)
    have hP : va_P D vwCl [(a_this_partOf, .inl (ar 0, 256, .inl s_partOf)), (a_this, .inr (7, [.ref a_this_inside, .ref a_this_partOf, .ref a_this_sizeOf, .ref a_this_firstOf, .int s_width, .int s_height, .int s_parts, .int s_count, .ref a_this_queue]))] H := hP
    have hD : va_D A [(a_this_partOf, .inl (ar 0, 256, .inl s_partOf)), (a_this, .inr (7, [.ref a_this_inside, .ref a_this_partOf, .ref a_this_sizeOf, .ref a_this_firstOf, .int s_width, .int s_height, .int s_parts, .int s_count, .ref a_this_queue]))] := hD
    obtain ⟨b_4, h⟩ := chk_some h
    refine va_iald hx hb hK hP 0 0 rfl rfl b_4 d_Shape_partHere_18 ?_
    refine lv_goto (tgt := 23) hx hb d_Shape_partHere_19 (by decide) ?_
    exact w_Shape_partHere_b23 C0 (s_partOf (r_3).toNatClampNeg) s_height s_width s_partOf h _ _ _ (hP.sub [1, 0] rfl) (hD.sub [1, 0] (by decide) rfl) hS (lv_sub hl [] rfl)
