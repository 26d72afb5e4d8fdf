abbrev rm_Md_thrown : Room := { frames := 0, cells := 0, slots := 0, locals := 0 }
def m_Md_thrown (fu : Nat) (s_code : Int32) : Option (Int32) :=
  some s_code
set_option maxHeartbeats 4000000 in
set_option maxRecDepth 100000 in
theorem c_Md_thrown {l : Launch} {D : va_G} {ar : Nat → ClassId} {fu : Nat} (a_this a_this_inside a_this_values a_this_partOf a_this_waves a_this_readInside a_this_readPart a_this_readValues a_this_stream a_this_zeros a_this_fed a_this_pile a_this_open a_this_sizes a_this_below : Nat) (s_width : Int32) (s_height : Int32) (s_isRead : Int32) (s_readWide : Int32) (s_readHigh : Int32) (s_readPlanes : Int32) (s_streamBits : Int32) (s_fedMany : Int32) (s_mode : Int32) (s_limit : Int32) (s_count : Int32) (s_code : Int32) {r_v : Int32} (h : m_Md_thrown fu s_code = some r_v) : StdI l y_Md_thrown ws_Md_thrown rm_Md_thrown D ar [.ref a_this] [(a_this, .inr (9, [.int s_code, .int s_width, .int s_height, .ref a_this_inside, .ref a_this_values, .ref a_this_partOf, .ref a_this_waves, .int s_isRead, .int s_readWide, .int s_readHigh, .int s_readPlanes, .ref a_this_readInside, .ref a_this_readPart, .ref a_this_readValues, .ref a_this_stream, .int s_streamBits, .ref a_this_zeros, .ref a_this_fed, .int s_fedMany, .ref a_this_pile, .int s_mode, .int s_limit, .int s_count, .ref a_this_open, .ref a_this_sizes, .ref a_this_below]))] [(a_this, .inr (9, [.int s_code, .int s_width, .int s_height, .ref a_this_inside, .ref a_this_values, .ref a_this_partOf, .ref a_this_waves, .int s_isRead, .int s_readWide, .int s_readHigh, .int s_readPlanes, .ref a_this_readInside, .ref a_this_readPart, .ref a_this_readValues, .ref a_this_stream, .int s_streamBits, .ref a_this_zeros, .ref a_this_fed, .int s_fedMany, .ref a_this_pile, .int s_mode, .int s_limit, .int s_count, .ref a_this_open, .ref a_this_sizes, .ref a_this_below]))] r_v := by
  refine sd_metI (cc := prog_12_method_2_code) (maxL := 1) (ret := (some .int)) (own := "FreeWaveletsModel") (by decide) rfl rfl (Nat.le_of_ble_eq_true rfl) ?_
  intro p e s m below meth c A ls C0 hP hD hl
  obtain ⟨hx, hb, hr, hml, hown, hts, hlocks, hA, hK, hZ⟩ := id C0
  have hS : va_S A s.heap s.heap [] := va_S.rf
  have hl : lv_has ls 1 [(0, .ref a_this)] := hl
  unfold m_Md_thrown at h
  refine lv_aload_n hx hb d_Md_thrown_0 rfl (lv_at hl 0 rfl) ?_
  refine va_get (D := D) (ci := 9) (v := .int s_code) (C := R_Md) (T := F_Md) (N := 26) hx hb hts in_Md hown hK hP 0 rfl rfl 0 (by decide) (hts _ k_769) (fun _ h9 => h9) rfl d_Md_thrown_1 ?_
  cases h
  exact sd_iret hx hb hr hlocks hP hD hK hS d_Md_thrown_4
abbrev rm_Md_isSample : Room := { frames := 0, cells := 0, slots := 0, locals := 0 }
def m_Md_isSample_b29 (fu : Nat) (t0 : Int32) (s_height : Int32) (s_width : Int32) : Option (Int32) :=
  chkB t0 (some t0)
set_option maxHeartbeats 4000000 in
set_option maxRecDepth 100000 in
theorem w_Md_isSample_b29 {p : Program} {l : Launch} {e : Env} {s : State} {m : MethodId} {args : Array Value} {below : List Frame} {meth : Method} {c : Code} {D : va_G} {ar : Nat → ClassId} {A : Nat → Prop} {fu : Nat} {a_this a_this_inside a_this_values a_this_partOf a_this_waves a_this_readInside a_this_readPart a_this_readValues a_this_stream a_this_zeros a_this_fed a_this_pile a_this_open a_this_sizes a_this_below : Nat} {s_code : Int32} {s_isRead : Int32} {s_readWide : Int32} {s_readHigh : Int32} {s_readPlanes : Int32} {s_streamBits : Int32} {s_fedMany : Int32} {s_mode : Int32} {s_limit : Int32} {s_count : Int32} {r_v : Int32} (C0 : CX p s m meth c args prog_12_method_3_code 3 (some .boolean) "FreeWaveletsModel" D ar A) (t0 : Int32) (s_height : Int32) (s_width : Int32) (h : m_Md_isSample_b29 fu t0 s_height s_width = some r_v) : WA p l e rm_Md_isSample s m args below meth c D A 3 (MQ below (QI D ar [(a_this, .inr (9, [.int s_code, .int s_width, .int s_height, .ref a_this_inside, .ref a_this_values, .ref a_this_partOf, .ref a_this_waves, .int s_isRead, .int s_readWide, .int s_readHigh, .int s_readPlanes, .ref a_this_readInside, .ref a_this_readPart, .ref a_this_readValues, .ref a_this_stream, .int s_streamBits, .ref a_this_zeros, .ref a_this_fed, .int s_fedMany, .ref a_this_pile, .int s_mode, .int s_limit, .int s_count, .ref a_this_open, .ref a_this_sizes, .ref a_this_below]))] r_v A) args s 0 0 A) 29 [(a_this, .inr (9, [.int s_code, .int s_width, .int s_height, .ref a_this_inside, .ref a_this_values, .ref a_this_partOf, .ref a_this_waves, .int s_isRead, .int s_readWide, .int s_readHigh, .int s_readPlanes, .ref a_this_readInside, .ref a_this_readPart, .ref a_this_readValues, .ref a_this_stream, .int s_streamBits, .ref a_this_zeros, .ref a_this_fed, .int s_fedMany, .ref a_this_pile, .int s_mode, .int s_limit, .int s_count, .ref a_this_open, .ref a_this_sizes, .ref a_this_below]))] [] [.int t0] := by
  intro H locs ls hP hD hS hl
  obtain ⟨hx, hb, hr, hml, hown, hts, hlocks, hA, hK, hZ⟩ := id C0
  unfold m_Md_isSample_b29 at h
  obtain ⟨b_2, h⟩ := chkB_some h
  cases h
  exact sd_zret (nar_z b_2) hx hb hr hlocks hP hD hK hS d_Md_isSample_29
def m_Md_isSample_b28 (fu : Nat) (s_height : Int32) (s_width : Int32) : Option (Int32) :=
  m_Md_isSample_b29 fu (0 : Int32) s_height s_width
set_option maxHeartbeats 4000000 in
set_option maxRecDepth 100000 in
theorem w_Md_isSample_b28 {p : Program} {l : Launch} {e : Env} {s : State} {m : MethodId} {args : Array Value} {below : List Frame} {meth : Method} {c : Code} {D : va_G} {ar : Nat → ClassId} {A : Nat → Prop} {fu : Nat} {a_this a_this_inside a_this_values a_this_partOf a_this_waves a_this_readInside a_this_readPart a_this_readValues a_this_stream a_this_zeros a_this_fed a_this_pile a_this_open a_this_sizes a_this_below : Nat} {s_code : Int32} {s_isRead : Int32} {s_readWide : Int32} {s_readHigh : Int32} {s_readPlanes : Int32} {s_streamBits : Int32} {s_fedMany : Int32} {s_mode : Int32} {s_limit : Int32} {s_count : Int32} {r_v : Int32} (C0 : CX p s m meth c args prog_12_method_3_code 3 (some .boolean) "FreeWaveletsModel" D ar A) (s_height : Int32) (s_width : Int32) (h : m_Md_isSample_b28 fu s_height s_width = some r_v) : WA p l e rm_Md_isSample s m args below meth c D A 3 (MQ below (QI D ar [(a_this, .inr (9, [.int s_code, .int s_width, .int s_height, .ref a_this_inside, .ref a_this_values, .ref a_this_partOf, .ref a_this_waves, .int s_isRead, .int s_readWide, .int s_readHigh, .int s_readPlanes, .ref a_this_readInside, .ref a_this_readPart, .ref a_this_readValues, .ref a_this_stream, .int s_streamBits, .ref a_this_zeros, .ref a_this_fed, .int s_fedMany, .ref a_this_pile, .int s_mode, .int s_limit, .int s_count, .ref a_this_open, .ref a_this_sizes, .ref a_this_below]))] r_v A) args s 0 0 A) 28 [(a_this, .inr (9, [.int s_code, .int s_width, .int s_height, .ref a_this_inside, .ref a_this_values, .ref a_this_partOf, .ref a_this_waves, .int s_isRead, .int s_readWide, .int s_readHigh, .int s_readPlanes, .ref a_this_readInside, .ref a_this_readPart, .ref a_this_readValues, .ref a_this_stream, .int s_streamBits, .ref a_this_zeros, .ref a_this_fed, .int s_fedMany, .ref a_this_pile, .int s_mode, .int s_limit, .int s_count, .ref a_this_open, .ref a_this_sizes, .ref a_this_below]))] [] [] := by
  intro H locs ls hP hD hS hl
  obtain ⟨hx, hb, hr, hml, hown, hts, hlocks, hA, hK, hZ⟩ := id C0
  unfold m_Md_isSample_b28 at h
  refine lv_iconst (v := (0 : Int32)) hx hb d_Md_isSample_28 (by decide) ?_
  exact w_Md_isSample_b29 C0 (0 : Int32) s_height s_width h _ _ _ hP hD hS hl
def m_Md_isSample (fu : Nat) (x1 : Int32) (x2 : Int32) (s_height : Int32) (s_width : Int32) : Option (Int32) :=
  if x1 < (0 : Int32) then (m_Md_isSample_b28 fu s_height s_width) else (if s_width ≤ x1 then (m_Md_isSample_b28 fu s_height s_width) else (if x2 < (0 : Int32) then (m_Md_isSample_b28 fu s_height s_width) else (if s_height ≤ x2 then (m_Md_isSample_b28 fu s_height s_width) else (m_Md_isSample_b29 fu (1 : Int32) s_height s_width))))
set_option maxHeartbeats 4000000 in
set_option maxRecDepth 100000 in
theorem c_Md_isSample {l : Launch} {D : va_G} {ar : Nat → ClassId} {fu : Nat} (a_this a_this_inside a_this_values a_this_partOf a_this_waves a_this_readInside a_this_readPart a_this_readValues a_this_stream a_this_zeros a_this_fed a_this_pile a_this_open a_this_sizes a_this_below : Nat) (s_code : Int32) (s_isRead : Int32) (s_readWide : Int32) (s_readHigh : Int32) (s_readPlanes : Int32) (s_streamBits : Int32) (s_fedMany : Int32) (s_mode : Int32) (s_limit : Int32) (s_count : Int32) (x1 : Int32) (x2 : Int32) (s_height : Int32) (s_width : Int32) {r_v : Int32} (h : m_Md_isSample fu x1 x2 s_height s_width = some r_v) : StdI l y_Md_isSample ws_Md_isSample rm_Md_isSample D ar [.ref a_this, .int x1, .int x2] [(a_this, .inr (9, [.int s_code, .int s_width, .int s_height, .ref a_this_inside, .ref a_this_values, .ref a_this_partOf, .ref a_this_waves, .int s_isRead, .int s_readWide, .int s_readHigh, .int s_readPlanes, .ref a_this_readInside, .ref a_this_readPart, .ref a_this_readValues, .ref a_this_stream, .int s_streamBits, .ref a_this_zeros, .ref a_this_fed, .int s_fedMany, .ref a_this_pile, .int s_mode, .int s_limit, .int s_count, .ref a_this_open, .ref a_this_sizes, .ref a_this_below]))] [(a_this, .inr (9, [.int s_code, .int s_width, .int s_height, .ref a_this_inside, .ref a_this_values, .ref a_this_partOf, .ref a_this_waves, .int s_isRead, .int s_readWide, .int s_readHigh, .int s_readPlanes, .ref a_this_readInside, .ref a_this_readPart, .ref a_this_readValues, .ref a_this_stream, .int s_streamBits, .ref a_this_zeros, .ref a_this_fed, .int s_fedMany, .ref a_this_pile, .int s_mode, .int s_limit, .int s_count, .ref a_this_open, .ref a_this_sizes, .ref a_this_below]))] r_v := by
  refine sd_metI (cc := prog_12_method_3_code) (maxL := 3) (ret := (some .boolean)) (own := "FreeWaveletsModel") (by decide) rfl rfl (Nat.le_of_ble_eq_true rfl) ?_
  intro p e s m below meth c A ls C0 hP hD hl
  obtain ⟨hx, hb, hr, hml, hown, hts, hlocks, hA, hK, hZ⟩ := id C0
  have hS : va_S A s.heap s.heap [] := va_S.rf
  have hl : lv_has ls 3 [(0, .ref a_this), (1, .int x1), (2, .int x2)] := hl
  unfold m_Md_isSample at h
  refine lv_iload_n hx hb d_Md_isSample_0 rfl (lv_at hl 1 rfl) ?_
  refine lv_if_lt (tgt := 28) hx hb d_Md_isSample_1 (by decide) (fun c_1 => ?_) (fun c_1 => ?_)
  · have h := Eq.trans (if_pos c_1).symm h
    exact w_Md_isSample_b28 C0 s_height s_width h _ _ _ hP hD hS (lv_sub hl [] rfl)
  · have h := Eq.trans (if_neg c_1).symm h
    refine lv_iload_n hx hb d_Md_isSample_4 rfl (lv_at hl 1 rfl) ?_
    refine lv_aload_n hx hb d_Md_isSample_5 rfl (lv_at hl 0 rfl) ?_
    refine va_get (D := D) (ci := 9) (v := .int s_width) (C := R_Md) (T := F_Md) (N := 26) hx hb hts in_Md hown hK hP 0 rfl rfl 1 (by decide) (hts _ k_770) (fun _ h9 => h9) rfl d_Md_isSample_6 ?_
    refine lv_icmp_ge (tgt := 28) hx hb d_Md_isSample_9 (by decide) (fun c_3 => ?_) (fun c_3 => ?_)
    · have h := Eq.trans (if_pos c_3).symm h
      exact w_Md_isSample_b28 C0 s_height s_width h _ _ _ hP hD hS (lv_sub hl [] rfl)
    · have h := Eq.trans (if_neg c_3).symm h
      refine lv_iload_n hx hb d_Md_isSample_12 rfl (lv_at hl 2 rfl) ?_
      refine lv_if_lt (tgt := 28) hx hb d_Md_isSample_13 (by decide) (fun c_4 => ?_) (fun c_4 => ?_)
      · have h := Eq.trans (if_pos c_4).symm h
        exact w_Md_isSample_b28 C0 s_height s_width h _ _ _ hP hD hS (lv_sub hl [] rfl)
      · have h := Eq.trans (if_neg c_4).symm h
        refine lv_iload_n hx hb d_Md_isSample_16 rfl (lv_at hl 2 rfl) ?_
        refine lv_aload_n hx hb d_Md_isSample_17 rfl (lv_at hl 0 rfl) ?_
        refine va_get (D := D) (ci := 9) (v := .int s_height) (C := R_Md) (T := F_Md) (N := 26) hx hb hts in_Md hown hK hP 0 rfl rfl 2 (by decide) (hts _ k_771) (fun _ h9 => h9) rfl d_Md_isSample_18 ?_
        refine lv_icmp_ge (tgt := 28) hx hb d_Md_isSample_21 (by decide) (fun c_5 => ?_) (fun c_5 => ?_)
        · have h := Eq.trans (if_pos c_5).symm h
          exact w_Md_isSample_b28 C0 s_height s_width h _ _ _ hP hD hS (lv_sub hl [] rfl)
        · have h := Eq.trans (if_neg c_5).symm h
          refine lv_iconst (v := (1 : Int32)) hx hb d_Md_isSample_24 (by decide) ?_
          refine lv_goto (tgt := 29) hx hb d_Md_isSample_25 (by decide) ?_
          exact w_Md_isSample_b29 C0 (1 : Int32) s_height s_width h _ _ _ hP hD hS (lv_sub hl [] rfl)
abbrev rm_Md_mask : Room := { frames := 1, cells := 0, slots := 0, locals := 22 }
def m_Md_mask_b83 (fu : Nat) (rec : Int32 → Int32 → (Nat → Int32) → Option ((Int32 × (Nat → Int32)))) (x1 : Int32) (x2 : Int32) (x3 : Int32) (x4 : Int32) (x6 : Int32) (t0 : Int32) (t1 : Int32) (s_code : Int32) (s_height : Int32) (s_width : Int32) (s_inside : Nat → Int32) : Option ((Int32 × (Nat → Int32))) :=
  letB (t1 + t0) (fun x5_9 => chk ((((16 : Int32) * x2) + x1) + x6) 256 (letB (x6 + (1 : Int32)) (fun x6_11 => rec x5_9 x6_11 (upd s_inside ((((16 : Int32) * x2) + x1) + x6).toNatClampNeg (vp_nar .boolean x4)))))
set_option maxHeartbeats 4000000 in
set_option maxRecDepth 100000 in
theorem w_Md_mask_b83 {p : Program} {l : Launch} {e : Env} {s : State} {m : MethodId} {args : Array Value} {below : List Frame} {meth : Method} {c : Code} {D : va_G} {ar : Nat → ClassId} {A : Nat → Prop} {Q : State → Prop} {fu : Nat} {a_this a_this_inside a_this_values a_this_partOf a_this_waves a_this_readInside a_this_readPart a_this_readValues a_this_stream a_this_zeros a_this_fed a_this_pile a_this_open a_this_sizes a_this_below : Nat} {s_isRead : Int32} {s_readWide : Int32} {s_readHigh : Int32} {s_readPlanes : Int32} {s_streamBits : Int32} {s_fedMany : Int32} {s_mode : Int32} {s_limit : Int32} {s_count : Int32} {o_x5 : Int32} {o_inside : Nat → Int32} (C0 : CX p s m meth c args prog_12_method_4_code 7 (some .int) "FreeWaveletsModel" D ar A) (x1 : Int32) (x2 : Int32) (x3 : Int32) (x4 : Int32) (x6 : Int32) (t0 : Int32) (t1 : Int32) (s_code : Int32) (s_height : Int32) (s_width : Int32) (s_inside : Nat → Int32) (rec : Int32 → Int32 → (Nat → Int32) → Option ((Int32 × (Nat → Int32)))) (hrec : ∀ (x5 : Int32) (x6 : Int32) (s_inside : Nat → Int32), rec x5 x6 s_inside = some (o_x5, o_inside) → WA p l e rm_Md_mask s m args below meth c D A 7 Q 33 [(a_this, .inr (9, [.int s_code, .int s_width, .int s_height, .ref a_this_inside, .ref a_this_values, .ref a_this_partOf, .ref a_this_waves, .int s_isRead, .int s_readWide, .int s_readHigh, .int s_readPlanes, .ref a_this_readInside, .ref a_this_readPart, .ref a_this_readValues, .ref a_this_stream, .int s_streamBits, .ref a_this_zeros, .ref a_this_fed, .int s_fedMany, .ref a_this_pile, .int s_mode, .int s_limit, .int s_count, .ref a_this_open, .ref a_this_sizes, .ref a_this_below])), (a_this_inside, .inl (ar 1, 256, .inl s_inside))] [(0, .ref a_this), (1, .int x1), (2, .int x2), (3, .int x3), (4, .int x4), (5, .int x5), (6, .int x6)] []) (K1 : WA p l e rm_Md_mask s m args below meth c D A 7 Q 108 [(a_this, .inr (9, [.int s_code, .int s_width, .int s_height, .ref a_this_inside, .ref a_this_values, .ref a_this_partOf, .ref a_this_waves, .int s_isRead, .int s_readWide, .int s_readHigh, .int s_readPlanes, .ref a_this_readInside, .ref a_this_readPart, .ref a_this_readValues, .ref a_this_stream, .int s_streamBits, .ref a_this_zeros, .ref a_this_fed, .int s_fedMany, .ref a_this_pile, .int s_mode, .int s_limit, .int s_count, .ref a_this_open, .ref a_this_sizes, .ref a_this_below])), (a_this_inside, .inl (ar 1, 256, .inl o_inside))] [(5, .int o_x5)] []) (h : m_Md_mask_b83 fu rec x1 x2 x3 x4 x6 t0 t1 s_code s_height s_width s_inside = some (o_x5, o_inside)) : WA p l e rm_Md_mask s m args below meth c D A 7 Q 83 [(a_this, .inr (9, [.int s_code, .int s_width, .int s_height, .ref a_this_inside, .ref a_this_values, .ref a_this_partOf, .ref a_this_waves, .int s_isRead, .int s_readWide, .int s_readHigh, .int s_readPlanes, .ref a_this_readInside, .ref a_this_readPart, .ref a_this_readValues, .ref a_this_stream, .int s_streamBits, .ref a_this_zeros, .ref a_this_fed, .int s_fedMany, .ref a_this_pile, .int s_mode, .int s_limit, .int s_count, .ref a_this_open, .ref a_this_sizes, .ref a_this_below])), (a_this_inside, .inl (ar 1, 256, .inl s_inside))] [(0, .ref a_this), (1, .int x1), (2, .int x2), (3, .int x3), (4, .int x4), (6, .int x6)] [.int t0, .int t1] := by
  intro H locs ls hP hD hS hl
  obtain ⟨hx, hb, hr, hml, hown, hts, hlocks, hA, hK, hZ⟩ := id C0
  unfold m_Md_mask_b83 at h
  refine lv_iadd hx hb d_Md_mask_83 ?_
  refine lv_topi (fun x5_9 e_x5_9 => ?_)
  have h := letB_at e_x5_9 h
  refine lv_istore (lv' := [(5, .int x5_9), (0, .ref a_this), (1, .int x1), (2, .int x2), (3, .int x3), (4, .int x4), (6, .int x6)]) hx hb d_Md_mask_84 hl (by decide) rfl (fun ls hl => ?_)
  refine lv_aload_n hx hb d_Md_mask_86 rfl (lv_at hl 1 rfl) ?_
  refine va_get (D := D) (ci := 9) (v := .ref a_this_inside) (C := R_Md) (T := F_Md) (N := 26) hx hb hts in_Md hown hK hP 0 rfl rfl 3 (by decide) (hts _ k_772) (fun _ h9 => h9) rfl d_Md_mask_87 ?_
  refine lv_bipush (v := (16 : Int32)) hx hb d_Md_mask_90 (by decide) ?_
  refine lv_iload_n hx hb d_Md_mask_92 rfl (lv_at hl 3 rfl) ?_
  refine lv_imul hx hb d_Md_mask_93 ?_
  refine lv_iload_n hx hb d_Md_mask_94 rfl (lv_at hl 2 rfl) ?_
  refine lv_iadd hx hb d_Md_mask_95 ?_
  refine lv_iload hx hb d_Md_mask_96 (lv_at hl 6 rfl) ?_
  refine lv_iadd hx hb d_Md_mask_98 ?_
  refine lv_iload hx hb d_Md_mask_99 (lv_at hl 5 rfl) ?_
  obtain ⟨b_10, h⟩ := chk_some h
  refine va_zast hx hb hK hP hD hS 1 1 rfl rfl b_10 d_Md_mask_101 (fun H locs hP hD hS => ?_)
  have hP : va_P D vwCl [(a_this, .inr (9, [.int s_code, .int s_width, .int s_height, .ref a_this_inside, .ref a_this_values, .ref a_this_partOf, .ref a_this_waves, .int s_isRead, .int s_readWide, .int s_readHigh, .int s_readPlanes, .ref a_this_readInside, .ref a_this_readPart, .ref a_this_readValues, .ref a_this_stream, .int s_streamBits, .ref a_this_zeros, .ref a_this_fed, .int s_fedMany, .ref a_this_pile, .int s_mode, .int s_limit, .int s_count, .ref a_this_open, .ref a_this_sizes, .ref a_this_below])), (a_this_inside, .inl (ar 1, 256, .inl (upd s_inside ((((16 : Int32) * x2) + x1) + x6).toNatClampNeg (vp_nar .boolean x4))))] H := hP
  have hD : va_D A [(a_this, .inr (9, [.int s_code, .int s_width, .int s_height, .ref a_this_inside, .ref a_this_values, .ref a_this_partOf, .ref a_this_waves, .int s_isRead, .int s_readWide, .int s_readHigh, .int s_readPlanes, .ref a_this_readInside, .ref a_this_readPart, .ref a_this_readValues, .ref a_this_stream, .int s_streamBits, .ref a_this_zeros, .ref a_this_fed, .int s_fedMany, .ref a_this_pile, .int s_mode, .int s_limit, .int s_count, .ref a_this_open, .ref a_this_sizes, .ref a_this_below])), (a_this_inside, .inl (ar 1, 256, .inl (upd s_inside ((((16 : Int32) * x2) + x1) + x6).toNatClampNeg (vp_nar .boolean x4))))] := hD
  obtain ⟨x6_11, e_x6_11⟩ : ∃ y : Int32, y = x6 + (1 : Int32) := ⟨_, rfl⟩
  have h := letB_at e_x6_11 h
  refine lv_iinc (v := x6_11) (lv' := [(6, .int x6_11), (5, .int x5_9), (0, .ref a_this), (1, .int x1), (2, .int x2), (3, .int x3), (4, .int x4)]) hx hb d_Md_mask_102 hl (k := 6) rfl (by rw [e_x6_11]; rfl) (by decide) rfl (fun ls hl => ?_)
  refine lv_goto (tgt := 33) hx hb d_Md_mask_105 (by decide) ?_
  exact hrec x5_9 x6_11 (upd s_inside ((((16 : Int32) * x2) + x1) + x6).toNatClampNeg (vp_nar .boolean x4)) h _ _ _ hP hD hS (lv_sub hl [2, 3, 4, 5, 6, 1, 0] rfl)
def m_Md_mask_k33 (fu : Nat) (x1 : Int32) (x2 : Int32) (x3 : Int32) (x4 : Int32) (s_code : Int32) (s_height : Int32) (s_width : Int32) (rec : Int32 → Int32 → (Nat → Int32) → Option ((Int32 × (Nat → Int32)))) (x5 : Int32) (x6 : Int32) (s_inside : Nat → Int32) : Option ((Int32 × (Nat → Int32))) :=
  if x3 ≤ x6 then (some (x5, s_inside)) else (if s_width ≤ (x1 + x6) then (some (x5, s_inside)) else (if s_code = (0 : Int32) then (chk ((((16 : Int32) * x2) + x1) + x6) 256 (if (s_inside ((((16 : Int32) * x2) + x1) + x6).toNatClampNeg) = x4 then (m_Md_mask_b83 fu rec x1 x2 x3 x4 x6 (0 : Int32) x5 s_code s_height s_width s_inside) else (m_Md_mask_b83 fu rec x1 x2 x3 x4 x6 (1 : Int32) x5 s_code s_height s_width s_inside))) else (some (x5, s_inside))))
set_option maxHeartbeats 4000000 in
set_option maxRecDepth 100000 in
theorem w_Md_mask_l33 {p : Program} {l : Launch} {e : Env} {s : State} {m : MethodId} {args : Array Value} {below : List Frame} {meth : Method} {c : Code} {D : va_G} {ar : Nat → ClassId} {A : Nat → Prop} {Q : State → Prop} {fu : Nat} {a_this a_this_inside a_this_values a_this_partOf a_this_waves a_this_readInside a_this_readPart a_this_readValues a_this_stream a_this_zeros a_this_fed a_this_pile a_this_open a_this_sizes a_this_below : Nat} {s_isRead : Int32} {s_readWide : Int32} {s_readHigh : Int32} {s_readPlanes : Int32} {s_streamBits : Int32} {s_fedMany : Int32} {s_mode : Int32} {s_limit : Int32} {s_count : Int32} (C0 : CX p s m meth c args prog_12_method_4_code 7 (some .int) "FreeWaveletsModel" D ar A) (x1 : Int32) (x2 : Int32) (x3 : Int32) (x4 : Int32) (s_code : Int32) (s_height : Int32) (s_width : Int32) : ∀ (n : Nat) (x5 : Int32) (x6 : Int32) (s_inside : Nat → Int32) (o_x5 : Int32) (o_inside : Nat → Int32), loop3 (m_Md_mask_k33 fu x1 x2 x3 x4 s_code s_height s_width) n x5 x6 s_inside = some (o_x5, o_inside) → (WA p l e rm_Md_mask s m args below meth c D A 7 Q 108 [(a_this, .inr (9, [.int s_code, .int s_width, .int s_height, .ref a_this_inside, .ref a_this_values, .ref a_this_partOf, .ref a_this_waves, .int s_isRead, .int s_readWide, .int s_readHigh, .int s_readPlanes, .ref a_this_readInside, .ref a_this_readPart, .ref a_this_readValues, .ref a_this_stream, .int s_streamBits, .ref a_this_zeros, .ref a_this_fed, .int s_fedMany, .ref a_this_pile, .int s_mode, .int s_limit, .int s_count, .ref a_this_open, .ref a_this_sizes, .ref a_this_below])), (a_this_inside, .inl (ar 1, 256, .inl o_inside))] [(5, .int o_x5)] []) → WA p l e rm_Md_mask s m args below meth c D A 7 Q 33 [(a_this, .inr (9, [.int s_code, .int s_width, .int s_height, .ref a_this_inside, .ref a_this_values, .ref a_this_partOf, .ref a_this_waves, .int s_isRead, .int s_readWide, .int s_readHigh, .int s_readPlanes, .ref a_this_readInside, .ref a_this_readPart, .ref a_this_readValues, .ref a_this_stream, .int s_streamBits, .ref a_this_zeros, .ref a_this_fed, .int s_fedMany, .ref a_this_pile, .int s_mode, .int s_limit, .int s_count, .ref a_this_open, .ref a_this_sizes, .ref a_this_below])), (a_this_inside, .inl (ar 1, 256, .inl s_inside))] [(0, .ref a_this), (1, .int x1), (2, .int x2), (3, .int x3), (4, .int x4), (5, .int x5), (6, .int x6)] [] := by
  intro n
  induction n with
  | zero => intro x5 x6 s_inside o_x5 o_inside h; exact (no0 h).elim
  | succ n ih =>
    intro x5 x6 s_inside o_x5 o_inside h K1
    have hrec : ∀ (x5 : Int32) (x6 : Int32) (s_inside : Nat → Int32), loop3 (m_Md_mask_k33 fu x1 x2 x3 x4 s_code s_height s_width) n x5 x6 s_inside = some (o_x5, o_inside) → WA p l e rm_Md_mask s m args below meth c D A 7 Q 33 [(a_this, .inr (9, [.int s_code, .int s_width, .int s_height, .ref a_this_inside, .ref a_this_values, .ref a_this_partOf, .ref a_this_waves, .int s_isRead, .int s_readWide, .int s_readHigh, .int s_readPlanes, .ref a_this_readInside, .ref a_this_readPart, .ref a_this_readValues, .ref a_this_stream, .int s_streamBits, .ref a_this_zeros, .ref a_this_fed, .int s_fedMany, .ref a_this_pile, .int s_mode, .int s_limit, .int s_count, .ref a_this_open, .ref a_this_sizes, .ref a_this_below])), (a_this_inside, .inl (ar 1, 256, .inl s_inside))] [(0, .ref a_this), (1, .int x1), (2, .int x2), (3, .int x3), (4, .int x4), (5, .int x5), (6, .int x6)] [] := fun x5 x6 s_inside h => ih x5 x6 s_inside o_x5 o_inside h K1
    clear ih
    intro H locs ls hP hD hS hl
    obtain ⟨hx, hb, hr, hml, hown, hts, hlocks, hA, hK, hZ⟩ := id C0
    have h : m_Md_mask_k33 fu x1 x2 x3 x4 s_code s_height s_width (loop3 (m_Md_mask_k33 fu x1 x2 x3 x4 s_code s_height s_width) n) x5 x6 s_inside = some (o_x5, o_inside) := h
    unfold m_Md_mask_k33 at h
    refine lv_iload hx hb d_Md_mask_33 (lv_at hl 6 rfl) ?_
    refine lv_iload_n hx hb d_Md_mask_35 rfl (lv_at hl 3 rfl) ?_
    refine lv_icmp_ge (tgt := 108) hx hb d_Md_mask_36 (by decide) (fun c_4 => ?_) (fun c_4 => ?_)
    · have h := Eq.trans (if_pos c_4).symm h
      cases h
      exact K1 _ _ _ hP hD hS (lv_sub hl [5] rfl)
    · have h := Eq.trans (if_neg c_4).symm h
      refine lv_iload_n hx hb d_Md_mask_39 rfl (lv_at hl 1 rfl) ?_
      refine lv_iload hx hb d_Md_mask_40 (lv_at hl 6 rfl) ?_
      refine lv_iadd hx hb d_Md_mask_42 ?_
      refine lv_aload_n hx hb d_Md_mask_43 rfl (lv_at hl 0 rfl) ?_
      refine va_get (D := D) (ci := 9) (v := .int s_width) (C := R_Md) (T := F_Md) (N := 26) hx hb hts in_Md hown hK hP 0 rfl rfl 1 (by decide) (hts _ k_770) (fun _ h9 => h9) rfl d_Md_mask_44 ?_
      refine lv_icmp_ge (tgt := 108) hx hb d_Md_mask_47 (by decide) (fun c_5 => ?_) (fun c_5 => ?_)
      · have h := Eq.trans (if_pos c_5).symm h
        cases h
        exact K1 _ _ _ hP hD hS (lv_sub hl [5] rfl)
      · have h := Eq.trans (if_neg c_5).symm h
        refine lv_aload_n hx hb d_Md_mask_50 rfl (lv_at hl 0 rfl) ?_
        refine va_get (D := D) (ci := 9) (v := .int s_code) (C := R_Md) (T := F_Md) (N := 26) hx hb hts in_Md hown hK hP 0 rfl rfl 0 (by decide) (hts _ k_769) (fun _ h9 => h9) rfl d_Md_mask_51 ?_
        refine lv_if_ne (tgt := 108) hx hb d_Md_mask_54 (by decide) (fun c_6 => ?_) (fun c_6 => ?_)
        · have h := Eq.trans (if_neg c_6).symm h
          cases h
          exact K1 _ _ _ hP hD hS (lv_sub hl [5] rfl)
        · have h := Eq.trans (if_pos c_6).symm h
          refine lv_iload hx hb d_Md_mask_57 (lv_at hl 5 rfl) ?_
          refine lv_aload_n hx hb d_Md_mask_59 rfl (lv_at hl 0 rfl) ?_
          refine va_get (D := D) (ci := 9) (v := .ref a_this_inside) (C := R_Md) (T := F_Md) (N := 26) hx hb hts in_Md hown hK hP 0 rfl rfl 3 (by decide) (hts _ k_772) (fun _ h9 => h9) rfl d_Md_mask_60 ?_
          refine lv_bipush (v := (16 : Int32)) hx hb d_Md_mask_63 (by decide) ?_
          refine lv_iload_n hx hb d_Md_mask_65 rfl (lv_at hl 2 rfl) ?_
          refine lv_imul hx hb d_Md_mask_66 ?_
          refine lv_iload_n hx hb d_Md_mask_67 rfl (lv_at hl 1 rfl) ?_
          refine lv_iadd hx hb d_Md_mask_68 ?_
          refine lv_iload hx hb d_Md_mask_69 (lv_at hl 6 rfl) ?_
          refine lv_iadd hx hb d_Md_mask_71 ?_
          obtain ⟨b_7, h⟩ := chk_some h
          refine va_zald hx hb hK hP 1 1 rfl rfl b_7 d_Md_mask_72 ?_
          refine lv_iload hx hb d_Md_mask_73 (lv_at hl 4 rfl) ?_
          refine lv_icmp_ne (tgt := 82) hx hb d_Md_mask_75 (by decide) (fun c_8 => ?_) (fun c_8 => ?_)
          · have h := Eq.trans (if_neg c_8).symm h
            refine lv_iconst (v := (1 : Int32)) hx hb d_Md_mask_82 (by decide) ?_
            exact w_Md_mask_b83 C0 x1 x2 x3 x4 x6 (1 : Int32) x5 s_code s_height s_width s_inside _ hrec K1 h _ _ _ hP hD hS (lv_sub hl [0, 1, 2, 3, 4, 6] rfl)
          · have h := Eq.trans (if_pos c_8).symm h
            refine lv_iconst (v := (0 : Int32)) hx hb d_Md_mask_78 (by decide) ?_
            refine lv_goto (tgt := 83) hx hb d_Md_mask_79 (by decide) ?_
            exact w_Md_mask_b83 C0 x1 x2 x3 x4 x6 (0 : Int32) x5 s_code s_height s_width s_inside _ hrec K1 h _ _ _ hP hD hS (lv_sub hl [0, 1, 2, 3, 4, 6] rfl)
def m_Md_mask_b24 (fu : Nat) (x1 : Int32) (x2 : Int32) (x3 : Int32) (x4 : Int32) (t0 : Int32) (s_code : Int32) (s_height : Int32) (s_width : Int32) (s_inside : Nat → Int32) : Option (Int32 × Int32 × (Nat → Int32)) :=
  bn2 (loop3 (m_Md_mask_k33 fu x1 x2 x3 x4 t0 s_height s_width) fu (0 : Int32) (0 : Int32) s_inside) (fun o_x5_12 o_inside_13 => some (o_x5_12, t0, o_inside_13))
set_option maxHeartbeats 4000000 in
set_option maxRecDepth 100000 in
theorem w_Md_mask_b24 {p : Program} {l : Launch} {e : Env} {s : State} {m : MethodId} {args : Array Value} {below : List Frame} {meth : Method} {c : Code} {D : va_G} {ar : Nat → ClassId} {A : Nat → Prop} {fu : Nat} {a_this a_this_inside a_this_values a_this_partOf a_this_waves a_this_readInside a_this_readPart a_this_readValues a_this_stream a_this_zeros a_this_fed a_this_pile a_this_open a_this_sizes a_this_below : Nat} {s_isRead : Int32} {s_readWide : Int32} {s_readHigh : Int32} {s_readPlanes : Int32} {s_streamBits : Int32} {s_fedMany : Int32} {s_mode : Int32} {s_limit : Int32} {s_count : Int32} {r_v : Int32} {r_code : Int32} {r_inside : Nat → Int32} (C0 : CX p s m meth c args prog_12_method_4_code 7 (some .int) "FreeWaveletsModel" D ar A) (x1 : Int32) (x2 : Int32) (x3 : Int32) (x4 : Int32) (t0 : Int32) (s_code : Int32) (s_height : Int32) (s_width : Int32) (s_inside : Nat → Int32) (h : m_Md_mask_b24 fu x1 x2 x3 x4 t0 s_code s_height s_width s_inside = some (r_v, r_code, r_inside)) : WA p l e rm_Md_mask s m args below meth c D A 7 (MQ below (QI D ar [(a_this, .inr (9, [.int r_code, .int s_width, .int s_height, .ref a_this_inside, .ref a_this_values, .ref a_this_partOf, .ref a_this_waves, .int s_isRead, .int s_readWide, .int s_readHigh, .int s_readPlanes, .ref a_this_readInside, .ref a_this_readPart, .ref a_this_readValues, .ref a_this_stream, .int s_streamBits, .ref a_this_zeros, .ref a_this_fed, .int s_fedMany, .ref a_this_pile, .int s_mode, .int s_limit, .int s_count, .ref a_this_open, .ref a_this_sizes, .ref a_this_below])), (a_this_inside, .inl (ar 1, 256, .inl r_inside))] r_v A) args s 0 0 A) 24 [(a_this, .inr (9, [.int s_code, .int s_width, .int s_height, .ref a_this_inside, .ref a_this_values, .ref a_this_partOf, .ref a_this_waves, .int s_isRead, .int s_readWide, .int s_readHigh, .int s_readPlanes, .ref a_this_readInside, .ref a_this_readPart, .ref a_this_readValues, .ref a_this_stream, .int s_streamBits, .ref a_this_zeros, .ref a_this_fed, .int s_fedMany, .ref a_this_pile, .int s_mode, .int s_limit, .int s_count, .ref a_this_open, .ref a_this_sizes, .ref a_this_below])), (a_this_inside, .inl (ar 1, 256, .inl s_inside))] [(0, .ref a_this), (1, .int x1), (2, .int x2), (3, .int x3), (4, .int x4)] [.int t0, .ref a_this] := by
  intro H locs ls hP hD hS hl
  obtain ⟨hx, hb, hr, hml, hown, hts, hlocks, hA, hK, hZ⟩ := id C0
  unfold m_Md_mask_b24 at h
  refine va_put (D := D) (ci := 9) (v := .int t0) (ty := .int) (C := R_Md) (T := F_Md) (N := 26) hx hb hts in_Md t_Md t_Md_ok n_Md hown hK hP hD hS 0 rfl rfl 0 (by decide) (hts _ k_769) (fun _ h9 => h9) rfl (by decide +kernel) rfl rfl (Nat.le_of_ble_eq_true rfl) d_Md_mask_24 (fun H locs hP hD hS => ?_)
  have hP : va_P D vwCl [(a_this, .inr (9, [.int t0, .int s_width, .int s_height, .ref a_this_inside, .ref a_this_values, .ref a_this_partOf, .ref a_this_waves, .int s_isRead, .int s_readWide, .int s_readHigh, .int s_readPlanes, .ref a_this_readInside, .ref a_this_readPart, .ref a_this_readValues, .ref a_this_stream, .int s_streamBits, .ref a_this_zeros, .ref a_this_fed, .int s_fedMany, .ref a_this_pile, .int s_mode, .int s_limit, .int s_count, .ref a_this_open, .ref a_this_sizes, .ref a_this_below])), (a_this_inside, .inl (ar 1, 256, .inl s_inside))] H := hP
  have hD : va_D A [(a_this, .inr (9, [.int t0, .int s_width, .int s_height, .ref a_this_inside, .ref a_this_values, .ref a_this_partOf, .ref a_this_waves, .int s_isRead, .int s_readWide, .int s_readHigh, .int s_readPlanes, .ref a_this_readInside, .ref a_this_readPart, .ref a_this_readValues, .ref a_this_stream, .int s_streamBits, .ref a_this_zeros, .ref a_this_fed, .int s_fedMany, .ref a_this_pile, .int s_mode, .int s_limit, .int s_count, .ref a_this_open, .ref a_this_sizes, .ref a_this_below])), (a_this_inside, .inl (ar 1, 256, .inl s_inside))] := hD
  refine lv_iconst (v := (0 : Int32)) hx hb d_Md_mask_27 (by decide) ?_
  refine lv_istore (lv' := [(5, .int (0 : Int32)), (0, .ref a_this), (1, .int x1), (2, .int x2), (3, .int x3), (4, .int x4)]) hx hb d_Md_mask_28 hl (by decide) rfl (fun ls hl => ?_)
  refine lv_iconst (v := (0 : Int32)) hx hb d_Md_mask_30 (by decide) ?_
  refine lv_istore (lv' := [(6, .int (0 : Int32)), (5, .int (0 : Int32)), (0, .ref a_this), (1, .int x1), (2, .int x2), (3, .int x3), (4, .int x4)]) hx hb d_Md_mask_31 hl (by decide) rfl (fun ls hl => ?_)
  obtain ⟨o_x5_12, o_inside_13, hloop, h⟩ := bn2_some h
  refine w_Md_mask_l33 C0 x1 x2 x3 x4 t0 s_height s_width fu (0 : Int32) (0 : Int32) s_inside _ _ hloop ?_ _ _ _ hP hD hS (lv_sub hl [2, 3, 4, 5, 6, 1, 0] rfl)
  clear hP hD hS hl hloop
  intro H locs ls hP hD hS hl
  refine lv_iload hx hb d_Md_mask_108 (lv_at hl 0 rfl) ?_
  cases h
  exact sd_iret hx hb hr hlocks hP hD hK hS d_Md_mask_110
def m_Md_mask (fu : Nat) (x1 : Int32) (x2 : Int32) (x3 : Int32) (x4 : Int32) (s_code : Int32) (s_height : Int32) (s_width : Int32) (s_inside : Nat → Int32) : Option (Int32 × Int32 × (Nat → Int32)) :=
  bn1 (m_Md_isSample fu x1 x2 s_height s_width) (fun r_1 => if r_1 = (0 : Int32) then (m_Md_mask_b24 fu x1 x2 x3 x4 (1 : Int32) s_code s_height s_width s_inside) else (if (1 : Int32) ≤ x3 then (m_Md_mask_b24 fu x1 x2 x3 x4 (0 : Int32) s_code s_height s_width s_inside) else (m_Md_mask_b24 fu x1 x2 x3 x4 (2 : Int32) s_code s_height s_width s_inside)))
set_option maxHeartbeats 4000000 in
set_option maxRecDepth 100000 in
theorem c_Md_mask {l : Launch} {D : va_G} {ar : Nat → ClassId} {fu : Nat} (a_this a_this_inside a_this_values a_this_partOf a_this_waves a_this_readInside a_this_readPart a_this_readValues a_this_stream a_this_zeros a_this_fed a_this_pile a_this_open a_this_sizes a_this_below : Nat) (s_isRead : Int32) (s_readWide : Int32) (s_readHigh : Int32) (s_readPlanes : Int32) (s_streamBits : Int32) (s_fedMany : Int32) (s_mode : Int32) (s_limit : Int32) (s_count : Int32) (x1 : Int32) (x2 : Int32) (x3 : Int32) (x4 : Int32) (s_code : Int32) (s_height : Int32) (s_width : Int32) (s_inside : Nat → Int32) {r_v : Int32} {r_code : Int32} {r_inside : Nat → Int32} (h : m_Md_mask fu x1 x2 x3 x4 s_code s_height s_width s_inside = some (r_v, r_code, r_inside)) : StdI l y_Md_mask ws_Md_mask rm_Md_mask D ar [.ref a_this, .int x1, .int x2, .int x3, .int x4] [(a_this, .inr (9, [.int s_code, .int s_width, .int s_height, .ref a_this_inside, .ref a_this_values, .ref a_this_partOf, .ref a_this_waves, .int s_isRead, .int s_readWide, .int s_readHigh, .int s_readPlanes, .ref a_this_readInside, .ref a_this_readPart, .ref a_this_readValues, .ref a_this_stream, .int s_streamBits, .ref a_this_zeros, .ref a_this_fed, .int s_fedMany, .ref a_this_pile, .int s_mode, .int s_limit, .int s_count, .ref a_this_open, .ref a_this_sizes, .ref a_this_below])), (a_this_inside, .inl (ar 1, 256, .inl s_inside))] [(a_this, .inr (9, [.int r_code, .int s_width, .int s_height, .ref a_this_inside, .ref a_this_values, .ref a_this_partOf, .ref a_this_waves, .int s_isRead, .int s_readWide, .int s_readHigh, .int s_readPlanes, .ref a_this_readInside, .ref a_this_readPart, .ref a_this_readValues, .ref a_this_stream, .int s_streamBits, .ref a_this_zeros, .ref a_this_fed, .int s_fedMany, .ref a_this_pile, .int s_mode, .int s_limit, .int s_count, .ref a_this_open, .ref a_this_sizes, .ref a_this_below])), (a_this_inside, .inl (ar 1, 256, .inl r_inside))] r_v := by
  refine sd_metI (cc := prog_12_method_4_code) (maxL := 7) (ret := (some .int)) (own := "FreeWaveletsModel") (by decide) rfl rfl (Nat.le_of_ble_eq_true rfl) ?_
  intro p e s m below meth c A ls C0 hP hD hl
  obtain ⟨hx, hb, hr, hml, hown, hts, hlocks, hA, hK, hZ⟩ := id C0
  have hS : va_S A s.heap s.heap [] := va_S.rf
  have hl : lv_has ls 7 [(0, .ref a_this), (1, .int x1), (2, .int x2), (3, .int x3), (4, .int x4)] := hl
  unfold m_Md_mask at h
  refine lv_aload_n hx hb d_Md_mask_0 rfl (lv_at hl 0 rfl) ?_
  refine lv_aload_n hx hb d_Md_mask_1 rfl (lv_at hl 0 rfl) ?_
  refine lv_iload_n hx hb d_Md_mask_2 rfl (lv_at hl 1 rfl) ?_
  refine lv_iload_n hx hb d_Md_mask_3 rfl (lv_at hl 2 rfl) ?_
  obtain ⟨r_1, hcall, h⟩ := bn1_some h
  refine sd_i (wr := [(a_this_inside, .inl (ar 1, 256, .inl s_inside))]) (va_runV (As := [.int x1, .int x2]) (rest := [.ref a_this]) ⟨hx, hb, hml, hown, hts⟩ (c_Md_isSample a_this a_this_inside a_this_values a_this_partOf a_this_waves a_this_readInside a_this_readPart a_this_readValues a_this_stream a_this_zeros a_this_fed a_this_pile a_this_open a_this_sizes a_this_below s_code s_isRead s_readWide s_readHigh s_readPlanes s_streamBits s_fedMany s_mode s_limit s_count x1 x2 s_height s_width hcall _) (cw_V 2 hts k_856 k_858 k_12 k_40 k_859 rfl rfl (by decide +kernel) ⟨Nat.le_of_ble_eq_true rfl, Nat.le_of_ble_eq_true rfl⟩) (sd_preV hK hP hD hS hA hZ [0] (by decide) rfl (va_recv hK hP (ci := 9) (q0 := 0) rfl rfl)) rfl rfl hl.1 rfl (lv_room (Nat.le_of_ble_eq_true rfl)) d_Md_mask_4 ⟨Nat.le_of_ble_eq_true rfl, Nat.le_of_ble_eq_true rfl⟩) hP hD hS hA [0] [1] rfl rfl (by decide) (by decide) (fun H locs hP hD hS => ?_)
  have hP : va_P D vwCl [(a_this_inside, .inl (ar 1, 256, .inl s_inside)), (a_this, .inr (9, [.int s_code, .int s_width, .int s_height, .ref a_this_inside, .ref a_this_values, .ref a_this_partOf, .ref a_this_waves, .int s_isRead, .int s_readWide, .int s_readHigh, .int s_readPlanes, .ref a_this_readInside, .ref a_this_readPart, .ref a_this_readValues, .ref a_this_stream, .int s_streamBits, .ref a_this_zeros, .ref a_this_fed, .int s_fedMany, .ref a_this_pile, .int s_mode, .int s_limit, .int s_count, .ref a_this_open, .ref a_this_sizes, .ref a_this_below]))] H := hP
  have hD : va_D A [(a_this_inside, .inl (ar 1, 256, .inl s_inside)), (a_this, .inr (9, [.int s_code, .int s_width, .int s_height, .ref a_this_inside, .ref a_this_values, .ref a_this_partOf, .ref a_this_waves, .int s_isRead, .int s_readWide, .int s_readHigh, .int s_readPlanes, .ref a_this_readInside, .ref a_this_readPart, .ref a_this_readValues, .ref a_this_stream, .int s_streamBits, .ref a_this_zeros, .ref a_this_fed, .int s_fedMany, .ref a_this_pile, .int s_mode, .int s_limit, .int s_count, .ref a_this_open, .ref a_this_sizes, .ref a_this_below]))] := hD
  refine lv_if_ne (tgt := 14) hx hb d_Md_mask_7 (by decide) (fun c_2 => ?_) (fun c_2 => ?_)
  · have h := Eq.trans (if_neg c_2).symm h
    refine lv_iload_n hx hb d_Md_mask_14 rfl (lv_at hl 3 rfl) ?_
    refine lv_iconst (v := (1 : Int32)) hx hb d_Md_mask_15 (by decide) ?_
    refine lv_icmp_ge (tgt := 23) hx hb d_Md_mask_16 (by decide) (fun c_3 => ?_) (fun c_3 => ?_)
    · have h := Eq.trans (if_pos c_3).symm h
      refine lv_iconst (v := (0 : Int32)) hx hb d_Md_mask_23 (by decide) ?_
      exact w_Md_mask_b24 C0 x1 x2 x3 x4 (0 : Int32) s_code s_height s_width s_inside h _ _ _ (hP.sub [1, 0] rfl) (hD.sub [1, 0] (by decide) rfl) hS hl
    · have h := Eq.trans (if_neg c_3).symm h
      refine lv_iconst (v := (2 : Int32)) hx hb d_Md_mask_19 (by decide) ?_
      refine lv_goto (tgt := 24) hx hb d_Md_mask_20 (by decide) ?_
      exact w_Md_mask_b24 C0 x1 x2 x3 x4 (2 : Int32) s_code s_height s_width s_inside h _ _ _ (hP.sub [1, 0] rfl) (hD.sub [1, 0] (by decide) rfl) hS hl
  · have h := Eq.trans (if_pos c_2).symm h
    refine lv_iconst (v := (1 : Int32)) hx hb d_Md_mask_10 (by decide) ?_
    refine lv_goto (tgt := 24) hx hb d_Md_mask_11 (by decide) ?_
    exact w_Md_mask_b24 C0 x1 x2 x3 x4 (1 : Int32) s_code s_height s_width s_inside h _ _ _ (hP.sub [1, 0] rfl) (hD.sub [1, 0] (by decide) rfl) hS hl
abbrev rm_Md_put : Room := { frames := 1, cells := 0, slots := 0, locals := 22 }
def m_Md_put_b96 (fu : Nat) (rec : Int32 → Int32 → (Nat → Int32) → Option ((Int32 × (Nat → Int32)))) (x1 : Int32) (x2 : Int32) (x3 : Int32) (x4 : Int32) (x6 : Int32) (t0 : Int32) (t1 : Int32) (s_code : Int32) (s_height : Int32) (s_width : Int32) (s_values : Nat → Int32) : Option ((Int32 × (Nat → Int32))) :=
  letB (t1 + t0) (fun x5_9 => chk ((((16 : Int32) * x2) + x1) + x6) 256 (letB (x6 + (1 : Int32)) (fun x6_11 => rec x5_9 x6_11 (upd s_values ((((16 : Int32) * x2) + x1) + x6).toNatClampNeg x4))))
set_option maxHeartbeats 4000000 in
set_option maxRecDepth 100000 in
theorem w_Md_put_b96 {p : Program} {l : Launch} {e : Env} {s : State} {m : MethodId} {args : Array Value} {below : List Frame} {meth : Method} {c : Code} {D : va_G} {ar : Nat → ClassId} {A : Nat → Prop} {Q : State → Prop} {fu : Nat} {a_this a_this_inside a_this_values a_this_partOf a_this_waves a_this_readInside a_this_readPart a_this_readValues a_this_stream a_this_zeros a_this_fed a_this_pile a_this_open a_this_sizes a_this_below : Nat} {s_isRead : Int32} {s_readWide : Int32} {s_readHigh : Int32} {s_readPlanes : Int32} {s_streamBits : Int32} {s_fedMany : Int32} {s_mode : Int32} {s_limit : Int32} {s_count : Int32} {o_x5 : Int32} {o_values : Nat → Int32} (C0 : CX p s m meth c args prog_12_method_5_code 7 (some .int) "FreeWaveletsModel" D ar A) (x1 : Int32) (x2 : Int32) (x3 : Int32) (x4 : Int32) (x6 : Int32) (t0 : Int32) (t1 : Int32) (s_code : Int32) (s_height : Int32) (s_width : Int32) (s_values : Nat → Int32) (rec : Int32 → Int32 → (Nat → Int32) → Option ((Int32 × (Nat → Int32)))) (hrec : ∀ (x5 : Int32) (x6 : Int32) (s_values : Nat → Int32), rec x5 x6 s_values = some (o_x5, o_values) → WA p l e rm_Md_put s m args below meth c D A 7 Q 46 [(a_this, .inr (9, [.int s_code, .int s_width, .int s_height, .ref a_this_inside, .ref a_this_values, .ref a_this_partOf, .ref a_this_waves, .int s_isRead, .int s_readWide, .int s_readHigh, .int s_readPlanes, .ref a_this_readInside, .ref a_this_readPart, .ref a_this_readValues, .ref a_this_stream, .int s_streamBits, .ref a_this_zeros, .ref a_this_fed, .int s_fedMany, .ref a_this_pile, .int s_mode, .int s_limit, .int s_count, .ref a_this_open, .ref a_this_sizes, .ref a_this_below])), (a_this_values, .inl (ar 0, 256, .inl s_values))] [(0, .ref a_this), (1, .int x1), (2, .int x2), (3, .int x3), (4, .int x4), (5, .int x5), (6, .int x6)] []) (K1 : WA p l e rm_Md_put s m args below meth c D A 7 Q 121 [(a_this, .inr (9, [.int s_code, .int s_width, .int s_height, .ref a_this_inside, .ref a_this_values, .ref a_this_partOf, .ref a_this_waves, .int s_isRead, .int s_readWide, .int s_readHigh, .int s_readPlanes, .ref a_this_readInside, .ref a_this_readPart, .ref a_this_readValues, .ref a_this_stream, .int s_streamBits, .ref a_this_zeros, .ref a_this_fed, .int s_fedMany, .ref a_this_pile, .int s_mode, .int s_limit, .int s_count, .ref a_this_open, .ref a_this_sizes, .ref a_this_below])), (a_this_values, .inl (ar 0, 256, .inl o_values))] [(5, .int o_x5)] []) (h : m_Md_put_b96 fu rec x1 x2 x3 x4 x6 t0 t1 s_code s_height s_width s_values = some (o_x5, o_values)) : WA p l e rm_Md_put s m args below meth c D A 7 Q 96 [(a_this, .inr (9, [.int s_code, .int s_width, .int s_height, .ref a_this_inside, .ref a_this_values, .ref a_this_partOf, .ref a_this_waves, .int s_isRead, .int s_readWide, .int s_readHigh, .int s_readPlanes, .ref a_this_readInside, .ref a_this_readPart, .ref a_this_readValues, .ref a_this_stream, .int s_streamBits, .ref a_this_zeros, .ref a_this_fed, .int s_fedMany, .ref a_this_pile, .int s_mode, .int s_limit, .int s_count, .ref a_this_open, .ref a_this_sizes, .ref a_this_below])), (a_this_values, .inl (ar 0, 256, .inl s_values))] [(0, .ref a_this), (1, .int x1), (2, .int x2), (3, .int x3), (4, .int x4), (6, .int x6)] [.int t0, .int t1] := by
  intro H locs ls hP hD hS hl
  obtain ⟨hx, hb, hr, hml, hown, hts, hlocks, hA, hK, hZ⟩ := id C0
  unfold m_Md_put_b96 at h
  refine lv_iadd hx hb d_Md_put_96 ?_
  refine lv_topi (fun x5_9 e_x5_9 => ?_)
  have h := letB_at e_x5_9 h
  refine lv_istore (lv' := [(5, .int x5_9), (0, .ref a_this), (1, .int x1), (2, .int x2), (3, .int x3), (4, .int x4), (6, .int x6)]) hx hb d_Md_put_97 hl (by decide) rfl (fun ls hl => ?_)
  refine lv_aload_n hx hb d_Md_put_99 rfl (lv_at hl 1 rfl) ?_
  refine va_get (D := D) (ci := 9) (v := .ref a_this_values) (C := R_Md) (T := F_Md) (N := 26) hx hb hts in_Md hown hK hP 0 rfl rfl 4 (by decide) (hts _ k_773) (fun _ h9 => h9) rfl d_Md_put_100 ?_
  refine lv_bipush (v := (16 : Int32)) hx hb d_Md_put_103 (by decide) ?_
  refine lv_iload_n hx hb d_Md_put_105 rfl (lv_at hl 3 rfl) ?_
  refine lv_imul hx hb d_Md_put_106 ?_
  refine lv_iload_n hx hb d_Md_put_107 rfl (lv_at hl 2 rfl) ?_
  refine lv_iadd hx hb d_Md_put_108 ?_
  refine lv_iload hx hb d_Md_put_109 (lv_at hl 6 rfl) ?_
  refine lv_iadd hx hb d_Md_put_111 ?_
  refine lv_iload hx hb d_Md_put_112 (lv_at hl 5 rfl) ?_
  obtain ⟨b_10, h⟩ := chk_some h
  refine va_iast hx hb hK hP hD hS 1 0 rfl rfl b_10 d_Md_put_114 (fun H locs hP hD hS => ?_)
  have hP : va_P D vwCl [(a_this, .inr (9, [.int s_code, .int s_width, .int s_height, .ref a_this_inside, .ref a_this_values, .ref a_this_partOf, .ref a_this_waves, .int s_isRead, .int s_readWide, .int s_readHigh, .int s_readPlanes, .ref a_this_readInside, .ref a_this_readPart, .ref a_this_readValues, .ref a_this_stream, .int s_streamBits, .ref a_this_zeros, .ref a_this_fed, .int s_fedMany, .ref a_this_pile, .int s_mode, .int s_limit, .int s_count, .ref a_this_open, .ref a_this_sizes, .ref a_this_below])), (a_this_values, .inl (ar 0, 256, .inl (upd s_values ((((16 : Int32) * x2) + x1) + x6).toNatClampNeg x4)))] H := hP
  have hD : va_D A [(a_this, .inr (9, [.int s_code, .int s_width, .int s_height, .ref a_this_inside, .ref a_this_values, .ref a_this_partOf, .ref a_this_waves, .int s_isRead, .int s_readWide, .int s_readHigh, .int s_readPlanes, .ref a_this_readInside, .ref a_this_readPart, .ref a_this_readValues, .ref a_this_stream, .int s_streamBits, .ref a_this_zeros, .ref a_this_fed, .int s_fedMany, .ref a_this_pile, .int s_mode, .int s_limit, .int s_count, .ref a_this_open, .ref a_this_sizes, .ref a_this_below])), (a_this_values, .inl (ar 0, 256, .inl (upd s_values ((((16 : Int32) * x2) + x1) + x6).toNatClampNeg x4)))] := hD
  obtain ⟨x6_11, e_x6_11⟩ : ∃ y : Int32, y = x6 + (1 : Int32) := ⟨_, rfl⟩
  have h := letB_at e_x6_11 h
  refine lv_iinc (v := x6_11) (lv' := [(6, .int x6_11), (5, .int x5_9), (0, .ref a_this), (1, .int x1), (2, .int x2), (3, .int x3), (4, .int x4)]) hx hb d_Md_put_115 hl (k := 6) rfl (by rw [e_x6_11]; rfl) (by decide) rfl (fun ls hl => ?_)
  refine lv_goto (tgt := 46) hx hb d_Md_put_118 (by decide) ?_
  exact hrec x5_9 x6_11 (upd s_values ((((16 : Int32) * x2) + x1) + x6).toNatClampNeg x4) h _ _ _ hP hD hS (lv_sub hl [2, 3, 4, 5, 6, 1, 0] rfl)
def m_Md_put_k46 (fu : Nat) (x1 : Int32) (x2 : Int32) (x3 : Int32) (x4 : Int32) (s_code : Int32) (s_height : Int32) (s_width : Int32) (rec : Int32 → Int32 → (Nat → Int32) → Option ((Int32 × (Nat → Int32)))) (x5 : Int32) (x6 : Int32) (s_values : Nat → Int32) : Option ((Int32 × (Nat → Int32))) :=
  if x3 ≤ x6 then (some (x5, s_values)) else (if s_width ≤ (x1 + x6) then (some (x5, s_values)) else (if s_code = (0 : Int32) then (chk ((((16 : Int32) * x2) + x1) + x6) 256 (if (s_values ((((16 : Int32) * x2) + x1) + x6).toNatClampNeg) = x4 then (m_Md_put_b96 fu rec x1 x2 x3 x4 x6 (0 : Int32) x5 s_code s_height s_width s_values) else (m_Md_put_b96 fu rec x1 x2 x3 x4 x6 (1 : Int32) x5 s_code s_height s_width s_values))) else (some (x5, s_values))))
set_option maxHeartbeats 4000000 in
set_option maxRecDepth 100000 in
theorem w_Md_put_l46 {p : Program} {l : Launch} {e : Env} {s : State} {m : MethodId} {args : Array Value} {below : List Frame} {meth : Method} {c : Code} {D : va_G} {ar : Nat → ClassId} {A : Nat → Prop} {Q : State → Prop} {fu : Nat} {a_this a_this_inside a_this_values a_this_partOf a_this_waves a_this_readInside a_this_readPart a_this_readValues a_this_stream a_this_zeros a_this_fed a_this_pile a_this_open a_this_sizes a_this_below : Nat} {s_isRead : Int32} {s_readWide : Int32} {s_readHigh : Int32} {s_readPlanes : Int32} {s_streamBits : Int32} {s_fedMany : Int32} {s_mode : Int32} {s_limit : Int32} {s_count : Int32} (C0 : CX p s m meth c args prog_12_method_5_code 7 (some .int) "FreeWaveletsModel" D ar A) (x1 : Int32) (x2 : Int32) (x3 : Int32) (x4 : Int32) (s_code : Int32) (s_height : Int32) (s_width : Int32) : ∀ (n : Nat) (x5 : Int32) (x6 : Int32) (s_values : Nat → Int32) (o_x5 : Int32) (o_values : Nat → Int32), loop3 (m_Md_put_k46 fu x1 x2 x3 x4 s_code s_height s_width) n x5 x6 s_values = some (o_x5, o_values) → (WA p l e rm_Md_put s m args below meth c D A 7 Q 121 [(a_this, .inr (9, [.int s_code, .int s_width, .int s_height, .ref a_this_inside, .ref a_this_values, .ref a_this_partOf, .ref a_this_waves, .int s_isRead, .int s_readWide, .int s_readHigh, .int s_readPlanes, .ref a_this_readInside, .ref a_this_readPart, .ref a_this_readValues, .ref a_this_stream, .int s_streamBits, .ref a_this_zeros, .ref a_this_fed, .int s_fedMany, .ref a_this_pile, .int s_mode, .int s_limit, .int s_count, .ref a_this_open, .ref a_this_sizes, .ref a_this_below])), (a_this_values, .inl (ar 0, 256, .inl o_values))] [(5, .int o_x5)] []) → WA p l e rm_Md_put s m args below meth c D A 7 Q 46 [(a_this, .inr (9, [.int s_code, .int s_width, .int s_height, .ref a_this_inside, .ref a_this_values, .ref a_this_partOf, .ref a_this_waves, .int s_isRead, .int s_readWide, .int s_readHigh, .int s_readPlanes, .ref a_this_readInside, .ref a_this_readPart, .ref a_this_readValues, .ref a_this_stream, .int s_streamBits, .ref a_this_zeros, .ref a_this_fed, .int s_fedMany, .ref a_this_pile, .int s_mode, .int s_limit, .int s_count, .ref a_this_open, .ref a_this_sizes, .ref a_this_below])), (a_this_values, .inl (ar 0, 256, .inl s_values))] [(0, .ref a_this), (1, .int x1), (2, .int x2), (3, .int x3), (4, .int x4), (5, .int x5), (6, .int x6)] [] := by
  intro n
  induction n with
  | zero => intro x5 x6 s_values o_x5 o_values h; exact (no0 h).elim
  | succ n ih =>
    intro x5 x6 s_values o_x5 o_values h K1
    have hrec : ∀ (x5 : Int32) (x6 : Int32) (s_values : Nat → Int32), loop3 (m_Md_put_k46 fu x1 x2 x3 x4 s_code s_height s_width) n x5 x6 s_values = some (o_x5, o_values) → WA p l e rm_Md_put s m args below meth c D A 7 Q 46 [(a_this, .inr (9, [.int s_code, .int s_width, .int s_height, .ref a_this_inside, .ref a_this_values, .ref a_this_partOf, .ref a_this_waves, .int s_isRead, .int s_readWide, .int s_readHigh, .int s_readPlanes, .ref a_this_readInside, .ref a_this_readPart, .ref a_this_readValues, .ref a_this_stream, .int s_streamBits, .ref a_this_zeros, .ref a_this_fed, .int s_fedMany, .ref a_this_pile, .int s_mode, .int s_limit, .int s_count, .ref a_this_open, .ref a_this_sizes, .ref a_this_below])), (a_this_values, .inl (ar 0, 256, .inl s_values))] [(0, .ref a_this), (1, .int x1), (2, .int x2), (3, .int x3), (4, .int x4), (5, .int x5), (6, .int x6)] [] := fun x5 x6 s_values h => ih x5 x6 s_values o_x5 o_values h K1
    clear ih
    intro H locs ls hP hD hS hl
    obtain ⟨hx, hb, hr, hml, hown, hts, hlocks, hA, hK, hZ⟩ := id C0
    have h : m_Md_put_k46 fu x1 x2 x3 x4 s_code s_height s_width (loop3 (m_Md_put_k46 fu x1 x2 x3 x4 s_code s_height s_width) n) x5 x6 s_values = some (o_x5, o_values) := h
    unfold m_Md_put_k46 at h
    refine lv_iload hx hb d_Md_put_46 (lv_at hl 6 rfl) ?_
    refine lv_iload_n hx hb d_Md_put_48 rfl (lv_at hl 3 rfl) ?_
    refine lv_icmp_ge (tgt := 121) hx hb d_Md_put_49 (by decide) (fun c_4 => ?_) (fun c_4 => ?_)
    · have h := Eq.trans (if_pos c_4).symm h
      cases h
      exact K1 _ _ _ hP hD hS (lv_sub hl [5] rfl)
    · have h := Eq.trans (if_neg c_4).symm h
      refine lv_iload_n hx hb d_Md_put_52 rfl (lv_at hl 1 rfl) ?_
      refine lv_iload hx hb d_Md_put_53 (lv_at hl 6 rfl) ?_
      refine lv_iadd hx hb d_Md_put_55 ?_
      refine lv_aload_n hx hb d_Md_put_56 rfl (lv_at hl 0 rfl) ?_
      refine va_get (D := D) (ci := 9) (v := .int s_width) (C := R_Md) (T := F_Md) (N := 26) hx hb hts in_Md hown hK hP 0 rfl rfl 1 (by decide) (hts _ k_770) (fun _ h9 => h9) rfl d_Md_put_57 ?_
      refine lv_icmp_ge (tgt := 121) hx hb d_Md_put_60 (by decide) (fun c_5 => ?_) (fun c_5 => ?_)
      · have h := Eq.trans (if_pos c_5).symm h
        cases h
        exact K1 _ _ _ hP hD hS (lv_sub hl [5] rfl)
      · have h := Eq.trans (if_neg c_5).symm h
        refine lv_aload_n hx hb d_Md_put_63 rfl (lv_at hl 0 rfl) ?_
        refine va_get (D := D) (ci := 9) (v := .int s_code) (C := R_Md) (T := F_Md) (N := 26) hx hb hts in_Md hown hK hP 0 rfl rfl 0 (by decide) (hts _ k_769) (fun _ h9 => h9) rfl d_Md_put_64 ?_
        refine lv_if_ne (tgt := 121) hx hb d_Md_put_67 (by decide) (fun c_6 => ?_) (fun c_6 => ?_)
        · have h := Eq.trans (if_neg c_6).symm h
          cases h
          exact K1 _ _ _ hP hD hS (lv_sub hl [5] rfl)
        · have h := Eq.trans (if_pos c_6).symm h
          refine lv_iload hx hb d_Md_put_70 (lv_at hl 5 rfl) ?_
          refine lv_aload_n hx hb d_Md_put_72 rfl (lv_at hl 0 rfl) ?_
          refine va_get (D := D) (ci := 9) (v := .ref a_this_values) (C := R_Md) (T := F_Md) (N := 26) hx hb hts in_Md hown hK hP 0 rfl rfl 4 (by decide) (hts _ k_773) (fun _ h9 => h9) rfl d_Md_put_73 ?_
          refine lv_bipush (v := (16 : Int32)) hx hb d_Md_put_76 (by decide) ?_
          refine lv_iload_n hx hb d_Md_put_78 rfl (lv_at hl 2 rfl) ?_
          refine lv_imul hx hb d_Md_put_79 ?_
          refine lv_iload_n hx hb d_Md_put_80 rfl (lv_at hl 1 rfl) ?_
          refine lv_iadd hx hb d_Md_put_81 ?_
          refine lv_iload hx hb d_Md_put_82 (lv_at hl 6 rfl) ?_
          refine lv_iadd hx hb d_Md_put_84 ?_
          obtain ⟨b_7, h⟩ := chk_some h
          refine va_iald hx hb hK hP 1 0 rfl rfl b_7 d_Md_put_85 ?_
          refine lv_iload hx hb d_Md_put_86 (lv_at hl 4 rfl) ?_
          refine lv_icmp_ne (tgt := 95) hx hb d_Md_put_88 (by decide) (fun c_8 => ?_) (fun c_8 => ?_)
          · have h := Eq.trans (if_neg c_8).symm h
            refine lv_iconst (v := (1 : Int32)) hx hb d_Md_put_95 (by decide) ?_
            exact w_Md_put_b96 C0 x1 x2 x3 x4 x6 (1 : Int32) x5 s_code s_height s_width s_values _ hrec K1 h _ _ _ hP hD hS (lv_sub hl [0, 1, 2, 3, 4, 6] rfl)
          · have h := Eq.trans (if_pos c_8).symm h
            refine lv_iconst (v := (0 : Int32)) hx hb d_Md_put_91 (by decide) ?_
            refine lv_goto (tgt := 96) hx hb d_Md_put_92 (by decide) ?_
            exact w_Md_put_b96 C0 x1 x2 x3 x4 x6 (0 : Int32) x5 s_code s_height s_width s_values _ hrec K1 h _ _ _ hP hD hS (lv_sub hl [0, 1, 2, 3, 4, 6] rfl)
def m_Md_put_b37 (fu : Nat) (x1 : Int32) (x2 : Int32) (x3 : Int32) (x4 : Int32) (t0 : Int32) (s_code : Int32) (s_height : Int32) (s_width : Int32) (s_values : Nat → Int32) : Option (Int32 × Int32 × (Nat → Int32)) :=
  bn2 (loop3 (m_Md_put_k46 fu x1 x2 x3 x4 t0 s_height s_width) fu (0 : Int32) (0 : Int32) s_values) (fun o_x5_12 o_values_13 => some (o_x5_12, t0, o_values_13))
set_option maxHeartbeats 4000000 in
set_option maxRecDepth 100000 in
theorem w_Md_put_b37 {p : Program} {l : Launch} {e : Env} {s : State} {m : MethodId} {args : Array Value} {below : List Frame} {meth : Method} {c : Code} {D : va_G} {ar : Nat → ClassId} {A : Nat → Prop} {fu : Nat} {a_this a_this_inside a_this_values a_this_partOf a_this_waves a_this_readInside a_this_readPart a_this_readValues a_this_stream a_this_zeros a_this_fed a_this_pile a_this_open a_this_sizes a_this_below : Nat} {s_isRead : Int32} {s_readWide : Int32} {s_readHigh : Int32} {s_readPlanes : Int32} {s_streamBits : Int32} {s_fedMany : Int32} {s_mode : Int32} {s_limit : Int32} {s_count : Int32} {r_v : Int32} {r_code : Int32} {r_values : Nat → Int32} (C0 : CX p s m meth c args prog_12_method_5_code 7 (some .int) "FreeWaveletsModel" D ar A) (x1 : Int32) (x2 : Int32) (x3 : Int32) (x4 : Int32) (t0 : Int32) (s_code : Int32) (s_height : Int32) (s_width : Int32) (s_values : Nat → Int32) (h : m_Md_put_b37 fu x1 x2 x3 x4 t0 s_code s_height s_width s_values = some (r_v, r_code, r_values)) : WA p l e rm_Md_put s m args below meth c D A 7 (MQ below (QI D ar [(a_this, .inr (9, [.int r_code, .int s_width, .int s_height, .ref a_this_inside, .ref a_this_values, .ref a_this_partOf, .ref a_this_waves, .int s_isRead, .int s_readWide, .int s_readHigh, .int s_readPlanes, .ref a_this_readInside, .ref a_this_readPart, .ref a_this_readValues, .ref a_this_stream, .int s_streamBits, .ref a_this_zeros, .ref a_this_fed, .int s_fedMany, .ref a_this_pile, .int s_mode, .int s_limit, .int s_count, .ref a_this_open, .ref a_this_sizes, .ref a_this_below])), (a_this_values, .inl (ar 0, 256, .inl r_values))] r_v A) args s 0 0 A) 37 [(a_this, .inr (9, [.int s_code, .int s_width, .int s_height, .ref a_this_inside, .ref a_this_values, .ref a_this_partOf, .ref a_this_waves, .int s_isRead, .int s_readWide, .int s_readHigh, .int s_readPlanes, .ref a_this_readInside, .ref a_this_readPart, .ref a_this_readValues, .ref a_this_stream, .int s_streamBits, .ref a_this_zeros, .ref a_this_fed, .int s_fedMany, .ref a_this_pile, .int s_mode, .int s_limit, .int s_count, .ref a_this_open, .ref a_this_sizes, .ref a_this_below])), (a_this_values, .inl (ar 0, 256, .inl s_values))] [(0, .ref a_this), (1, .int x1), (2, .int x2), (3, .int x3), (4, .int x4)] [.int t0, .ref a_this] := by
  intro H locs ls hP hD hS hl
  obtain ⟨hx, hb, hr, hml, hown, hts, hlocks, hA, hK, hZ⟩ := id C0
  unfold m_Md_put_b37 at h
  refine va_put (D := D) (ci := 9) (v := .int t0) (ty := .int) (C := R_Md) (T := F_Md) (N := 26) hx hb hts in_Md t_Md t_Md_ok n_Md hown hK hP hD hS 0 rfl rfl 0 (by decide) (hts _ k_769) (fun _ h9 => h9) rfl (by decide +kernel) rfl rfl (Nat.le_of_ble_eq_true rfl) d_Md_put_37 (fun H locs hP hD hS => ?_)
  have hP : va_P D vwCl [(a_this, .inr (9, [.int t0, .int s_width, .int s_height, .ref a_this_inside, .ref a_this_values, .ref a_this_partOf, .ref a_this_waves, .int s_isRead, .int s_readWide, .int s_readHigh, .int s_readPlanes, .ref a_this_readInside, .ref a_this_readPart, .ref a_this_readValues, .ref a_this_stream, .int s_streamBits, .ref a_this_zeros, .ref a_this_fed, .int s_fedMany, .ref a_this_pile, .int s_mode, .int s_limit, .int s_count, .ref a_this_open, .ref a_this_sizes, .ref a_this_below])), (a_this_values, .inl (ar 0, 256, .inl s_values))] H := hP
  have hD : va_D A [(a_this, .inr (9, [.int t0, .int s_width, .int s_height, .ref a_this_inside, .ref a_this_values, .ref a_this_partOf, .ref a_this_waves, .int s_isRead, .int s_readWide, .int s_readHigh, .int s_readPlanes, .ref a_this_readInside, .ref a_this_readPart, .ref a_this_readValues, .ref a_this_stream, .int s_streamBits, .ref a_this_zeros, .ref a_this_fed, .int s_fedMany, .ref a_this_pile, .int s_mode, .int s_limit, .int s_count, .ref a_this_open, .ref a_this_sizes, .ref a_this_below])), (a_this_values, .inl (ar 0, 256, .inl s_values))] := hD
  refine lv_iconst (v := (0 : Int32)) hx hb d_Md_put_40 (by decide) ?_
  refine lv_istore (lv' := [(5, .int (0 : Int32)), (0, .ref a_this), (1, .int x1), (2, .int x2), (3, .int x3), (4, .int x4)]) hx hb d_Md_put_41 hl (by decide) rfl (fun ls hl => ?_)
  refine lv_iconst (v := (0 : Int32)) hx hb d_Md_put_43 (by decide) ?_
  refine lv_istore (lv' := [(6, .int (0 : Int32)), (5, .int (0 : Int32)), (0, .ref a_this), (1, .int x1), (2, .int x2), (3, .int x3), (4, .int x4)]) hx hb d_Md_put_44 hl (by decide) rfl (fun ls hl => ?_)
  obtain ⟨o_x5_12, o_values_13, hloop, h⟩ := bn2_some h
  refine w_Md_put_l46 C0 x1 x2 x3 x4 t0 s_height s_width fu (0 : Int32) (0 : Int32) s_values _ _ hloop ?_ _ _ _ hP hD hS (lv_sub hl [2, 3, 4, 5, 6, 1, 0] rfl)
  clear hP hD hS hl hloop
  intro H locs ls hP hD hS hl
  refine lv_iload hx hb d_Md_put_121 (lv_at hl 0 rfl) ?_
  cases h
  exact sd_iret hx hb hr hlocks hP hD hK hS d_Md_put_123
def m_Md_put_b32 (fu : Nat) (x1 : Int32) (x2 : Int32) (x3 : Int32) (x4 : Int32) (s_code : Int32) (s_height : Int32) (s_width : Int32) (s_values : Nat → Int32) : Option (Int32 × Int32 × (Nat → Int32)) :=
  m_Md_put_b37 fu x1 x2 x3 x4 (2 : Int32) s_code s_height s_width s_values
set_option maxHeartbeats 4000000 in
set_option maxRecDepth 100000 in
theorem w_Md_put_b32 {p : Program} {l : Launch} {e : Env} {s : State} {m : MethodId} {args : Array Value} {below : List Frame} {meth : Method} {c : Code} {D : va_G} {ar : Nat → ClassId} {A : Nat → Prop} {fu : Nat} {a_this a_this_inside a_this_values a_this_partOf a_this_waves a_this_readInside a_this_readPart a_this_readValues a_this_stream a_this_zeros a_this_fed a_this_pile a_this_open a_this_sizes a_this_below : Nat} {s_isRead : Int32} {s_readWide : Int32} {s_readHigh : Int32} {s_readPlanes : Int32} {s_streamBits : Int32} {s_fedMany : Int32} {s_mode : Int32} {s_limit : Int32} {s_count : Int32} {r_v : Int32} {r_code : Int32} {r_values : Nat → Int32} (C0 : CX p s m meth c args prog_12_method_5_code 7 (some .int) "FreeWaveletsModel" D ar A) (x1 : Int32) (x2 : Int32) (x3 : Int32) (x4 : Int32) (s_code : Int32) (s_height : Int32) (s_width : Int32) (s_values : Nat → Int32) (h : m_Md_put_b32 fu x1 x2 x3 x4 s_code s_height s_width s_values = some (r_v, r_code, r_values)) : WA p l e rm_Md_put s m args below meth c D A 7 (MQ below (QI D ar [(a_this, .inr (9, [.int r_code, .int s_width, .int s_height, .ref a_this_inside, .ref a_this_values, .ref a_this_partOf, .ref a_this_waves, .int s_isRead, .int s_readWide, .int s_readHigh, .int s_readPlanes, .ref a_this_readInside, .ref a_this_readPart, .ref a_this_readValues, .ref a_this_stream, .int s_streamBits, .ref a_this_zeros, .ref a_this_fed, .int s_fedMany, .ref a_this_pile, .int s_mode, .int s_limit, .int s_count, .ref a_this_open, .ref a_this_sizes, .ref a_this_below])), (a_this_values, .inl (ar 0, 256, .inl r_values))] r_v A) args s 0 0 A) 32 [(a_this, .inr (9, [.int s_code, .int s_width, .int s_height, .ref a_this_inside, .ref a_this_values, .ref a_this_partOf, .ref a_this_waves, .int s_isRead, .int s_readWide, .int s_readHigh, .int s_readPlanes, .ref a_this_readInside, .ref a_this_readPart, .ref a_this_readValues, .ref a_this_stream, .int s_streamBits, .ref a_this_zeros, .ref a_this_fed, .int s_fedMany, .ref a_this_pile, .int s_mode, .int s_limit, .int s_count, .ref a_this_open, .ref a_this_sizes, .ref a_this_below])), (a_this_values, .inl (ar 0, 256, .inl s_values))] [(0, .ref a_this), (1, .int x1), (2, .int x2), (3, .int x3), (4, .int x4)] [.ref a_this] := by
  intro H locs ls hP hD hS hl
  obtain ⟨hx, hb, hr, hml, hown, hts, hlocks, hA, hK, hZ⟩ := id C0
  unfold m_Md_put_b32 at h
  refine lv_iconst (v := (2 : Int32)) hx hb d_Md_put_32 (by decide) ?_
  refine lv_goto (tgt := 37) hx hb d_Md_put_33 (by decide) ?_
  exact w_Md_put_b37 C0 x1 x2 x3 x4 (2 : Int32) s_code s_height s_width s_values h _ _ _ hP hD hS hl
def m_Md_put (fu : Nat) (x1 : Int32) (x2 : Int32) (x3 : Int32) (x4 : Int32) (s_code : Int32) (s_height : Int32) (s_width : Int32) (s_values : Nat → Int32) : Option (Int32 × Int32 × (Nat → Int32)) :=
  bn1 (m_Md_isSample fu x1 x2 s_height s_width) (fun r_1 => if r_1 = (0 : Int32) then (m_Md_put_b37 fu x1 x2 x3 x4 (1 : Int32) s_code s_height s_width s_values) else (if x3 < (1 : Int32) then (m_Md_put_b32 fu x1 x2 x3 x4 s_code s_height s_width s_values) else (if x4 < (0 : Int32) then (m_Md_put_b32 fu x1 x2 x3 x4 s_code s_height s_width s_values) else (if x4 ≤ (255 : Int32) then (m_Md_put_b37 fu x1 x2 x3 x4 (0 : Int32) s_code s_height s_width s_values) else (m_Md_put_b32 fu x1 x2 x3 x4 s_code s_height s_width s_values)))))
set_option maxHeartbeats 4000000 in
set_option maxRecDepth 100000 in
theorem c_Md_put {l : Launch} {D : va_G} {ar : Nat → ClassId} {fu : Nat} (a_this a_this_inside a_this_values a_this_partOf a_this_waves a_this_readInside a_this_readPart a_this_readValues a_this_stream a_this_zeros a_this_fed a_this_pile a_this_open a_this_sizes a_this_below : Nat) (s_isRead : Int32) (s_readWide : Int32) (s_readHigh : Int32) (s_readPlanes : Int32) (s_streamBits : Int32) (s_fedMany : Int32) (s_mode : Int32) (s_limit : Int32) (s_count : Int32) (x1 : Int32) (x2 : Int32) (x3 : Int32) (x4 : Int32) (s_code : Int32) (s_height : Int32) (s_width : Int32) (s_values : Nat → Int32) {r_v : Int32} {r_code : Int32} {r_values : Nat → Int32} (h : m_Md_put fu x1 x2 x3 x4 s_code s_height s_width s_values = some (r_v, r_code, r_values)) : StdI l y_Md_put ws_Md_put rm_Md_put D ar [.ref a_this, .int x1, .int x2, .int x3, .int x4] [(a_this, .inr (9, [.int s_code, .int s_width, .int s_height, .ref a_this_inside, .ref a_this_values, .ref a_this_partOf, .ref a_this_waves, .int s_isRead, .int s_readWide, .int s_readHigh, .int s_readPlanes, .ref a_this_readInside, .ref a_this_readPart, .ref a_this_readValues, .ref a_this_stream, .int s_streamBits, .ref a_this_zeros, .ref a_this_fed, .int s_fedMany, .ref a_this_pile, .int s_mode, .int s_limit, .int s_count, .ref a_this_open, .ref a_this_sizes, .ref a_this_below])), (a_this_values, .inl (ar 0, 256, .inl s_values))] [(a_this, .inr (9, [.int r_code, .int s_width, .int s_height, .ref a_this_inside, .ref a_this_values, .ref a_this_partOf, .ref a_this_waves, .int s_isRead, .int s_readWide, .int s_readHigh, .int s_readPlanes, .ref a_this_readInside, .ref a_this_readPart, .ref a_this_readValues, .ref a_this_stream, .int s_streamBits, .ref a_this_zeros, .ref a_this_fed, .int s_fedMany, .ref a_this_pile, .int s_mode, .int s_limit, .int s_count, .ref a_this_open, .ref a_this_sizes, .ref a_this_below])), (a_this_values, .inl (ar 0, 256, .inl r_values))] r_v := by
  refine sd_metI (cc := prog_12_method_5_code) (maxL := 7) (ret := (some .int)) (own := "FreeWaveletsModel") (by decide) rfl rfl (Nat.le_of_ble_eq_true rfl) ?_
  intro p e s m below meth c A ls C0 hP hD hl
  obtain ⟨hx, hb, hr, hml, hown, hts, hlocks, hA, hK, hZ⟩ := id C0
  have hS : va_S A s.heap s.heap [] := va_S.rf
  have hl : lv_has ls 7 [(0, .ref a_this), (1, .int x1), (2, .int x2), (3, .int x3), (4, .int x4)] := hl
  unfold m_Md_put at h
  refine lv_aload_n hx hb d_Md_put_0 rfl (lv_at hl 0 rfl) ?_
  refine lv_aload_n hx hb d_Md_put_1 rfl (lv_at hl 0 rfl) ?_
  refine lv_iload_n hx hb d_Md_put_2 rfl (lv_at hl 1 rfl) ?_
  refine lv_iload_n hx hb d_Md_put_3 rfl (lv_at hl 2 rfl) ?_
  obtain ⟨r_1, hcall, h⟩ := bn1_some h
  refine sd_i (wr := [(a_this_values, .inl (ar 0, 256, .inl s_values))]) (va_runV (As := [.int x1, .int x2]) (rest := [.ref a_this]) ⟨hx, hb, hml, hown, hts⟩ (c_Md_isSample a_this a_this_inside a_this_values a_this_partOf a_this_waves a_this_readInside a_this_readPart a_this_readValues a_this_stream a_this_zeros a_this_fed a_this_pile a_this_open a_this_sizes a_this_below s_code s_isRead s_readWide s_readHigh s_readPlanes s_streamBits s_fedMany s_mode s_limit s_count x1 x2 s_height s_width hcall _) (cw_V 2 hts k_856 k_858 k_12 k_40 k_859 rfl rfl (by decide +kernel) ⟨Nat.le_of_ble_eq_true rfl, Nat.le_of_ble_eq_true rfl⟩) (sd_preV hK hP hD hS hA hZ [0] (by decide) rfl (va_recv hK hP (ci := 9) (q0 := 0) rfl rfl)) rfl rfl hl.1 rfl (lv_room (Nat.le_of_ble_eq_true rfl)) d_Md_put_4 ⟨Nat.le_of_ble_eq_true rfl, Nat.le_of_ble_eq_true rfl⟩) hP hD hS hA [0] [1] rfl rfl (by decide) (by decide) (fun H locs hP hD hS => ?_)
  have hP : va_P D vwCl [(a_this_values, .inl (ar 0, 256, .inl s_values)), (a_this, .inr (9, [.int s_code, .int s_width, .int s_height, .ref a_this_inside, .ref a_this_values, .ref a_this_partOf, .ref a_this_waves, .int s_isRead, .int s_readWide, .int s_readHigh, .int s_readPlanes, .ref a_this_readInside, .ref a_this_readPart, .ref a_this_readValues, .ref a_this_stream, .int s_streamBits, .ref a_this_zeros, .ref a_this_fed, .int s_fedMany, .ref a_this_pile, .int s_mode, .int s_limit, .int s_count, .ref a_this_open, .ref a_this_sizes, .ref a_this_below]))] H := hP
  have hD : va_D A [(a_this_values, .inl (ar 0, 256, .inl s_values)), (a_this, .inr (9, [.int s_code, .int s_width, .int s_height, .ref a_this_inside, .ref a_this_values, .ref a_this_partOf, .ref a_this_waves, .int s_isRead, .int s_readWide, .int s_readHigh, .int s_readPlanes, .ref a_this_readInside, .ref a_this_readPart, .ref a_this_readValues, .ref a_this_stream, .int s_streamBits, .ref a_this_zeros, .ref a_this_fed, .int s_fedMany, .ref a_this_pile, .int s_mode, .int s_limit, .int s_count, .ref a_this_open, .ref a_this_sizes, .ref a_this_below]))] := hD
  refine lv_if_ne (tgt := 14) hx hb d_Md_put_7 (by decide) (fun c_2 => ?_) (fun c_2 => ?_)
  · have h := Eq.trans (if_neg c_2).symm h
    refine lv_iload_n hx hb d_Md_put_14 rfl (lv_at hl 3 rfl) ?_
    refine lv_iconst (v := (1 : Int32)) hx hb d_Md_put_15 (by decide) ?_
    refine lv_icmp_lt (tgt := 32) hx hb d_Md_put_16 (by decide) (fun c_3 => ?_) (fun c_3 => ?_)
    · have h := Eq.trans (if_pos c_3).symm h
      exact w_Md_put_b32 C0 x1 x2 x3 x4 s_code s_height s_width s_values h _ _ _ (hP.sub [1, 0] rfl) (hD.sub [1, 0] (by decide) rfl) hS hl
    · have h := Eq.trans (if_neg c_3).symm h
      refine lv_iload hx hb d_Md_put_19 (lv_at hl 4 rfl) ?_
      refine lv_if_lt (tgt := 32) hx hb d_Md_put_21 (by decide) (fun c_14 => ?_) (fun c_14 => ?_)
      · have h := Eq.trans (if_pos c_14).symm h
        exact w_Md_put_b32 C0 x1 x2 x3 x4 s_code s_height s_width s_values h _ _ _ (hP.sub [1, 0] rfl) (hD.sub [1, 0] (by decide) rfl) hS hl
      · have h := Eq.trans (if_neg c_14).symm h
        refine lv_iload hx hb d_Md_put_24 (lv_at hl 4 rfl) ?_
        refine lv_sipush (v := (255 : Int32)) hx hb d_Md_put_26 (by decide) ?_
        refine lv_icmp_le (tgt := 36) hx hb d_Md_put_29 (by decide) (fun c_15 => ?_) (fun c_15 => ?_)
        · have h := Eq.trans (if_pos c_15).symm h
          refine lv_iconst (v := (0 : Int32)) hx hb d_Md_put_36 (by decide) ?_
          exact w_Md_put_b37 C0 x1 x2 x3 x4 (0 : Int32) s_code s_height s_width s_values h _ _ _ (hP.sub [1, 0] rfl) (hD.sub [1, 0] (by decide) rfl) hS hl
        · have h := Eq.trans (if_neg c_15).symm h
          exact w_Md_put_b32 C0 x1 x2 x3 x4 s_code s_height s_width s_values h _ _ _ (hP.sub [1, 0] rfl) (hD.sub [1, 0] (by decide) rfl) hS hl
  · have h := Eq.trans (if_pos c_2).symm h
    refine lv_iconst (v := (1 : Int32)) hx hb d_Md_put_10 (by decide) ?_
    refine lv_goto (tgt := 37) hx hb d_Md_put_11 (by decide) ?_
    exact w_Md_put_b37 C0 x1 x2 x3 x4 (1 : Int32) s_code s_height s_width s_values h _ _ _ (hP.sub [1, 0] rfl) (hD.sub [1, 0] (by decide) rfl) hS hl
abbrev rm_Md_beside : Room := { frames := 0, cells := 0, slots := 0, locals := 0 }
def m_Md_beside_b79 (fu : Nat) (t0 : Int32) : Option (Int32) :=
  some t0
set_option maxHeartbeats 4000000 in
set_option maxRecDepth 100000 in
theorem w_Md_beside_b79 {p : Program} {l : Launch} {e : Env} {s : State} {m : MethodId} {args : Array Value} {below : List Frame} {meth : Method} {c : Code} {D : va_G} {ar : Nat → ClassId} {A : Nat → Prop} {fu : Nat} {r_v : Int32} (C0 : CX p s m meth c args prog_12_method_6_code 4 (some .int) "FreeWaveletsModel" D ar A) (t0 : Int32) (h : m_Md_beside_b79 fu t0 = some r_v) : WA p l e rm_Md_beside s m args below meth c D A 4 (MQ below (QI D ar [] r_v A) args s 0 0 A) 79 [] [] [.int t0] := by
  intro H locs ls hP hD hS hl
  obtain ⟨hx, hb, hr, hml, hown, hts, hlocks, hA, hK, hZ⟩ := id C0
  unfold m_Md_beside_b79 at h
  cases h
  exact sd_iret hx hb hr hlocks hP hD hK hS d_Md_beside_79
def m_Md_beside_b69 (fu : Nat) : Option (Int32) :=
  m_Md_beside_b79 fu (-1 : Int32)
set_option maxHeartbeats 4000000 in
set_option maxRecDepth 100000 in
theorem w_Md_beside_b69 {p : Program} {l : Launch} {e : Env} {s : State} {m : MethodId} {args : Array Value} {below : List Frame} {meth : Method} {c : Code} {D : va_G} {ar : Nat → ClassId} {A : Nat → Prop} {fu : Nat} {r_v : Int32} (C0 : CX p s m meth c args prog_12_method_6_code 4 (some .int) "FreeWaveletsModel" D ar A) (h : m_Md_beside_b69 fu  = some r_v) : WA p l e rm_Md_beside s m args below meth c D A 4 (MQ below (QI D ar [] r_v A) args s 0 0 A) 69 [] [] [] := by
  intro H locs ls hP hD hS hl
  obtain ⟨hx, hb, hr, hml, hown, hts, hlocks, hA, hK, hZ⟩ := id C0
  unfold m_Md_beside_b69 at h
  refine lv_iconst (v := (-1 : Int32)) hx hb d_Md_beside_69 (by decide) ?_
  refine lv_goto (tgt := 79) hx hb d_Md_beside_70 (by decide) ?_
  exact w_Md_beside_b79 C0 (-1 : Int32) h _ _ _ hP hD hS hl
def m_Md_beside_b47 (fu : Nat) (x2 : Int32) (t0 : Int32) (t1 : Int32) : Option (Int32) :=
  letB (t1 + t0) (fun x3_8 => if x2 < (0 : Int32) then (m_Md_beside_b69 fu ) else (if (16 : Int32) ≤ x2 then (m_Md_beside_b69 fu ) else (if x3_8 < (0 : Int32) then (m_Md_beside_b69 fu ) else (if x3_8 < (16 : Int32) then (m_Md_beside_b79 fu (((16 : Int32) * x3_8) + x2)) else (m_Md_beside_b69 fu )))))
set_option maxHeartbeats 4000000 in
set_option maxRecDepth 100000 in
theorem w_Md_beside_b47 {p : Program} {l : Launch} {e : Env} {s : State} {m : MethodId} {args : Array Value} {below : List Frame} {meth : Method} {c : Code} {D : va_G} {ar : Nat → ClassId} {A : Nat → Prop} {fu : Nat} {r_v : Int32} (C0 : CX p s m meth c args prog_12_method_6_code 4 (some .int) "FreeWaveletsModel" D ar A) (x2 : Int32) (t0 : Int32) (t1 : Int32) (h : m_Md_beside_b47 fu x2 t0 t1 = some r_v) : WA p l e rm_Md_beside s m args below meth c D A 4 (MQ below (QI D ar [] r_v A) args s 0 0 A) 47 [] [(2, .int x2)] [.int t0, .int t1] := by
  intro H locs ls hP hD hS hl
  obtain ⟨hx, hb, hr, hml, hown, hts, hlocks, hA, hK, hZ⟩ := id C0
  unfold m_Md_beside_b47 at h
  refine lv_iadd hx hb d_Md_beside_47 ?_
  refine lv_topi (fun x3_8 e_x3_8 => ?_)
  have h := letB_at e_x3_8 h
  refine lv_istore_n (lv' := [(3, .int x3_8), (2, .int x2)]) hx hb d_Md_beside_48 rfl hl (by decide) rfl (fun ls hl => ?_)
  refine lv_iload_n hx hb d_Md_beside_49 rfl (lv_at hl 1 rfl) ?_
  refine lv_if_lt (tgt := 69) hx hb d_Md_beside_50 (by decide) (fun c_9 => ?_) (fun c_9 => ?_)
  · have h := Eq.trans (if_pos c_9).symm h
    exact w_Md_beside_b69 C0  h _ _ _ hP hD hS (lv_sub hl [] rfl)
  · have h := Eq.trans (if_neg c_9).symm h
    refine lv_iload_n hx hb d_Md_beside_53 rfl (lv_at hl 1 rfl) ?_
    refine lv_bipush (v := (16 : Int32)) hx hb d_Md_beside_54 (by decide) ?_
    refine lv_icmp_ge (tgt := 69) hx hb d_Md_beside_56 (by decide) (fun c_10 => ?_) (fun c_10 => ?_)
    · have h := Eq.trans (if_pos c_10).symm h
      exact w_Md_beside_b69 C0  h _ _ _ hP hD hS (lv_sub hl [] rfl)
    · have h := Eq.trans (if_neg c_10).symm h
      refine lv_iload_n hx hb d_Md_beside_59 rfl (lv_at hl 0 rfl) ?_
      refine lv_if_lt (tgt := 69) hx hb d_Md_beside_60 (by decide) (fun c_11 => ?_) (fun c_11 => ?_)
      · have h := Eq.trans (if_pos c_11).symm h
        exact w_Md_beside_b69 C0  h _ _ _ hP hD hS (lv_sub hl [] rfl)
      · have h := Eq.trans (if_neg c_11).symm h
        refine lv_iload_n hx hb d_Md_beside_63 rfl (lv_at hl 0 rfl) ?_
        refine lv_bipush (v := (16 : Int32)) hx hb d_Md_beside_64 (by decide) ?_
        refine lv_icmp_lt (tgt := 73) hx hb d_Md_beside_66 (by decide) (fun c_12 => ?_) (fun c_12 => ?_)
        · have h := Eq.trans (if_pos c_12).symm h
          refine lv_bipush (v := (16 : Int32)) hx hb d_Md_beside_73 (by decide) ?_
          refine lv_iload_n hx hb d_Md_beside_75 rfl (lv_at hl 0 rfl) ?_
          refine lv_imul hx hb d_Md_beside_76 ?_
          refine lv_iload_n hx hb d_Md_beside_77 rfl (lv_at hl 1 rfl) ?_
          refine lv_iadd hx hb d_Md_beside_78 ?_
          exact w_Md_beside_b79 C0 (((16 : Int32) * x3_8) + x2) h _ _ _ hP hD hS (lv_sub hl [] rfl)
        · have h := Eq.trans (if_neg c_12).symm h
          exact w_Md_beside_b69 C0  h _ _ _ hP hD hS (lv_sub hl [] rfl)
def m_Md_beside_b22 (fu : Nat) (x0 : Int32) (x1 : Int32) (t0 : Int32) (t1 : Int32) : Option (Int32) :=
  letB (t1 + t0) (fun x2_4 => nz (16 : Int32) (if x1 = (2 : Int32) then (m_Md_beside_b47 fu x2_4 (-1 : Int32) (x0 / (16 : Int32))) else (if x1 = (3 : Int32) then (m_Md_beside_b47 fu x2_4 (1 : Int32) (x0 / (16 : Int32))) else (m_Md_beside_b47 fu x2_4 (0 : Int32) (x0 / (16 : Int32))))))
set_option maxHeartbeats 4000000 in
set_option maxRecDepth 100000 in
theorem w_Md_beside_b22 {p : Program} {l : Launch} {e : Env} {s : State} {m : MethodId} {args : Array Value} {below : List Frame} {meth : Method} {c : Code} {D : va_G} {ar : Nat → ClassId} {A : Nat → Prop} {fu : Nat} {r_v : Int32} (C0 : CX p s m meth c args prog_12_method_6_code 4 (some .int) "FreeWaveletsModel" D ar A) (x0 : Int32) (x1 : Int32) (t0 : Int32) (t1 : Int32) (h : m_Md_beside_b22 fu x0 x1 t0 t1 = some r_v) : WA p l e rm_Md_beside s m args below meth c D A 4 (MQ below (QI D ar [] r_v A) args s 0 0 A) 22 [] [(0, .int x0), (1, .int x1)] [.int t0, .int t1] := by
  intro H locs ls hP hD hS hl
  obtain ⟨hx, hb, hr, hml, hown, hts, hlocks, hA, hK, hZ⟩ := id C0
  unfold m_Md_beside_b22 at h
  refine lv_iadd hx hb d_Md_beside_22 ?_
  refine lv_topi (fun x2_4 e_x2_4 => ?_)
  have h := letB_at e_x2_4 h
  refine lv_istore_n (lv' := [(2, .int x2_4), (0, .int x0), (1, .int x1)]) hx hb d_Md_beside_23 rfl hl (by decide) rfl (fun ls hl => ?_)
  refine lv_iload_n hx hb d_Md_beside_24 rfl (lv_at hl 1 rfl) ?_
  refine lv_bipush (v := (16 : Int32)) hx hb d_Md_beside_25 (by decide) ?_
  obtain ⟨z_5, h⟩ := nz_some h
  refine lv_idiv hx hb d_Md_beside_27 z_5 ?_
  refine lv_iload_n hx hb d_Md_beside_28 rfl (lv_at hl 2 rfl) ?_
  refine lv_iconst (v := (2 : Int32)) hx hb d_Md_beside_29 (by decide) ?_
  refine lv_icmp_ne (tgt := 37) hx hb d_Md_beside_30 (by decide) (fun c_6 => ?_) (fun c_6 => ?_)
  · have h := Eq.trans (if_neg c_6).symm h
    refine lv_iload_n hx hb d_Md_beside_37 rfl (lv_at hl 2 rfl) ?_
    refine lv_iconst (v := (3 : Int32)) hx hb d_Md_beside_38 (by decide) ?_
    refine lv_icmp_ne (tgt := 46) hx hb d_Md_beside_39 (by decide) (fun c_7 => ?_) (fun c_7 => ?_)
    · have h := Eq.trans (if_neg c_7).symm h
      refine lv_iconst (v := (0 : Int32)) hx hb d_Md_beside_46 (by decide) ?_
      exact w_Md_beside_b47 C0 x2_4 (0 : Int32) (x0 / (16 : Int32)) h _ _ _ hP hD hS (lv_sub hl [0] rfl)
    · have h := Eq.trans (if_pos c_7).symm h
      refine lv_iconst (v := (1 : Int32)) hx hb d_Md_beside_42 (by decide) ?_
      refine lv_goto (tgt := 47) hx hb d_Md_beside_43 (by decide) ?_
      exact w_Md_beside_b47 C0 x2_4 (1 : Int32) (x0 / (16 : Int32)) h _ _ _ hP hD hS (lv_sub hl [0] rfl)
  · have h := Eq.trans (if_pos c_6).symm h
    refine lv_iconst (v := (-1 : Int32)) hx hb d_Md_beside_33 (by decide) ?_
    refine lv_goto (tgt := 47) hx hb d_Md_beside_34 (by decide) ?_
    exact w_Md_beside_b47 C0 x2_4 (-1 : Int32) (x0 / (16 : Int32)) h _ _ _ hP hD hS (lv_sub hl [0] rfl)
def m_Md_beside (fu : Nat) (x0 : Int32) (x1 : Int32) : Option (Int32) :=
  nz (16 : Int32) (if x1 = (0 : Int32) then (m_Md_beside_b22 fu x0 x1 (-1 : Int32) (x0 - x0 / (16 : Int32) * (16 : Int32))) else (if x1 = (1 : Int32) then (m_Md_beside_b22 fu x0 x1 (1 : Int32) (x0 - x0 / (16 : Int32) * (16 : Int32))) else (m_Md_beside_b22 fu x0 x1 (0 : Int32) (x0 - x0 / (16 : Int32) * (16 : Int32)))))
set_option maxHeartbeats 4000000 in
set_option maxRecDepth 100000 in
theorem c_Md_beside {l : Launch} {D : va_G} {ar : Nat → ClassId} {fu : Nat} (_a0 : Nat) (x0 : Int32) (x1 : Int32) {r_v : Int32} (h : m_Md_beside fu x0 x1 = some r_v) : StdI l y_Md_beside ws_Md_beside rm_Md_beside D ar [.int x0, .int x1] [] [] r_v := by
  refine sd_metI (cc := prog_12_method_6_code) (maxL := 4) (ret := (some .int)) (own := "FreeWaveletsModel") (by decide) rfl rfl (Nat.le_of_ble_eq_true rfl) ?_
  intro p e s m below meth c A ls C0 hP hD hl
  obtain ⟨hx, hb, hr, hml, hown, hts, hlocks, hA, hK, hZ⟩ := id C0
  have hS : va_S A s.heap s.heap [] := va_S.rf
  have hl : lv_has ls 4 [(0, .int x0), (1, .int x1)] := hl
  unfold m_Md_beside at h
  refine lv_iload_n hx hb d_Md_beside_0 rfl (lv_at hl 0 rfl) ?_
  refine lv_bipush (v := (16 : Int32)) hx hb d_Md_beside_1 (by decide) ?_
  obtain ⟨z_1, h⟩ := nz_some h
  refine lv_irem hx hb d_Md_beside_3 z_1 ?_
  refine lv_iload_n hx hb d_Md_beside_4 rfl (lv_at hl 1 rfl) ?_
  refine lv_if_ne (tgt := 12) hx hb d_Md_beside_5 (by decide) (fun c_2 => ?_) (fun c_2 => ?_)
  · have h := Eq.trans (if_neg c_2).symm h
    refine lv_iload_n hx hb d_Md_beside_12 rfl (lv_at hl 1 rfl) ?_
    refine lv_iconst (v := (1 : Int32)) hx hb d_Md_beside_13 (by decide) ?_
    refine lv_icmp_ne (tgt := 21) hx hb d_Md_beside_14 (by decide) (fun c_3 => ?_) (fun c_3 => ?_)
    · have h := Eq.trans (if_neg c_3).symm h
      refine lv_iconst (v := (0 : Int32)) hx hb d_Md_beside_21 (by decide) ?_
      exact w_Md_beside_b22 C0 x0 x1 (0 : Int32) (x0 - x0 / (16 : Int32) * (16 : Int32)) h _ _ _ hP hD hS hl
    · have h := Eq.trans (if_pos c_3).symm h
      refine lv_iconst (v := (1 : Int32)) hx hb d_Md_beside_17 (by decide) ?_
      refine lv_goto (tgt := 22) hx hb d_Md_beside_18 (by decide) ?_
      exact w_Md_beside_b22 C0 x0 x1 (1 : Int32) (x0 - x0 / (16 : Int32) * (16 : Int32)) h _ _ _ hP hD hS hl
  · have h := Eq.trans (if_pos c_2).symm h
    refine lv_iconst (v := (-1 : Int32)) hx hb d_Md_beside_8 (by decide) ?_
    refine lv_goto (tgt := 22) hx hb d_Md_beside_9 (by decide) ?_
    exact w_Md_beside_b22 C0 x0 x1 (-1 : Int32) (x0 - x0 / (16 : Int32) * (16 : Int32)) h _ _ _ hP hD hS hl
abbrev rm_Md_number : Room := { frames := 1, cells := 0, slots := 0, locals := 23 }
def m_Md_number_k2 (fu : Nat) (s_pile : Nat → Int32) (s_arr0 : Nat → Int32) (rec : Int32 → (Nat → Int32) → Option (((Nat → Int32)))) (x3 : Int32) (s_arr1 : Nat → Int32) : Option (((Nat → Int32))) :=
  if (256 : Int32) ≤ x3 then (some s_arr1) else (chk x3 256 (letB (x3 + (1 : Int32)) (fun x3_3 => rec x3_3 (upd s_arr1 (x3).toNatClampNeg (-1 : Int32)))))
set_option maxHeartbeats 4000000 in
set_option maxRecDepth 100000 in
theorem w_Md_number_l2 {p : Program} {l : Launch} {e : Env} {s : State} {m : MethodId} {args : Array Value} {below : List Frame} {meth : Method} {c : Code} {D : va_G} {ar : Nat → ClassId} {A : Nat → Prop} {Q : State → Prop} {fu : Nat} {a_this a_arr0 a_arr1 a_this_inside a_this_values a_this_partOf a_this_waves a_this_readInside a_this_readPart a_this_readValues a_this_stream a_this_zeros a_this_fed a_this_pile a_this_open a_this_sizes a_this_below : Nat} {s_code : Int32} {s_width : Int32} {s_height : Int32} {s_isRead : Int32} {s_readWide : Int32} {s_readHigh : Int32} {s_readPlanes : Int32} {s_streamBits : Int32} {s_fedMany : Int32} {s_mode : Int32} {s_limit : Int32} {s_count : Int32} (C0 : CX p s m meth c args prog_12_method_7_code 9 (some .int) "FreeWaveletsModel" D ar A) (s_pile : Nat → Int32) (s_arr0 : Nat → Int32) : ∀ (n : Nat) (x3 : Int32) (s_arr1 : Nat → Int32) (o_arr1 : Nat → Int32), loop2 (m_Md_number_k2 fu s_pile s_arr0) n x3 s_arr1 = some o_arr1 → (WA p l e rm_Md_number s m args below meth c D A 9 Q 19 [(a_this, .inr (9, [.int s_code, .int s_width, .int s_height, .ref a_this_inside, .ref a_this_values, .ref a_this_partOf, .ref a_this_waves, .int s_isRead, .int s_readWide, .int s_readHigh, .int s_readPlanes, .ref a_this_readInside, .ref a_this_readPart, .ref a_this_readValues, .ref a_this_stream, .int s_streamBits, .ref a_this_zeros, .ref a_this_fed, .int s_fedMany, .ref a_this_pile, .int s_mode, .int s_limit, .int s_count, .ref a_this_open, .ref a_this_sizes, .ref a_this_below])), (a_this_pile, .inl (ar 0, 256, .inl s_pile)), (a_arr0, .inl (ar 1, 256, .inl s_arr0)), (a_arr1, .inl (ar 0, 256, .inl o_arr1))] [(0, .ref a_this), (1, .ref a_arr0), (2, .ref a_arr1)] []) → WA p l e rm_Md_number s m args below meth c D A 9 Q 2 [(a_this, .inr (9, [.int s_code, .int s_width, .int s_height, .ref a_this_inside, .ref a_this_values, .ref a_this_partOf, .ref a_this_waves, .int s_isRead, .int s_readWide, .int s_readHigh, .int s_readPlanes, .ref a_this_readInside, .ref a_this_readPart, .ref a_this_readValues, .ref a_this_stream, .int s_streamBits, .ref a_this_zeros, .ref a_this_fed, .int s_fedMany, .ref a_this_pile, .int s_mode, .int s_limit, .int s_count, .ref a_this_open, .ref a_this_sizes, .ref a_this_below])), (a_this_pile, .inl (ar 0, 256, .inl s_pile)), (a_arr0, .inl (ar 1, 256, .inl s_arr0)), (a_arr1, .inl (ar 0, 256, .inl s_arr1))] [(0, .ref a_this), (1, .ref a_arr0), (2, .ref a_arr1), (3, .int x3)] [] := by
  intro n
  induction n with
  | zero => intro x3 s_arr1 o_arr1 h; exact (no0 h).elim
  | succ n ih =>
    intro x3 s_arr1 o_arr1 h K1
    have hrec : ∀ (x3 : Int32) (s_arr1 : Nat → Int32), loop2 (m_Md_number_k2 fu s_pile s_arr0) n x3 s_arr1 = some o_arr1 → WA p l e rm_Md_number s m args below meth c D A 9 Q 2 [(a_this, .inr (9, [.int s_code, .int s_width, .int s_height, .ref a_this_inside, .ref a_this_values, .ref a_this_partOf, .ref a_this_waves, .int s_isRead, .int s_readWide, .int s_readHigh, .int s_readPlanes, .ref a_this_readInside, .ref a_this_readPart, .ref a_this_readValues, .ref a_this_stream, .int s_streamBits, .ref a_this_zeros, .ref a_this_fed, .int s_fedMany, .ref a_this_pile, .int s_mode, .int s_limit, .int s_count, .ref a_this_open, .ref a_this_sizes, .ref a_this_below])), (a_this_pile, .inl (ar 0, 256, .inl s_pile)), (a_arr0, .inl (ar 1, 256, .inl s_arr0)), (a_arr1, .inl (ar 0, 256, .inl s_arr1))] [(0, .ref a_this), (1, .ref a_arr0), (2, .ref a_arr1), (3, .int x3)] [] := fun x3 s_arr1 h => ih x3 s_arr1 o_arr1 h K1
    clear ih
    intro H locs ls hP hD hS hl
    obtain ⟨hx, hb, hr, hml, hown, hts, hlocks, hA, hK, hZ⟩ := id C0
    have h : m_Md_number_k2 fu s_pile s_arr0 (loop2 (m_Md_number_k2 fu s_pile s_arr0) n) x3 s_arr1 = some o_arr1 := h
    unfold m_Md_number_k2 at h
    refine lv_iload_n hx hb d_Md_number_2 rfl (lv_at hl 3 rfl) ?_
    refine lv_sipush (v := (256 : Int32)) hx hb d_Md_number_3 (by decide) ?_
    refine lv_icmp_ge (tgt := 19) hx hb d_Md_number_6 (by decide) (fun c_1 => ?_) (fun c_1 => ?_)
    · have h := Eq.trans (if_pos c_1).symm h
      cases h
      exact K1 _ _ _ hP hD hS (lv_sub hl [0, 1, 2] rfl)
    · have h := Eq.trans (if_neg c_1).symm h
      refine lv_aload_n hx hb d_Md_number_9 rfl (lv_at hl 2 rfl) ?_
      refine lv_iload_n hx hb d_Md_number_10 rfl (lv_at hl 3 rfl) ?_
      refine lv_iconst (v := (-1 : Int32)) hx hb d_Md_number_11 (by decide) ?_
      obtain ⟨b_2, h⟩ := chk_some h
      refine va_iast hx hb hK hP hD hS 3 0 rfl rfl b_2 d_Md_number_12 (fun H locs hP hD hS => ?_)
      have hP : va_P D vwCl [(a_this, .inr (9, [.int s_code, .int s_width, .int s_height, .ref a_this_inside, .ref a_this_values, .ref a_this_partOf, .ref a_this_waves, .int s_isRead, .int s_readWide, .int s_readHigh, .int s_readPlanes, .ref a_this_readInside, .ref a_this_readPart, .ref a_this_readValues, .ref a_this_stream, .int s_streamBits, .ref a_this_zeros, .ref a_this_fed, .int s_fedMany, .ref a_this_pile, .int s_mode, .int s_limit, .int s_count, .ref a_this_open, .ref a_this_sizes, .ref a_this_below])), (a_this_pile, .inl (ar 0, 256, .inl s_pile)), (a_arr0, .inl (ar 1, 256, .inl s_arr0)), (a_arr1, .inl (ar 0, 256, .inl (upd s_arr1 (x3).toNatClampNeg (-1 : Int32))))] H := hP
      have hD : va_D A [(a_this, .inr (9, [.int s_code, .int s_width, .int s_height, .ref a_this_inside, .ref a_this_values, .ref a_this_partOf, .ref a_this_waves, .int s_isRead, .int s_readWide, .int s_readHigh, .int s_readPlanes, .ref a_this_readInside, .ref a_this_readPart, .ref a_this_readValues, .ref a_this_stream, .int s_streamBits, .ref a_this_zeros, .ref a_this_fed, .int s_fedMany, .ref a_this_pile, .int s_mode, .int s_limit, .int s_count, .ref a_this_open, .ref a_this_sizes, .ref a_this_below])), (a_this_pile, .inl (ar 0, 256, .inl s_pile)), (a_arr0, .inl (ar 1, 256, .inl s_arr0)), (a_arr1, .inl (ar 0, 256, .inl (upd s_arr1 (x3).toNatClampNeg (-1 : Int32))))] := hD
      obtain ⟨x3_3, e_x3_3⟩ : ∃ y : Int32, y = x3 + (1 : Int32) := ⟨_, rfl⟩
      have h := letB_at e_x3_3 h
      refine lv_iinc (v := x3_3) (lv' := [(3, .int x3_3), (0, .ref a_this), (1, .ref a_arr0), (2, .ref a_arr1)]) hx hb d_Md_number_13 hl (k := 3) rfl (by rw [e_x3_3]; rfl) (by decide) rfl (fun ls hl => ?_)
      refine lv_goto (tgt := 2) hx hb d_Md_number_16 (by decide) ?_
      exact hrec x3_3 (upd s_arr1 (x3).toNatClampNeg (-1 : Int32)) h _ _ _ hP hD hS (lv_sub hl [1, 2, 3, 0] rfl)
def m_Md_number_b151 (fu : Nat) (rec : Int32 → Int32 → (Nat → Int32) → (Nat → Int32) → Option ((Int32 × (Nat → Int32) × (Nat → Int32)))) (x3 : Int32) (x4 : Int32) (s_pile : Nat → Int32) (s_arr0 : Nat → Int32) (s_arr1 : Nat → Int32) : Option ((Int32 × (Nat → Int32) × (Nat → Int32))) :=
  letB (x4 + (1 : Int32)) (fun x4_8 => rec x3 x4_8 s_pile s_arr1)
set_option maxHeartbeats 4000000 in
set_option maxRecDepth 100000 in
theorem w_Md_number_b151 {p : Program} {l : Launch} {e : Env} {s : State} {m : MethodId} {args : Array Value} {below : List Frame} {meth : Method} {c : Code} {D : va_G} {ar : Nat → ClassId} {A : Nat → Prop} {Q : State → Prop} {fu : Nat} {a_this a_arr0 a_arr1 a_this_inside a_this_values a_this_partOf a_this_waves a_this_readInside a_this_readPart a_this_readValues a_this_stream a_this_zeros a_this_fed a_this_pile a_this_open a_this_sizes a_this_below : Nat} {s_code : Int32} {s_width : Int32} {s_height : Int32} {s_isRead : Int32} {s_readWide : Int32} {s_readHigh : Int32} {s_readPlanes : Int32} {s_streamBits : Int32} {s_fedMany : Int32} {s_mode : Int32} {s_limit : Int32} {s_count : Int32} {o_x3 : Int32} {o_pile : Nat → Int32} {o_arr1 : Nat → Int32} (C0 : CX p s m meth c args prog_12_method_7_code 9 (some .int) "FreeWaveletsModel" D ar A) (x3 : Int32) (x4 : Int32) (s_pile : Nat → Int32) (s_arr0 : Nat → Int32) (s_arr1 : Nat → Int32) (rec : Int32 → Int32 → (Nat → Int32) → (Nat → Int32) → Option ((Int32 × (Nat → Int32) × (Nat → Int32)))) (hrec : ∀ (x3 : Int32) (x4 : Int32) (s_pile : Nat → Int32) (s_arr1 : Nat → Int32), rec x3 x4 s_pile s_arr1 = some (o_x3, o_pile, o_arr1) → WA p l e rm_Md_number s m args below meth c D A 9 Q 24 [(a_this, .inr (9, [.int s_code, .int s_width, .int s_height, .ref a_this_inside, .ref a_this_values, .ref a_this_partOf, .ref a_this_waves, .int s_isRead, .int s_readWide, .int s_readHigh, .int s_readPlanes, .ref a_this_readInside, .ref a_this_readPart, .ref a_this_readValues, .ref a_this_stream, .int s_streamBits, .ref a_this_zeros, .ref a_this_fed, .int s_fedMany, .ref a_this_pile, .int s_mode, .int s_limit, .int s_count, .ref a_this_open, .ref a_this_sizes, .ref a_this_below])), (a_this_pile, .inl (ar 0, 256, .inl s_pile)), (a_arr0, .inl (ar 1, 256, .inl s_arr0)), (a_arr1, .inl (ar 0, 256, .inl s_arr1))] [(0, .ref a_this), (1, .ref a_arr0), (2, .ref a_arr1), (3, .int x3), (4, .int x4)] []) (K1 : WA p l e rm_Md_number s m args below meth c D A 9 Q 157 [(a_this, .inr (9, [.int s_code, .int s_width, .int s_height, .ref a_this_inside, .ref a_this_values, .ref a_this_partOf, .ref a_this_waves, .int s_isRead, .int s_readWide, .int s_readHigh, .int s_readPlanes, .ref a_this_readInside, .ref a_this_readPart, .ref a_this_readValues, .ref a_this_stream, .int s_streamBits, .ref a_this_zeros, .ref a_this_fed, .int s_fedMany, .ref a_this_pile, .int s_mode, .int s_limit, .int s_count, .ref a_this_open, .ref a_this_sizes, .ref a_this_below])), (a_this_pile, .inl (ar 0, 256, .inl o_pile)), (a_arr0, .inl (ar 1, 256, .inl s_arr0)), (a_arr1, .inl (ar 0, 256, .inl o_arr1))] [(3, .int o_x3)] []) (h : m_Md_number_b151 fu rec x3 x4 s_pile s_arr0 s_arr1 = some (o_x3, o_pile, o_arr1)) : WA p l e rm_Md_number s m args below meth c D A 9 Q 151 [(a_this, .inr (9, [.int s_code, .int s_width, .int s_height, .ref a_this_inside, .ref a_this_values, .ref a_this_partOf, .ref a_this_waves, .int s_isRead, .int s_readWide, .int s_readHigh, .int s_readPlanes, .ref a_this_readInside, .ref a_this_readPart, .ref a_this_readValues, .ref a_this_stream, .int s_streamBits, .ref a_this_zeros, .ref a_this_fed, .int s_fedMany, .ref a_this_pile, .int s_mode, .int s_limit, .int s_count, .ref a_this_open, .ref a_this_sizes, .ref a_this_below])), (a_this_pile, .inl (ar 0, 256, .inl s_pile)), (a_arr0, .inl (ar 1, 256, .inl s_arr0)), (a_arr1, .inl (ar 0, 256, .inl s_arr1))] [(0, .ref a_this), (1, .ref a_arr0), (2, .ref a_arr1), (3, .int x3), (4, .int x4)] [] := by
  intro H locs ls hP hD hS hl
  obtain ⟨hx, hb, hr, hml, hown, hts, hlocks, hA, hK, hZ⟩ := id C0
  unfold m_Md_number_b151 at h
  obtain ⟨x4_8, e_x4_8⟩ : ∃ y : Int32, y = x4 + (1 : Int32) := ⟨_, rfl⟩
  have h := letB_at e_x4_8 h
  refine lv_iinc (v := x4_8) (lv' := [(4, .int x4_8), (0, .ref a_this), (1, .ref a_arr0), (2, .ref a_arr1), (3, .int x3)]) hx hb d_Md_number_151 hl (k := 4) rfl (by rw [e_x4_8]; rfl) (by decide) rfl (fun ls hl => ?_)
  refine lv_goto (tgt := 24) hx hb d_Md_number_154 (by decide) ?_
  exact hrec x3 x4_8 s_pile s_arr1 h _ _ _ hP hD hS (lv_sub hl [1, 2, 3, 4, 0] rfl)
def m_Md_number_b139 (fu : Nat) (rec : Int32 → Int32 → (Nat → Int32) → (Nat → Int32) → Option ((Int32 × (Nat → Int32) × (Nat → Int32)))) (x3 : Int32) (x4 : Int32) (x5 : Int32) (x6 : Int32) (x7 : Int32) (s_pile : Nat → Int32) (s_arr0 : Nat → Int32) (s_arr1 : Nat → Int32) : Option ((Int32 × (Nat → Int32) × (Nat → Int32))) :=
  letB (x7 + (1 : Int32)) (fun x7_20 => rec x5 x7_20 s_pile s_arr1)
set_option maxHeartbeats 4000000 in
set_option maxRecDepth 100000 in
theorem w_Md_number_b139 {p : Program} {l : Launch} {e : Env} {s : State} {m : MethodId} {args : Array Value} {below : List Frame} {meth : Method} {c : Code} {D : va_G} {ar : Nat → ClassId} {A : Nat → Prop} {Q : State → Prop} {fu : Nat} {a_this a_arr0 a_arr1 a_this_inside a_this_values a_this_partOf a_this_waves a_this_readInside a_this_readPart a_this_readValues a_this_stream a_this_zeros a_this_fed a_this_pile a_this_open a_this_sizes a_this_below : Nat} {s_code : Int32} {s_width : Int32} {s_height : Int32} {s_isRead : Int32} {s_readWide : Int32} {s_readHigh : Int32} {s_readPlanes : Int32} {s_streamBits : Int32} {s_fedMany : Int32} {s_mode : Int32} {s_limit : Int32} {s_count : Int32} {o_x5 : Int32} {o_pile : Nat → Int32} {o_arr1 : Nat → Int32} (C0 : CX p s m meth c args prog_12_method_7_code 9 (some .int) "FreeWaveletsModel" D ar A) (x3 : Int32) (x4 : Int32) (x5 : Int32) (x6 : Int32) (x7 : Int32) (s_pile : Nat → Int32) (s_arr0 : Nat → Int32) (s_arr1 : Nat → Int32) (rec : Int32 → Int32 → (Nat → Int32) → (Nat → Int32) → Option ((Int32 × (Nat → Int32) × (Nat → Int32)))) (hrec : ∀ (x5 : Int32) (x7 : Int32) (s_pile : Nat → Int32) (s_arr1 : Nat → Int32), rec x5 x7 s_pile s_arr1 = some (o_x5, o_pile, o_arr1) → WA p l e rm_Md_number s m args below meth c D A 9 Q 86 [(a_this, .inr (9, [.int s_code, .int s_width, .int s_height, .ref a_this_inside, .ref a_this_values, .ref a_this_partOf, .ref a_this_waves, .int s_isRead, .int s_readWide, .int s_readHigh, .int s_readPlanes, .ref a_this_readInside, .ref a_this_readPart, .ref a_this_readValues, .ref a_this_stream, .int s_streamBits, .ref a_this_zeros, .ref a_this_fed, .int s_fedMany, .ref a_this_pile, .int s_mode, .int s_limit, .int s_count, .ref a_this_open, .ref a_this_sizes, .ref a_this_below])), (a_this_pile, .inl (ar 0, 256, .inl s_pile)), (a_arr0, .inl (ar 1, 256, .inl s_arr0)), (a_arr1, .inl (ar 0, 256, .inl s_arr1))] [(0, .ref a_this), (1, .ref a_arr0), (2, .ref a_arr1), (3, .int x3), (4, .int x4), (5, .int x5), (6, .int x6), (7, .int x7)] []) (K1 : WA p l e rm_Md_number s m args below meth c D A 9 Q 145 [(a_this, .inr (9, [.int s_code, .int s_width, .int s_height, .ref a_this_inside, .ref a_this_values, .ref a_this_partOf, .ref a_this_waves, .int s_isRead, .int s_readWide, .int s_readHigh, .int s_readPlanes, .ref a_this_readInside, .ref a_this_readPart, .ref a_this_readValues, .ref a_this_stream, .int s_streamBits, .ref a_this_zeros, .ref a_this_fed, .int s_fedMany, .ref a_this_pile, .int s_mode, .int s_limit, .int s_count, .ref a_this_open, .ref a_this_sizes, .ref a_this_below])), (a_this_pile, .inl (ar 0, 256, .inl o_pile)), (a_arr0, .inl (ar 1, 256, .inl s_arr0)), (a_arr1, .inl (ar 0, 256, .inl o_arr1))] [(0, .ref a_this), (1, .ref a_arr0), (2, .ref a_arr1), (3, .int x3), (4, .int x4), (5, .int o_x5)] []) (h : m_Md_number_b139 fu rec x3 x4 x5 x6 x7 s_pile s_arr0 s_arr1 = some (o_x5, o_pile, o_arr1)) : WA p l e rm_Md_number s m args below meth c D A 9 Q 139 [(a_this, .inr (9, [.int s_code, .int s_width, .int s_height, .ref a_this_inside, .ref a_this_values, .ref a_this_partOf, .ref a_this_waves, .int s_isRead, .int s_readWide, .int s_readHigh, .int s_readPlanes, .ref a_this_readInside, .ref a_this_readPart, .ref a_this_readValues, .ref a_this_stream, .int s_streamBits, .ref a_this_zeros, .ref a_this_fed, .int s_fedMany, .ref a_this_pile, .int s_mode, .int s_limit, .int s_count, .ref a_this_open, .ref a_this_sizes, .ref a_this_below])), (a_this_pile, .inl (ar 0, 256, .inl s_pile)), (a_arr0, .inl (ar 1, 256, .inl s_arr0)), (a_arr1, .inl (ar 0, 256, .inl s_arr1))] [(0, .ref a_this), (1, .ref a_arr0), (2, .ref a_arr1), (3, .int x3), (4, .int x4), (5, .int x5), (6, .int x6), (7, .int x7)] [] := by
  intro H locs ls hP hD hS hl
  obtain ⟨hx, hb, hr, hml, hown, hts, hlocks, hA, hK, hZ⟩ := id C0
  unfold m_Md_number_b139 at h
  obtain ⟨x7_20, e_x7_20⟩ : ∃ y : Int32, y = x7 + (1 : Int32) := ⟨_, rfl⟩
  have h := letB_at e_x7_20 h
  refine lv_iinc (v := x7_20) (lv' := [(7, .int x7_20), (0, .ref a_this), (1, .ref a_arr0), (2, .ref a_arr1), (3, .int x3), (4, .int x4), (5, .int x5), (6, .int x6)]) hx hb d_Md_number_139 hl (k := 7) rfl (by rw [e_x7_20]; rfl) (by decide) rfl (fun ls hl => ?_)
  refine lv_goto (tgt := 86) hx hb d_Md_number_142 (by decide) ?_
  exact hrec x5 x7_20 s_pile s_arr1 h _ _ _ hP hD hS (lv_sub hl [1, 2, 3, 4, 5, 6, 7, 0] rfl)
def m_Md_number_k86 (fu : Nat) (x3 : Int32) (x4 : Int32) (x6 : Int32) (s_arr0 : Nat → Int32) (rec : Int32 → Int32 → (Nat → Int32) → (Nat → Int32) → Option ((Int32 × (Nat → Int32) × (Nat → Int32)))) (x5 : Int32) (x7 : Int32) (s_pile : Nat → Int32) (s_arr1 : Nat → Int32) : Option ((Int32 × (Nat → Int32) × (Nat → Int32))) :=
  if (4 : Int32) ≤ x7 then (some (x5, s_pile, s_arr1)) else (bn1 (m_Md_beside fu x6 x7) (fun r_18 => if r_18 = (-1 : Int32) then (m_Md_number_b139 fu rec x3 x4 x5 x6 x7 s_pile s_arr0 s_arr1) else (chk r_18 256 (if (s_arr0 (r_18).toNatClampNeg) = (0 : Int32) then (m_Md_number_b139 fu rec x3 x4 x5 x6 x7 s_pile s_arr0 s_arr1) else (chk r_18 256 (if (s_arr1 (r_18).toNatClampNeg) = (-1 : Int32) then (chk r_18 256 (chk x5 256 (letB (x5 + (1 : Int32)) (fun x5_27 => m_Md_number_b139 fu rec x3 x4 x5_27 x6 x7 (upd s_pile (x5).toNatClampNeg r_18) s_arr0 (upd s_arr1 (r_18).toNatClampNeg x3))))) else (m_Md_number_b139 fu rec x3 x4 x5 x6 x7 s_pile s_arr0 s_arr1)))))))
set_option maxHeartbeats 4000000 in
set_option maxRecDepth 100000 in
theorem w_Md_number_l86 {p : Program} {l : Launch} {e : Env} {s : State} {m : MethodId} {args : Array Value} {below : List Frame} {meth : Method} {c : Code} {D : va_G} {ar : Nat → ClassId} {A : Nat → Prop} {Q : State → Prop} {fu : Nat} {a_this a_arr0 a_arr1 a_this_inside a_this_values a_this_partOf a_this_waves a_this_readInside a_this_readPart a_this_readValues a_this_stream a_this_zeros a_this_fed a_this_pile a_this_open a_this_sizes a_this_below : Nat} {s_code : Int32} {s_width : Int32} {s_height : Int32} {s_isRead : Int32} {s_readWide : Int32} {s_readHigh : Int32} {s_readPlanes : Int32} {s_streamBits : Int32} {s_fedMany : Int32} {s_mode : Int32} {s_limit : Int32} {s_count : Int32} (C0 : CX p s m meth c args prog_12_method_7_code 9 (some .int) "FreeWaveletsModel" D ar A) (x3 : Int32) (x4 : Int32) (x6 : Int32) (s_arr0 : Nat → Int32) : ∀ (n : Nat) (x5 : Int32) (x7 : Int32) (s_pile : Nat → Int32) (s_arr1 : Nat → Int32) (o_x5 : Int32) (o_pile : Nat → Int32) (o_arr1 : Nat → Int32), loop4 (m_Md_number_k86 fu x3 x4 x6 s_arr0) n x5 x7 s_pile s_arr1 = some (o_x5, o_pile, o_arr1) → (WA p l e rm_Md_number s m args below meth c D A 9 Q 145 [(a_this, .inr (9, [.int s_code, .int s_width, .int s_height, .ref a_this_inside, .ref a_this_values, .ref a_this_partOf, .ref a_this_waves, .int s_isRead, .int s_readWide, .int s_readHigh, .int s_readPlanes, .ref a_this_readInside, .ref a_this_readPart, .ref a_this_readValues, .ref a_this_stream, .int s_streamBits, .ref a_this_zeros, .ref a_this_fed, .int s_fedMany, .ref a_this_pile, .int s_mode, .int s_limit, .int s_count, .ref a_this_open, .ref a_this_sizes, .ref a_this_below])), (a_this_pile, .inl (ar 0, 256, .inl o_pile)), (a_arr0, .inl (ar 1, 256, .inl s_arr0)), (a_arr1, .inl (ar 0, 256, .inl o_arr1))] [(0, .ref a_this), (1, .ref a_arr0), (2, .ref a_arr1), (3, .int x3), (4, .int x4), (5, .int o_x5)] []) → WA p l e rm_Md_number s m args below meth c D A 9 Q 86 [(a_this, .inr (9, [.int s_code, .int s_width, .int s_height, .ref a_this_inside, .ref a_this_values, .ref a_this_partOf, .ref a_this_waves, .int s_isRead, .int s_readWide, .int s_readHigh, .int s_readPlanes, .ref a_this_readInside, .ref a_this_readPart, .ref a_this_readValues, .ref a_this_stream, .int s_streamBits, .ref a_this_zeros, .ref a_this_fed, .int s_fedMany, .ref a_this_pile, .int s_mode, .int s_limit, .int s_count, .ref a_this_open, .ref a_this_sizes, .ref a_this_below])), (a_this_pile, .inl (ar 0, 256, .inl s_pile)), (a_arr0, .inl (ar 1, 256, .inl s_arr0)), (a_arr1, .inl (ar 0, 256, .inl s_arr1))] [(0, .ref a_this), (1, .ref a_arr0), (2, .ref a_arr1), (3, .int x3), (4, .int x4), (5, .int x5), (6, .int x6), (7, .int x7)] [] := by
  intro n
  induction n with
  | zero => intro x5 x7 s_pile s_arr1 o_x5 o_pile o_arr1 h; exact (no0 h).elim
  | succ n ih =>
    intro x5 x7 s_pile s_arr1 o_x5 o_pile o_arr1 h K1
    have hrec : ∀ (x5 : Int32) (x7 : Int32) (s_pile : Nat → Int32) (s_arr1 : Nat → Int32), loop4 (m_Md_number_k86 fu x3 x4 x6 s_arr0) n x5 x7 s_pile s_arr1 = some (o_x5, o_pile, o_arr1) → WA p l e rm_Md_number s m args below meth c D A 9 Q 86 [(a_this, .inr (9, [.int s_code, .int s_width, .int s_height, .ref a_this_inside, .ref a_this_values, .ref a_this_partOf, .ref a_this_waves, .int s_isRead, .int s_readWide, .int s_readHigh, .int s_readPlanes, .ref a_this_readInside, .ref a_this_readPart, .ref a_this_readValues, .ref a_this_stream, .int s_streamBits, .ref a_this_zeros, .ref a_this_fed, .int s_fedMany, .ref a_this_pile, .int s_mode, .int s_limit, .int s_count, .ref a_this_open, .ref a_this_sizes, .ref a_this_below])), (a_this_pile, .inl (ar 0, 256, .inl s_pile)), (a_arr0, .inl (ar 1, 256, .inl s_arr0)), (a_arr1, .inl (ar 0, 256, .inl s_arr1))] [(0, .ref a_this), (1, .ref a_arr0), (2, .ref a_arr1), (3, .int x3), (4, .int x4), (5, .int x5), (6, .int x6), (7, .int x7)] [] := fun x5 x7 s_pile s_arr1 h => ih x5 x7 s_pile s_arr1 o_x5 o_pile o_arr1 h K1
    clear ih
    intro H locs ls hP hD hS hl
    obtain ⟨hx, hb, hr, hml, hown, hts, hlocks, hA, hK, hZ⟩ := id C0
    have h : m_Md_number_k86 fu x3 x4 x6 s_arr0 (loop4 (m_Md_number_k86 fu x3 x4 x6 s_arr0) n) x5 x7 s_pile s_arr1 = some (o_x5, o_pile, o_arr1) := h
    unfold m_Md_number_k86 at h
    refine lv_iload hx hb d_Md_number_86 (lv_at hl 7 rfl) ?_
    refine lv_iconst (v := (4 : Int32)) hx hb d_Md_number_88 (by decide) ?_
    refine lv_icmp_ge (tgt := 145) hx hb d_Md_number_89 (by decide) (fun c_17 => ?_) (fun c_17 => ?_)
    · have h := Eq.trans (if_pos c_17).symm h
      cases h
      exact K1 _ _ _ hP hD hS (lv_sub hl [0, 1, 2, 3, 4, 5] rfl)
    · have h := Eq.trans (if_neg c_17).symm h
      refine lv_iload hx hb d_Md_number_92 (lv_at hl 6 rfl) ?_
      refine lv_iload hx hb d_Md_number_94 (lv_at hl 7 rfl) ?_
      obtain ⟨r_18, hcall, h⟩ := bn1_some h
      refine sd_i (wr := [(a_this, .inr (9, [.int s_code, .int s_width, .int s_height, .ref a_this_inside, .ref a_this_values, .ref a_this_partOf, .ref a_this_waves, .int s_isRead, .int s_readWide, .int s_readHigh, .int s_readPlanes, .ref a_this_readInside, .ref a_this_readPart, .ref a_this_readValues, .ref a_this_stream, .int s_streamBits, .ref a_this_zeros, .ref a_this_fed, .int s_fedMany, .ref a_this_pile, .int s_mode, .int s_limit, .int s_count, .ref a_this_open, .ref a_this_sizes, .ref a_this_below])), (a_this_pile, .inl (ar 0, 256, .inl s_pile)), (a_arr0, .inl (ar 1, 256, .inl s_arr0)), (a_arr1, .inl (ar 0, 256, .inl s_arr1))]) (va_runS (As := [.int x6, .int x7]) (rest := []) ⟨hx, hb, hml, hown, hts⟩ (c_Md_beside 0 x6 x7 hcall _) (cw_S 2 hts k_877 k_878 k_40 k_879 rfl rfl (by decide +kernel) ⟨Nat.le_of_ble_eq_true rfl, Nat.le_of_ble_eq_true rfl⟩) (sd_preS hK hP hD hS hA hZ [] (by decide) rfl) rfl rfl hl.1 rfl (lv_room (Nat.le_of_ble_eq_true rfl)) d_Md_number_96 ⟨Nat.le_of_ble_eq_true rfl, Nat.le_of_ble_eq_true rfl⟩) hP hD hS hA [] [0, 1, 2, 3] rfl rfl (by decide) (by decide) (fun H locs hP hD hS => ?_)
      have hP : va_P D vwCl [(a_this, .inr (9, [.int s_code, .int s_width, .int s_height, .ref a_this_inside, .ref a_this_values, .ref a_this_partOf, .ref a_this_waves, .int s_isRead, .int s_readWide, .int s_readHigh, .int s_readPlanes, .ref a_this_readInside, .ref a_this_readPart, .ref a_this_readValues, .ref a_this_stream, .int s_streamBits, .ref a_this_zeros, .ref a_this_fed, .int s_fedMany, .ref a_this_pile, .int s_mode, .int s_limit, .int s_count, .ref a_this_open, .ref a_this_sizes, .ref a_this_below])), (a_this_pile, .inl (ar 0, 256, .inl s_pile)), (a_arr0, .inl (ar 1, 256, .inl s_arr0)), (a_arr1, .inl (ar 0, 256, .inl s_arr1))] H := hP
      have hD : va_D A [(a_this, .inr (9, [.int s_code, .int s_width, .int s_height, .ref a_this_inside, .ref a_this_values, .ref a_this_partOf, .ref a_this_waves, .int s_isRead, .int s_readWide, .int s_readHigh, .int s_readPlanes, .ref a_this_readInside, .ref a_this_readPart, .ref a_this_readValues, .ref a_this_stream, .int s_streamBits, .ref a_this_zeros, .ref a_this_fed, .int s_fedMany, .ref a_this_pile, .int s_mode, .int s_limit, .int s_count, .ref a_this_open, .ref a_this_sizes, .ref a_this_below])), (a_this_pile, .inl (ar 0, 256, .inl s_pile)), (a_arr0, .inl (ar 1, 256, .inl s_arr0)), (a_arr1, .inl (ar 0, 256, .inl s_arr1))] := hD
      refine lv_istore (lv' := [(8, .int r_18), (0, .ref a_this), (1, .ref a_arr0), (2, .ref a_arr1), (3, .int x3), (4, .int x4), (5, .int x5), (6, .int x6), (7, .int x7)]) hx hb d_Md_number_99 hl (by decide) rfl (fun ls hl => ?_)
      refine lv_iload hx hb d_Md_number_101 (lv_at hl 0 rfl) ?_
      refine lv_iconst (v := (-1 : Int32)) hx hb d_Md_number_103 (by decide) ?_
      refine lv_icmp_eq (tgt := 139) hx hb d_Md_number_104 (by decide) (fun c_19 => ?_) (fun c_19 => ?_)
      · have h := Eq.trans (if_pos c_19).symm h
        exact w_Md_number_b139 C0 x3 x4 x5 x6 x7 s_pile s_arr0 s_arr1 _ hrec K1 h _ _ _ hP hD hS (lv_sub hl [1, 2, 3, 4, 5, 6, 7, 8] rfl)
      · have h := Eq.trans (if_neg c_19).symm h
        refine lv_aload_n hx hb d_Md_number_107 rfl (lv_at hl 2 rfl) ?_
        refine lv_iload hx hb d_Md_number_108 (lv_at hl 0 rfl) ?_
        obtain ⟨b_21, h⟩ := chk_some h
        refine va_zald hx hb hK hP 2 1 rfl rfl b_21 d_Md_number_110 ?_
        refine lv_if_eq (tgt := 139) hx hb d_Md_number_111 (by decide) (fun c_22 => ?_) (fun c_22 => ?_)
        · have h := Eq.trans (if_pos c_22).symm h
          exact w_Md_number_b139 C0 x3 x4 x5 x6 x7 s_pile s_arr0 s_arr1 _ hrec K1 h _ _ _ hP hD hS (lv_sub hl [1, 2, 3, 4, 5, 6, 7, 8] rfl)
        · have h := Eq.trans (if_neg c_22).symm h
          refine lv_aload_n hx hb d_Md_number_114 rfl (lv_at hl 3 rfl) ?_
          refine lv_iload hx hb d_Md_number_115 (lv_at hl 0 rfl) ?_
          obtain ⟨b_23, h⟩ := chk_some h
          refine va_iald hx hb hK hP 3 0 rfl rfl b_23 d_Md_number_117 ?_
          refine lv_iconst (v := (-1 : Int32)) hx hb d_Md_number_118 (by decide) ?_
          refine lv_icmp_ne (tgt := 139) hx hb d_Md_number_119 (by decide) (fun c_24 => ?_) (fun c_24 => ?_)
          · have h := Eq.trans (if_neg c_24).symm h
            exact w_Md_number_b139 C0 x3 x4 x5 x6 x7 s_pile s_arr0 s_arr1 _ hrec K1 h _ _ _ hP hD hS (lv_sub hl [1, 2, 3, 4, 5, 6, 7, 8] rfl)
          · have h := Eq.trans (if_pos c_24).symm h
            refine lv_aload_n hx hb d_Md_number_122 rfl (lv_at hl 3 rfl) ?_
            refine lv_iload hx hb d_Md_number_123 (lv_at hl 0 rfl) ?_
            refine lv_iload_n hx hb d_Md_number_125 rfl (lv_at hl 4 rfl) ?_
            obtain ⟨b_25, h⟩ := chk_some h
            refine va_iast hx hb hK hP hD hS 3 0 rfl rfl b_25 d_Md_number_126 (fun H locs hP hD hS => ?_)
            have hP : va_P D vwCl [(a_this, .inr (9, [.int s_code, .int s_width, .int s_height, .ref a_this_inside, .ref a_this_values, .ref a_this_partOf, .ref a_this_waves, .int s_isRead, .int s_readWide, .int s_readHigh, .int s_readPlanes, .ref a_this_readInside, .ref a_this_readPart, .ref a_this_readValues, .ref a_this_stream, .int s_streamBits, .ref a_this_zeros, .ref a_this_fed, .int s_fedMany, .ref a_this_pile, .int s_mode, .int s_limit, .int s_count, .ref a_this_open, .ref a_this_sizes, .ref a_this_below])), (a_this_pile, .inl (ar 0, 256, .inl s_pile)), (a_arr0, .inl (ar 1, 256, .inl s_arr0)), (a_arr1, .inl (ar 0, 256, .inl (upd s_arr1 (r_18).toNatClampNeg x3)))] H := hP
            have hD : va_D A [(a_this, .inr (9, [.int s_code, .int s_width, .int s_height, .ref a_this_inside, .ref a_this_values, .ref a_this_partOf, .ref a_this_waves, .int s_isRead, .int s_readWide, .int s_readHigh, .int s_readPlanes, .ref a_this_readInside, .ref a_this_readPart, .ref a_this_readValues, .ref a_this_stream, .int s_streamBits, .ref a_this_zeros, .ref a_this_fed, .int s_fedMany, .ref a_this_pile, .int s_mode, .int s_limit, .int s_count, .ref a_this_open, .ref a_this_sizes, .ref a_this_below])), (a_this_pile, .inl (ar 0, 256, .inl s_pile)), (a_arr0, .inl (ar 1, 256, .inl s_arr0)), (a_arr1, .inl (ar 0, 256, .inl (upd s_arr1 (r_18).toNatClampNeg x3)))] := hD
            refine lv_aload_n hx hb d_Md_number_127 rfl (lv_at hl 1 rfl) ?_
            refine va_get (D := D) (ci := 9) (v := .ref a_this_pile) (C := R_Md) (T := F_Md) (N := 26) hx hb hts in_Md hown hK hP 0 rfl rfl 19 (by decide) (hts _ k_788) (fun _ h9 => h9) rfl d_Md_number_128 ?_
            refine lv_iload hx hb d_Md_number_131 (lv_at hl 6 rfl) ?_
            refine lv_iload hx hb d_Md_number_133 (lv_at hl 0 rfl) ?_
            obtain ⟨b_26, h⟩ := chk_some h
            refine va_iast hx hb hK hP hD hS 1 0 rfl rfl b_26 d_Md_number_135 (fun H locs hP hD hS => ?_)
            have hP : va_P D vwCl [(a_this, .inr (9, [.int s_code, .int s_width, .int s_height, .ref a_this_inside, .ref a_this_values, .ref a_this_partOf, .ref a_this_waves, .int s_isRead, .int s_readWide, .int s_readHigh, .int s_readPlanes, .ref a_this_readInside, .ref a_this_readPart, .ref a_this_readValues, .ref a_this_stream, .int s_streamBits, .ref a_this_zeros, .ref a_this_fed, .int s_fedMany, .ref a_this_pile, .int s_mode, .int s_limit, .int s_count, .ref a_this_open, .ref a_this_sizes, .ref a_this_below])), (a_this_pile, .inl (ar 0, 256, .inl (upd s_pile (x5).toNatClampNeg r_18))), (a_arr0, .inl (ar 1, 256, .inl s_arr0)), (a_arr1, .inl (ar 0, 256, .inl (upd s_arr1 (r_18).toNatClampNeg x3)))] H := hP
            have hD : va_D A [(a_this, .inr (9, [.int s_code, .int s_width, .int s_height, .ref a_this_inside, .ref a_this_values, .ref a_this_partOf, .ref a_this_waves, .int s_isRead, .int s_readWide, .int s_readHigh, .int s_readPlanes, .ref a_this_readInside, .ref a_this_readPart, .ref a_this_readValues, .ref a_this_stream, .int s_streamBits, .ref a_this_zeros, .ref a_this_fed, .int s_fedMany, .ref a_this_pile, .int s_mode, .int s_limit, .int s_count, .ref a_this_open, .ref a_this_sizes, .ref a_this_below])), (a_this_pile, .inl (ar 0, 256, .inl (upd s_pile (x5).toNatClampNeg r_18))), (a_arr0, .inl (ar 1, 256, .inl s_arr0)), (a_arr1, .inl (ar 0, 256, .inl (upd s_arr1 (r_18).toNatClampNeg x3)))] := hD
            obtain ⟨x5_27, e_x5_27⟩ : ∃ y : Int32, y = x5 + (1 : Int32) := ⟨_, rfl⟩
            have h := letB_at e_x5_27 h
            refine lv_iinc (v := x5_27) (lv' := [(5, .int x5_27), (8, .int r_18), (0, .ref a_this), (1, .ref a_arr0), (2, .ref a_arr1), (3, .int x3), (4, .int x4), (6, .int x6), (7, .int x7)]) hx hb d_Md_number_136 hl (k := 6) rfl (by rw [e_x5_27]; rfl) (by decide) rfl (fun ls hl => ?_)
            exact w_Md_number_b139 C0 x3 x4 x5_27 x6 x7 (upd s_pile (x5).toNatClampNeg r_18) s_arr0 (upd s_arr1 (r_18).toNatClampNeg x3) _ hrec K1 h _ _ _ hP hD hS (lv_sub hl [2, 3, 4, 5, 6, 0, 7, 8] rfl)
def m_Md_number_k66 (fu : Nat) (x3 : Int32) (x4 : Int32) (s_arr0 : Nat → Int32) (rec : Int32 → (Nat → Int32) → (Nat → Int32) → Option (((Nat → Int32) × (Nat → Int32)))) (x5 : Int32) (s_pile : Nat → Int32) (s_arr1 : Nat → Int32) : Option (((Nat → Int32) × (Nat → Int32))) :=
  if x5 ≤ (0 : Int32) then (some (s_pile, s_arr1)) else (letB (x5 + (-1 : Int32)) (fun x5_14 => chk x5_14 256 (letB (s_pile (x5_14).toNatClampNeg) (fun x6_16 => bn3 (loop4 (m_Md_number_k86 fu x3 x4 x6_16 s_arr0) fu x5_14 (0 : Int32) s_pile s_arr1) (fun o_x5_28 o_pile_29 o_arr1_30 => rec o_x5_28 o_pile_29 o_arr1_30)))))
set_option maxHeartbeats 4000000 in
set_option maxRecDepth 100000 in
theorem w_Md_number_l66 {p : Program} {l : Launch} {e : Env} {s : State} {m : MethodId} {args : Array Value} {below : List Frame} {meth : Method} {c : Code} {D : va_G} {ar : Nat → ClassId} {A : Nat → Prop} {Q : State → Prop} {fu : Nat} {a_this a_arr0 a_arr1 a_this_inside a_this_values a_this_partOf a_this_waves a_this_readInside a_this_readPart a_this_readValues a_this_stream a_this_zeros a_this_fed a_this_pile a_this_open a_this_sizes a_this_below : Nat} {s_code : Int32} {s_width : Int32} {s_height : Int32} {s_isRead : Int32} {s_readWide : Int32} {s_readHigh : Int32} {s_readPlanes : Int32} {s_streamBits : Int32} {s_fedMany : Int32} {s_mode : Int32} {s_limit : Int32} {s_count : Int32} (C0 : CX p s m meth c args prog_12_method_7_code 9 (some .int) "FreeWaveletsModel" D ar A) (x3 : Int32) (x4 : Int32) (s_arr0 : Nat → Int32) : ∀ (n : Nat) (x5 : Int32) (s_pile : Nat → Int32) (s_arr1 : Nat → Int32) (o_pile : Nat → Int32) (o_arr1 : Nat → Int32), loop3 (m_Md_number_k66 fu x3 x4 s_arr0) n x5 s_pile s_arr1 = some (o_pile, o_arr1) → (WA p l e rm_Md_number s m args below meth c D A 9 Q 148 [(a_this, .inr (9, [.int s_code, .int s_width, .int s_height, .ref a_this_inside, .ref a_this_values, .ref a_this_partOf, .ref a_this_waves, .int s_isRead, .int s_readWide, .int s_readHigh, .int s_readPlanes, .ref a_this_readInside, .ref a_this_readPart, .ref a_this_readValues, .ref a_this_stream, .int s_streamBits, .ref a_this_zeros, .ref a_this_fed, .int s_fedMany, .ref a_this_pile, .int s_mode, .int s_limit, .int s_count, .ref a_this_open, .ref a_this_sizes, .ref a_this_below])), (a_this_pile, .inl (ar 0, 256, .inl o_pile)), (a_arr0, .inl (ar 1, 256, .inl s_arr0)), (a_arr1, .inl (ar 0, 256, .inl o_arr1))] [(0, .ref a_this), (1, .ref a_arr0), (2, .ref a_arr1), (3, .int x3), (4, .int x4)] []) → WA p l e rm_Md_number s m args below meth c D A 9 Q 66 [(a_this, .inr (9, [.int s_code, .int s_width, .int s_height, .ref a_this_inside, .ref a_this_values, .ref a_this_partOf, .ref a_this_waves, .int s_isRead, .int s_readWide, .int s_readHigh, .int s_readPlanes, .ref a_this_readInside, .ref a_this_readPart, .ref a_this_readValues, .ref a_this_stream, .int s_streamBits, .ref a_this_zeros, .ref a_this_fed, .int s_fedMany, .ref a_this_pile, .int s_mode, .int s_limit, .int s_count, .ref a_this_open, .ref a_this_sizes, .ref a_this_below])), (a_this_pile, .inl (ar 0, 256, .inl s_pile)), (a_arr0, .inl (ar 1, 256, .inl s_arr0)), (a_arr1, .inl (ar 0, 256, .inl s_arr1))] [(0, .ref a_this), (1, .ref a_arr0), (2, .ref a_arr1), (3, .int x3), (4, .int x4), (5, .int x5)] [] := by
  intro n
  induction n with
  | zero => intro x5 s_pile s_arr1 o_pile o_arr1 h; exact (no0 h).elim
  | succ n ih =>
    intro x5 s_pile s_arr1 o_pile o_arr1 h K1
    have hrec : ∀ (x5 : Int32) (s_pile : Nat → Int32) (s_arr1 : Nat → Int32), loop3 (m_Md_number_k66 fu x3 x4 s_arr0) n x5 s_pile s_arr1 = some (o_pile, o_arr1) → WA p l e rm_Md_number s m args below meth c D A 9 Q 66 [(a_this, .inr (9, [.int s_code, .int s_width, .int s_height, .ref a_this_inside, .ref a_this_values, .ref a_this_partOf, .ref a_this_waves, .int s_isRead, .int s_readWide, .int s_readHigh, .int s_readPlanes, .ref a_this_readInside, .ref a_this_readPart, .ref a_this_readValues, .ref a_this_stream, .int s_streamBits, .ref a_this_zeros, .ref a_this_fed, .int s_fedMany, .ref a_this_pile, .int s_mode, .int s_limit, .int s_count, .ref a_this_open, .ref a_this_sizes, .ref a_this_below])), (a_this_pile, .inl (ar 0, 256, .inl s_pile)), (a_arr0, .inl (ar 1, 256, .inl s_arr0)), (a_arr1, .inl (ar 0, 256, .inl s_arr1))] [(0, .ref a_this), (1, .ref a_arr0), (2, .ref a_arr1), (3, .int x3), (4, .int x4), (5, .int x5)] [] := fun x5 s_pile s_arr1 h => ih x5 s_pile s_arr1 o_pile o_arr1 h K1
    clear ih
    intro H locs ls hP hD hS hl
    obtain ⟨hx, hb, hr, hml, hown, hts, hlocks, hA, hK, hZ⟩ := id C0
    have h : m_Md_number_k66 fu x3 x4 s_arr0 (loop3 (m_Md_number_k66 fu x3 x4 s_arr0) n) x5 s_pile s_arr1 = some (o_pile, o_arr1) := h
    unfold m_Md_number_k66 at h
    refine lv_iload hx hb d_Md_number_66 (lv_at hl 5 rfl) ?_
    refine lv_if_le (tgt := 148) hx hb d_Md_number_68 (by decide) (fun c_13 => ?_) (fun c_13 => ?_)
    · have h := Eq.trans (if_pos c_13).symm h
      cases h
      exact K1 _ _ _ hP hD hS (lv_sub hl [0, 1, 2, 3, 4] rfl)
    · have h := Eq.trans (if_neg c_13).symm h
      obtain ⟨x5_14, e_x5_14⟩ : ∃ y : Int32, y = x5 + (-1 : Int32) := ⟨_, rfl⟩
      have h := letB_at e_x5_14 h
      refine lv_iinc (v := x5_14) (lv' := [(5, .int x5_14), (0, .ref a_this), (1, .ref a_arr0), (2, .ref a_arr1), (3, .int x3), (4, .int x4)]) hx hb d_Md_number_71 hl (k := 5) rfl (by rw [e_x5_14]; rfl) (by decide) rfl (fun ls hl => ?_)
      refine lv_aload_n hx hb d_Md_number_74 rfl (lv_at hl 1 rfl) ?_
      refine va_get (D := D) (ci := 9) (v := .ref a_this_pile) (C := R_Md) (T := F_Md) (N := 26) hx hb hts in_Md hown hK hP 0 rfl rfl 19 (by decide) (hts _ k_788) (fun _ h9 => h9) rfl d_Md_number_75 ?_
      refine lv_iload hx hb d_Md_number_78 (lv_at hl 0 rfl) ?_
      obtain ⟨b_15, h⟩ := chk_some h
      refine va_iald hx hb hK hP 1 0 rfl rfl b_15 d_Md_number_80 ?_
      refine lv_topi (fun x6_16 e_x6_16 => ?_)
      have h := letB_at e_x6_16 h
      refine lv_istore (lv' := [(6, .int x6_16), (5, .int x5_14), (0, .ref a_this), (1, .ref a_arr0), (2, .ref a_arr1), (3, .int x3), (4, .int x4)]) hx hb d_Md_number_81 hl (by decide) rfl (fun ls hl => ?_)
      refine lv_iconst (v := (0 : Int32)) hx hb d_Md_number_83 (by decide) ?_
      refine lv_istore (lv' := [(7, .int (0 : Int32)), (6, .int x6_16), (5, .int x5_14), (0, .ref a_this), (1, .ref a_arr0), (2, .ref a_arr1), (3, .int x3), (4, .int x4)]) hx hb d_Md_number_84 hl (by decide) rfl (fun ls hl => ?_)
      obtain ⟨o_x5_28, o_pile_29, o_arr1_30, hloop, h⟩ := bn3_some h
      refine w_Md_number_l86 C0 x3 x4 x6_16 s_arr0 fu x5_14 (0 : Int32) s_pile s_arr1 _ _ _ hloop ?_ _ _ _ hP hD hS (lv_sub hl [3, 4, 5, 6, 7, 2, 1, 0] rfl)
      clear hP hD hS hl hloop
      intro H locs ls hP hD hS hl
      refine lv_goto (tgt := 66) hx hb d_Md_number_145 (by decide) ?_
      exact hrec o_x5_28 o_pile_29 o_arr1_30 h _ _ _ hP hD hS hl
def m_Md_number_k24 (fu : Nat) (s_arr0 : Nat → Int32) (rec : Int32 → Int32 → (Nat → Int32) → (Nat → Int32) → Option ((Int32 × (Nat → Int32) × (Nat → Int32)))) (x3 : Int32) (x4 : Int32) (s_pile : Nat → Int32) (s_arr1 : Nat → Int32) : Option ((Int32 × (Nat → Int32) × (Nat → Int32))) :=
  if (256 : Int32) ≤ x4 then (some (x3, s_pile, s_arr1)) else (chk x4 256 (if (s_arr0 (x4).toNatClampNeg) = (0 : Int32) then (m_Md_number_b151 fu rec x3 x4 s_pile s_arr0 s_arr1) else (chk x4 256 (if (s_arr1 (x4).toNatClampNeg) = (-1 : Int32) then (chk x4 256 (chk (0 : Int32) 256 (bn2 (loop3 (m_Md_number_k66 fu x3 x4 s_arr0) fu (1 : Int32) (upd s_pile ((0 : Int32)).toNatClampNeg x4) (upd s_arr1 (x4).toNatClampNeg x3)) (fun o_pile_31 o_arr1_32 => letB (x3 + (1 : Int32)) (fun x3_33 => m_Md_number_b151 fu rec x3_33 x4 o_pile_31 s_arr0 o_arr1_32))))) else (m_Md_number_b151 fu rec x3 x4 s_pile s_arr0 s_arr1)))))
set_option maxHeartbeats 4000000 in
set_option maxRecDepth 100000 in
theorem w_Md_number_l24 {p : Program} {l : Launch} {e : Env} {s : State} {m : MethodId} {args : Array Value} {below : List Frame} {meth : Method} {c : Code} {D : va_G} {ar : Nat → ClassId} {A : Nat → Prop} {Q : State → Prop} {fu : Nat} {a_this a_arr0 a_arr1 a_this_inside a_this_values a_this_partOf a_this_waves a_this_readInside a_this_readPart a_this_readValues a_this_stream a_this_zeros a_this_fed a_this_pile a_this_open a_this_sizes a_this_below : Nat} {s_code : Int32} {s_width : Int32} {s_height : Int32} {s_isRead : Int32} {s_readWide : Int32} {s_readHigh : Int32} {s_readPlanes : Int32} {s_streamBits : Int32} {s_fedMany : Int32} {s_mode : Int32} {s_limit : Int32} {s_count : Int32} (C0 : CX p s m meth c args prog_12_method_7_code 9 (some .int) "FreeWaveletsModel" D ar A) (s_arr0 : Nat → Int32) : ∀ (n : Nat) (x3 : Int32) (x4 : Int32) (s_pile : Nat → Int32) (s_arr1 : Nat → Int32) (o_x3 : Int32) (o_pile : Nat → Int32) (o_arr1 : Nat → Int32), loop4 (m_Md_number_k24 fu s_arr0) n x3 x4 s_pile s_arr1 = some (o_x3, o_pile, o_arr1) → (WA p l e rm_Md_number s m args below meth c D A 9 Q 157 [(a_this, .inr (9, [.int s_code, .int s_width, .int s_height, .ref a_this_inside, .ref a_this_values, .ref a_this_partOf, .ref a_this_waves, .int s_isRead, .int s_readWide, .int s_readHigh, .int s_readPlanes, .ref a_this_readInside, .ref a_this_readPart, .ref a_this_readValues, .ref a_this_stream, .int s_streamBits, .ref a_this_zeros, .ref a_this_fed, .int s_fedMany, .ref a_this_pile, .int s_mode, .int s_limit, .int s_count, .ref a_this_open, .ref a_this_sizes, .ref a_this_below])), (a_this_pile, .inl (ar 0, 256, .inl o_pile)), (a_arr0, .inl (ar 1, 256, .inl s_arr0)), (a_arr1, .inl (ar 0, 256, .inl o_arr1))] [(3, .int o_x3)] []) → WA p l e rm_Md_number s m args below meth c D A 9 Q 24 [(a_this, .inr (9, [.int s_code, .int s_width, .int s_height, .ref a_this_inside, .ref a_this_values, .ref a_this_partOf, .ref a_this_waves, .int s_isRead, .int s_readWide, .int s_readHigh, .int s_readPlanes, .ref a_this_readInside, .ref a_this_readPart, .ref a_this_readValues, .ref a_this_stream, .int s_streamBits, .ref a_this_zeros, .ref a_this_fed, .int s_fedMany, .ref a_this_pile, .int s_mode, .int s_limit, .int s_count, .ref a_this_open, .ref a_this_sizes, .ref a_this_below])), (a_this_pile, .inl (ar 0, 256, .inl s_pile)), (a_arr0, .inl (ar 1, 256, .inl s_arr0)), (a_arr1, .inl (ar 0, 256, .inl s_arr1))] [(0, .ref a_this), (1, .ref a_arr0), (2, .ref a_arr1), (3, .int x3), (4, .int x4)] [] := by
  intro n
  induction n with
  | zero => intro x3 x4 s_pile s_arr1 o_x3 o_pile o_arr1 h; exact (no0 h).elim
  | succ n ih =>
    intro x3 x4 s_pile s_arr1 o_x3 o_pile o_arr1 h K1
    have hrec : ∀ (x3 : Int32) (x4 : Int32) (s_pile : Nat → Int32) (s_arr1 : Nat → Int32), loop4 (m_Md_number_k24 fu s_arr0) n x3 x4 s_pile s_arr1 = some (o_x3, o_pile, o_arr1) → WA p l e rm_Md_number s m args below meth c D A 9 Q 24 [(a_this, .inr (9, [.int s_code, .int s_width, .int s_height, .ref a_this_inside, .ref a_this_values, .ref a_this_partOf, .ref a_this_waves, .int s_isRead, .int s_readWide, .int s_readHigh, .int s_readPlanes, .ref a_this_readInside, .ref a_this_readPart, .ref a_this_readValues, .ref a_this_stream, .int s_streamBits, .ref a_this_zeros, .ref a_this_fed, .int s_fedMany, .ref a_this_pile, .int s_mode, .int s_limit, .int s_count, .ref a_this_open, .ref a_this_sizes, .ref a_this_below])), (a_this_pile, .inl (ar 0, 256, .inl s_pile)), (a_arr0, .inl (ar 1, 256, .inl s_arr0)), (a_arr1, .inl (ar 0, 256, .inl s_arr1))] [(0, .ref a_this), (1, .ref a_arr0), (2, .ref a_arr1), (3, .int x3), (4, .int x4)] [] := fun x3 x4 s_pile s_arr1 h => ih x3 x4 s_pile s_arr1 o_x3 o_pile o_arr1 h K1
    clear ih
    intro H locs ls hP hD hS hl
    obtain ⟨hx, hb, hr, hml, hown, hts, hlocks, hA, hK, hZ⟩ := id C0
    have h : m_Md_number_k24 fu s_arr0 (loop4 (m_Md_number_k24 fu s_arr0) n) x3 x4 s_pile s_arr1 = some (o_x3, o_pile, o_arr1) := h
    unfold m_Md_number_k24 at h
    refine lv_iload hx hb d_Md_number_24 (lv_at hl 4 rfl) ?_
    refine lv_sipush (v := (256 : Int32)) hx hb d_Md_number_26 (by decide) ?_
    refine lv_icmp_ge (tgt := 157) hx hb d_Md_number_29 (by decide) (fun c_5 => ?_) (fun c_5 => ?_)
    · have h := Eq.trans (if_pos c_5).symm h
      cases h
      exact K1 _ _ _ hP hD hS (lv_sub hl [3] rfl)
    · have h := Eq.trans (if_neg c_5).symm h
      refine lv_aload_n hx hb d_Md_number_32 rfl (lv_at hl 1 rfl) ?_
      refine lv_iload hx hb d_Md_number_33 (lv_at hl 4 rfl) ?_
      obtain ⟨b_6, h⟩ := chk_some h
      refine va_zald hx hb hK hP 2 1 rfl rfl b_6 d_Md_number_35 ?_
      refine lv_if_eq (tgt := 151) hx hb d_Md_number_36 (by decide) (fun c_7 => ?_) (fun c_7 => ?_)
      · have h := Eq.trans (if_pos c_7).symm h
        exact w_Md_number_b151 C0 x3 x4 s_pile s_arr0 s_arr1 _ hrec K1 h _ _ _ hP hD hS hl
      · have h := Eq.trans (if_neg c_7).symm h
        refine lv_aload_n hx hb d_Md_number_39 rfl (lv_at hl 2 rfl) ?_
        refine lv_iload hx hb d_Md_number_40 (lv_at hl 4 rfl) ?_
        obtain ⟨b_9, h⟩ := chk_some h
        refine va_iald hx hb hK hP 3 0 rfl rfl b_9 d_Md_number_42 ?_
        refine lv_iconst (v := (-1 : Int32)) hx hb d_Md_number_43 (by decide) ?_
        refine lv_icmp_eq (tgt := 50) hx hb d_Md_number_44 (by decide) (fun c_10 => ?_) (fun c_10 => ?_)
        · have h := Eq.trans (if_pos c_10).symm h
          refine lv_aload_n hx hb d_Md_number_50 rfl (lv_at hl 2 rfl) ?_
          refine lv_iload hx hb d_Md_number_51 (lv_at hl 4 rfl) ?_
          refine lv_iload_n hx hb d_Md_number_53 rfl (lv_at hl 3 rfl) ?_
          obtain ⟨b_11, h⟩ := chk_some h
          refine va_iast hx hb hK hP hD hS 3 0 rfl rfl b_11 d_Md_number_54 (fun H locs hP hD hS => ?_)
          have hP : va_P D vwCl [(a_this, .inr (9, [.int s_code, .int s_width, .int s_height, .ref a_this_inside, .ref a_this_values, .ref a_this_partOf, .ref a_this_waves, .int s_isRead, .int s_readWide, .int s_readHigh, .int s_readPlanes, .ref a_this_readInside, .ref a_this_readPart, .ref a_this_readValues, .ref a_this_stream, .int s_streamBits, .ref a_this_zeros, .ref a_this_fed, .int s_fedMany, .ref a_this_pile, .int s_mode, .int s_limit, .int s_count, .ref a_this_open, .ref a_this_sizes, .ref a_this_below])), (a_this_pile, .inl (ar 0, 256, .inl s_pile)), (a_arr0, .inl (ar 1, 256, .inl s_arr0)), (a_arr1, .inl (ar 0, 256, .inl (upd s_arr1 (x4).toNatClampNeg x3)))] H := hP
          have hD : va_D A [(a_this, .inr (9, [.int s_code, .int s_width, .int s_height, .ref a_this_inside, .ref a_this_values, .ref a_this_partOf, .ref a_this_waves, .int s_isRead, .int s_readWide, .int s_readHigh, .int s_readPlanes, .ref a_this_readInside, .ref a_this_readPart, .ref a_this_readValues, .ref a_this_stream, .int s_streamBits, .ref a_this_zeros, .ref a_this_fed, .int s_fedMany, .ref a_this_pile, .int s_mode, .int s_limit, .int s_count, .ref a_this_open, .ref a_this_sizes, .ref a_this_below])), (a_this_pile, .inl (ar 0, 256, .inl s_pile)), (a_arr0, .inl (ar 1, 256, .inl s_arr0)), (a_arr1, .inl (ar 0, 256, .inl (upd s_arr1 (x4).toNatClampNeg x3)))] := hD
          refine lv_aload_n hx hb d_Md_number_55 rfl (lv_at hl 0 rfl) ?_
          refine va_get (D := D) (ci := 9) (v := .ref a_this_pile) (C := R_Md) (T := F_Md) (N := 26) hx hb hts in_Md hown hK hP 0 rfl rfl 19 (by decide) (hts _ k_788) (fun _ h9 => h9) rfl d_Md_number_56 ?_
          refine lv_iconst (v := (0 : Int32)) hx hb d_Md_number_59 (by decide) ?_
          refine lv_iload hx hb d_Md_number_60 (lv_at hl 4 rfl) ?_
          obtain ⟨b_12, h⟩ := chk_some h
          refine va_iast hx hb hK hP hD hS 1 0 rfl rfl b_12 d_Md_number_62 (fun H locs hP hD hS => ?_)
          have hP : va_P D vwCl [(a_this, .inr (9, [.int s_code, .int s_width, .int s_height, .ref a_this_inside, .ref a_this_values, .ref a_this_partOf, .ref a_this_waves, .int s_isRead, .int s_readWide, .int s_readHigh, .int s_readPlanes, .ref a_this_readInside, .ref a_this_readPart, .ref a_this_readValues, .ref a_this_stream, .int s_streamBits, .ref a_this_zeros, .ref a_this_fed, .int s_fedMany, .ref a_this_pile, .int s_mode, .int s_limit, .int s_count, .ref a_this_open, .ref a_this_sizes, .ref a_this_below])), (a_this_pile, .inl (ar 0, 256, .inl (upd s_pile ((0 : Int32)).toNatClampNeg x4))), (a_arr0, .inl (ar 1, 256, .inl s_arr0)), (a_arr1, .inl (ar 0, 256, .inl (upd s_arr1 (x4).toNatClampNeg x3)))] H := hP
          have hD : va_D A [(a_this, .inr (9, [.int s_code, .int s_width, .int s_height, .ref a_this_inside, .ref a_this_values, .ref a_this_partOf, .ref a_this_waves, .int s_isRead, .int s_readWide, .int s_readHigh, .int s_readPlanes, .ref a_this_readInside, .ref a_this_readPart, .ref a_this_readValues, .ref a_this_stream, .int s_streamBits, .ref a_this_zeros, .ref a_this_fed, .int s_fedMany, .ref a_this_pile, .int s_mode, .int s_limit, .int s_count, .ref a_this_open, .ref a_this_sizes, .ref a_this_below])), (a_this_pile, .inl (ar 0, 256, .inl (upd s_pile ((0 : Int32)).toNatClampNeg x4))), (a_arr0, .inl (ar 1, 256, .inl s_arr0)), (a_arr1, .inl (ar 0, 256, .inl (upd s_arr1 (x4).toNatClampNeg x3)))] := hD
          refine lv_iconst (v := (1 : Int32)) hx hb d_Md_number_63 (by decide) ?_
          refine lv_istore (lv' := [(5, .int (1 : Int32)), (0, .ref a_this), (1, .ref a_arr0), (2, .ref a_arr1), (3, .int x3), (4, .int x4)]) hx hb d_Md_number_64 hl (by decide) rfl (fun ls hl => ?_)
          obtain ⟨o_pile_31, o_arr1_32, hloop, h⟩ := bn2_some h
          refine w_Md_number_l66 C0 x3 x4 s_arr0 fu (1 : Int32) (upd s_pile ((0 : Int32)).toNatClampNeg x4) (upd s_arr1 (x4).toNatClampNeg x3) _ _ hloop ?_ _ _ _ hP hD hS (lv_sub hl [1, 2, 3, 4, 5, 0] rfl)
          clear hP hD hS hl hloop
          intro H locs ls hP hD hS hl
          obtain ⟨x3_33, e_x3_33⟩ : ∃ y : Int32, y = x3 + (1 : Int32) := ⟨_, rfl⟩
          have h := letB_at e_x3_33 h
          refine lv_iinc (v := x3_33) (lv' := [(3, .int x3_33), (0, .ref a_this), (1, .ref a_arr0), (2, .ref a_arr1), (4, .int x4)]) hx hb d_Md_number_148 hl (k := 3) rfl (by rw [e_x3_33]; rfl) (by decide) rfl (fun ls hl => ?_)
          exact w_Md_number_b151 C0 x3_33 x4 o_pile_31 s_arr0 o_arr1_32 _ hrec K1 h _ _ _ hP hD hS (lv_sub hl [1, 2, 3, 0, 4] rfl)
        · have h := Eq.trans (if_neg c_10).symm h
          refine lv_goto (tgt := 151) hx hb d_Md_number_47 (by decide) ?_
          exact w_Md_number_b151 C0 x3 x4 s_pile s_arr0 s_arr1 _ hrec K1 h _ _ _ hP hD hS hl
def m_Md_number (fu : Nat) (s_pile : Nat → Int32) (s_arr0 : Nat → Int32) (s_arr1 : Nat → Int32) : Option (Int32 × (Nat → Int32) × (Nat → Int32)) :=
  bn1 (loop2 (m_Md_number_k2 fu s_pile s_arr0) fu (0 : Int32) s_arr1) (fun o_arr1_4 => bn3 (loop4 (m_Md_number_k24 fu s_arr0) fu (0 : Int32) (0 : Int32) s_pile o_arr1_4) (fun o_x3_34 o_pile_35 o_arr1_36 => some (o_x3_34, o_pile_35, o_arr1_36)))
set_option maxHeartbeats 4000000 in
set_option maxRecDepth 100000 in
theorem c_Md_number {l : Launch} {D : va_G} {ar : Nat → ClassId} {fu : Nat} (a_this a_arr0 a_arr1 a_this_inside a_this_values a_this_partOf a_this_waves a_this_readInside a_this_readPart a_this_readValues a_this_stream a_this_zeros a_this_fed a_this_pile a_this_open a_this_sizes a_this_below : Nat) (s_code : Int32) (s_width : Int32) (s_height : Int32) (s_isRead : Int32) (s_readWide : Int32) (s_readHigh : Int32) (s_readPlanes : Int32) (s_streamBits : Int32) (s_fedMany : Int32) (s_mode : Int32) (s_limit : Int32) (s_count : Int32) (s_pile : Nat → Int32) (s_arr0 : Nat → Int32) (s_arr1 : Nat → Int32) {r_v : Int32} {r_pile : Nat → Int32} {r_arr1 : Nat → Int32} (h : m_Md_number fu s_pile s_arr0 s_arr1 = some (r_v, r_pile, r_arr1)) : StdI l y_Md_number ws_Md_number rm_Md_number D ar [.ref a_this, .ref a_arr0, .ref a_arr1] [(a_this, .inr (9, [.int s_code, .int s_width, .int s_height, .ref a_this_inside, .ref a_this_values, .ref a_this_partOf, .ref a_this_waves, .int s_isRead, .int s_readWide, .int s_readHigh, .int s_readPlanes, .ref a_this_readInside, .ref a_this_readPart, .ref a_this_readValues, .ref a_this_stream, .int s_streamBits, .ref a_this_zeros, .ref a_this_fed, .int s_fedMany, .ref a_this_pile, .int s_mode, .int s_limit, .int s_count, .ref a_this_open, .ref a_this_sizes, .ref a_this_below])), (a_this_pile, .inl (ar 0, 256, .inl s_pile)), (a_arr0, .inl (ar 1, 256, .inl s_arr0)), (a_arr1, .inl (ar 0, 256, .inl s_arr1))] [(a_this, .inr (9, [.int s_code, .int s_width, .int s_height, .ref a_this_inside, .ref a_this_values, .ref a_this_partOf, .ref a_this_waves, .int s_isRead, .int s_readWide, .int s_readHigh, .int s_readPlanes, .ref a_this_readInside, .ref a_this_readPart, .ref a_this_readValues, .ref a_this_stream, .int s_streamBits, .ref a_this_zeros, .ref a_this_fed, .int s_fedMany, .ref a_this_pile, .int s_mode, .int s_limit, .int s_count, .ref a_this_open, .ref a_this_sizes, .ref a_this_below])), (a_this_pile, .inl (ar 0, 256, .inl r_pile)), (a_arr0, .inl (ar 1, 256, .inl s_arr0)), (a_arr1, .inl (ar 0, 256, .inl r_arr1))] r_v := by
  refine sd_metI (cc := prog_12_method_7_code) (maxL := 9) (ret := (some .int)) (own := "FreeWaveletsModel") (by decide) rfl rfl (Nat.le_of_ble_eq_true rfl) ?_
  intro p e s m below meth c A ls C0 hP hD hl
  obtain ⟨hx, hb, hr, hml, hown, hts, hlocks, hA, hK, hZ⟩ := id C0
  have hS : va_S A s.heap s.heap [] := va_S.rf
  have hl : lv_has ls 9 [(0, .ref a_this), (1, .ref a_arr0), (2, .ref a_arr1)] := hl
  unfold m_Md_number at h
  refine lv_iconst (v := (0 : Int32)) hx hb d_Md_number_0 (by decide) ?_
  refine lv_istore_n (lv' := [(3, .int (0 : Int32)), (0, .ref a_this), (1, .ref a_arr0), (2, .ref a_arr1)]) hx hb d_Md_number_1 rfl hl (by decide) rfl (fun ls hl => ?_)
  obtain ⟨o_arr1_4, hloop, h⟩ := bn1_some h
  refine w_Md_number_l2 C0 s_pile s_arr0 fu (0 : Int32) s_arr1 _ hloop ?_ _ _ _ hP hD hS (lv_sub hl [1, 2, 3, 0] rfl)
  clear hP hD hS hl hloop
  intro H locs ls hP hD hS hl
  refine lv_iconst (v := (0 : Int32)) hx hb d_Md_number_19 (by decide) ?_
  refine lv_istore_n (lv' := [(3, .int (0 : Int32)), (0, .ref a_this), (1, .ref a_arr0), (2, .ref a_arr1)]) hx hb d_Md_number_20 rfl hl (by decide) rfl (fun ls hl => ?_)
  refine lv_iconst (v := (0 : Int32)) hx hb d_Md_number_21 (by decide) ?_
  refine lv_istore (lv' := [(4, .int (0 : Int32)), (3, .int (0 : Int32)), (0, .ref a_this), (1, .ref a_arr0), (2, .ref a_arr1)]) hx hb d_Md_number_22 hl (by decide) rfl (fun ls hl => ?_)
  obtain ⟨o_x3_34, o_pile_35, o_arr1_36, hloop, h⟩ := bn3_some h
  refine w_Md_number_l24 C0 s_arr0 fu (0 : Int32) (0 : Int32) s_pile o_arr1_4 _ _ _ hloop ?_ _ _ _ hP hD hS (lv_sub hl [2, 3, 4, 1, 0] rfl)
  clear hP hD hS hl hloop
  intro H locs ls hP hD hS hl
  refine lv_iload_n hx hb d_Md_number_157 rfl (lv_at hl 0 rfl) ?_
  cases h
  exact sd_iret hx hb hr hlocks hP hD hK hS d_Md_number_158
abbrev rm_Md_around : Room := { frames := 0, cells := 0, slots := 0, locals := 0 }
def m_Md_around_b146 (fu : Nat) (t0 : Int32) (s_arr0 : Nat → Int32) (s_arr1 : Nat → Int32) : Option (Int32) :=
  some t0
set_option maxHeartbeats 4000000 in
set_option maxRecDepth 100000 in
theorem w_Md_around_b146 {p : Program} {l : Launch} {e : Env} {s : State} {m : MethodId} {args : Array Value} {below : List Frame} {meth : Method} {c : Code} {D : va_G} {ar : Nat → ClassId} {A : Nat → Prop} {fu : Nat} {a_arr0 a_arr1 : Nat} {r_v : Int32} (C0 : CX p s m meth c args prog_12_method_8_code 9 (some .int) "FreeWaveletsModel" D ar A) (t0 : Int32) (s_arr0 : Nat → Int32) (s_arr1 : Nat → Int32) (h : m_Md_around_b146 fu t0 s_arr0 s_arr1 = some r_v) : WA p l e rm_Md_around s m args below meth c D A 9 (MQ below (QI D ar [(a_arr0, .inl (ar 0, 256, .inl s_arr0)), (a_arr1, .inl (ar 0, 256, .inl s_arr1))] r_v A) args s 0 0 A) 146 [(a_arr0, .inl (ar 0, 256, .inl s_arr0)), (a_arr1, .inl (ar 0, 256, .inl s_arr1))] [] [.int t0] := by
  intro H locs ls hP hD hS hl
  obtain ⟨hx, hb, hr, hml, hown, hts, hlocks, hA, hK, hZ⟩ := id C0
  unfold m_Md_around_b146 at h
  cases h
  exact sd_iret hx hb hr hlocks hP hD hK hS d_Md_around_146
def m_Md_around_b112 (fu : Nat) (x2 : Int32) (x6 : Int32) (x7 : Int32) (x8 : Int32) (s_arr0 : Nat → Int32) (s_arr1 : Nat → Int32) : Option (Int32) :=
  if x7 = (0 : Int32) then (if x8 = (0 : Int32) then (m_Md_around_b146 fu (-2147483648 : Int32) s_arr0 s_arr1) else (chk (x2 + x6) 256 (m_Md_around_b146 fu ((2 : Int32) * (s_arr1 (x2 + x6).toNatClampNeg)) s_arr0 s_arr1))) else (chk (x2 - x6) 256 (m_Md_around_b146 fu ((2 : Int32) * (s_arr1 (x2 - x6).toNatClampNeg)) s_arr0 s_arr1))
set_option maxHeartbeats 4000000 in
set_option maxRecDepth 100000 in
theorem w_Md_around_b112 {p : Program} {l : Launch} {e : Env} {s : State} {m : MethodId} {args : Array Value} {below : List Frame} {meth : Method} {c : Code} {D : va_G} {ar : Nat → ClassId} {A : Nat → Prop} {fu : Nat} {a_arr0 a_arr1 : Nat} {r_v : Int32} (C0 : CX p s m meth c args prog_12_method_8_code 9 (some .int) "FreeWaveletsModel" D ar A) (x2 : Int32) (x6 : Int32) (x7 : Int32) (x8 : Int32) (s_arr0 : Nat → Int32) (s_arr1 : Nat → Int32) (h : m_Md_around_b112 fu x2 x6 x7 x8 s_arr0 s_arr1 = some r_v) : WA p l e rm_Md_around s m args below meth c D A 9 (MQ below (QI D ar [(a_arr0, .inl (ar 0, 256, .inl s_arr0)), (a_arr1, .inl (ar 0, 256, .inl s_arr1))] r_v A) args s 0 0 A) 112 [(a_arr0, .inl (ar 0, 256, .inl s_arr0)), (a_arr1, .inl (ar 0, 256, .inl s_arr1))] [(1, .ref a_arr1), (2, .int x2), (6, .int x6), (7, .int x7), (8, .int x8)] [] := by
  intro H locs ls hP hD hS hl
  obtain ⟨hx, hb, hr, hml, hown, hts, hlocks, hA, hK, hZ⟩ := id C0
  unfold m_Md_around_b112 at h
  refine lv_iload hx hb d_Md_around_112 (lv_at hl 3 rfl) ?_
  refine lv_if_eq (tgt := 128) hx hb d_Md_around_114 (by decide) (fun c_7 => ?_) (fun c_7 => ?_)
  · have h := Eq.trans (if_pos c_7).symm h
    refine lv_iload hx hb d_Md_around_128 (lv_at hl 4 rfl) ?_
    refine lv_if_eq (tgt := 144) hx hb d_Md_around_130 (by decide) (fun c_8 => ?_) (fun c_8 => ?_)
    · have h := Eq.trans (if_pos c_8).symm h
      refine lv_ldc (v := (-2147483648 : Int32)) hx hb hown (hts _ k_886) d_Md_around_144 ?_
      exact w_Md_around_b146 C0 (-2147483648 : Int32) s_arr0 s_arr1 h _ _ _ hP hD hS (lv_sub hl [] rfl)
    · have h := Eq.trans (if_neg c_8).symm h
      refine lv_iconst (v := (2 : Int32)) hx hb d_Md_around_133 (by decide) ?_
      refine lv_aload_n hx hb d_Md_around_134 rfl (lv_at hl 0 rfl) ?_
      refine lv_iload_n hx hb d_Md_around_135 rfl (lv_at hl 1 rfl) ?_
      refine lv_iload hx hb d_Md_around_136 (lv_at hl 2 rfl) ?_
      refine lv_iadd hx hb d_Md_around_138 ?_
      obtain ⟨b_9, h⟩ := chk_some h
      refine va_iald hx hb hK hP 1 0 rfl rfl b_9 d_Md_around_139 ?_
      refine lv_imul hx hb d_Md_around_140 ?_
      refine lv_goto (tgt := 146) hx hb d_Md_around_141 (by decide) ?_
      exact w_Md_around_b146 C0 ((2 : Int32) * (s_arr1 (x2 + x6).toNatClampNeg)) s_arr0 s_arr1 h _ _ _ hP hD hS (lv_sub hl [] rfl)
  · have h := Eq.trans (if_neg c_7).symm h
    refine lv_iconst (v := (2 : Int32)) hx hb d_Md_around_117 (by decide) ?_
    refine lv_aload_n hx hb d_Md_around_118 rfl (lv_at hl 0 rfl) ?_
    refine lv_iload_n hx hb d_Md_around_119 rfl (lv_at hl 1 rfl) ?_
    refine lv_iload hx hb d_Md_around_120 (lv_at hl 2 rfl) ?_
    refine lv_isub hx hb d_Md_around_122 ?_
    obtain ⟨b_10, h⟩ := chk_some h
    refine va_iald hx hb hK hP 1 0 rfl rfl b_10 d_Md_around_123 ?_
    refine lv_imul hx hb d_Md_around_124 ?_
    refine lv_goto (tgt := 146) hx hb d_Md_around_125 (by decide) ?_
    exact w_Md_around_b146 C0 ((2 : Int32) * (s_arr1 (x2 - x6).toNatClampNeg)) s_arr0 s_arr1 h _ _ _ hP hD hS (lv_sub hl [] rfl)
def m_Md_around_b84 (fu : Nat) (x2 : Int32) (x6 : Int32) (x7 : Int32) (t0 : Int32) (s_arr0 : Nat → Int32) (s_arr1 : Nat → Int32) : Option (Int32) :=
  if x7 = (0 : Int32) then (m_Md_around_b112 fu x2 x6 x7 t0 s_arr0 s_arr1) else (if t0 = (0 : Int32) then (m_Md_around_b112 fu x2 x6 x7 t0 s_arr0 s_arr1) else (chk (x2 - x6) 256 (chk (x2 + x6) 256 (m_Md_around_b146 fu ((s_arr1 (x2 - x6).toNatClampNeg) + (s_arr1 (x2 + x6).toNatClampNeg)) s_arr0 s_arr1))))
set_option maxHeartbeats 4000000 in
set_option maxRecDepth 100000 in
theorem w_Md_around_b84 {p : Program} {l : Launch} {e : Env} {s : State} {m : MethodId} {args : Array Value} {below : List Frame} {meth : Method} {c : Code} {D : va_G} {ar : Nat → ClassId} {A : Nat → Prop} {fu : Nat} {a_arr0 a_arr1 : Nat} {r_v : Int32} (C0 : CX p s m meth c args prog_12_method_8_code 9 (some .int) "FreeWaveletsModel" D ar A) (x2 : Int32) (x6 : Int32) (x7 : Int32) (t0 : Int32) (s_arr0 : Nat → Int32) (s_arr1 : Nat → Int32) (h : m_Md_around_b84 fu x2 x6 x7 t0 s_arr0 s_arr1 = some r_v) : WA p l e rm_Md_around s m args below meth c D A 9 (MQ below (QI D ar [(a_arr0, .inl (ar 0, 256, .inl s_arr0)), (a_arr1, .inl (ar 0, 256, .inl s_arr1))] r_v A) args s 0 0 A) 84 [(a_arr0, .inl (ar 0, 256, .inl s_arr0)), (a_arr1, .inl (ar 0, 256, .inl s_arr1))] [(1, .ref a_arr1), (2, .int x2), (6, .int x6), (7, .int x7)] [.int t0] := by
  intro H locs ls hP hD hS hl
  obtain ⟨hx, hb, hr, hml, hown, hts, hlocks, hA, hK, hZ⟩ := id C0
  unfold m_Md_around_b84 at h
  refine lv_istore (lv' := [(8, .int t0), (1, .ref a_arr1), (2, .int x2), (6, .int x6), (7, .int x7)]) hx hb d_Md_around_84 hl (by decide) rfl (fun ls hl => ?_)
  refine lv_iload hx hb d_Md_around_86 (lv_at hl 4 rfl) ?_
  refine lv_if_eq (tgt := 112) hx hb d_Md_around_88 (by decide) (fun c_6 => ?_) (fun c_6 => ?_)
  · have h := Eq.trans (if_pos c_6).symm h
    exact w_Md_around_b112 C0 x2 x6 x7 t0 s_arr0 s_arr1 h _ _ _ hP hD hS (lv_sub hl [1, 2, 3, 4, 0] rfl)
  · have h := Eq.trans (if_neg c_6).symm h
    refine lv_iload hx hb d_Md_around_91 (lv_at hl 0 rfl) ?_
    refine lv_if_eq (tgt := 112) hx hb d_Md_around_93 (by decide) (fun c_11 => ?_) (fun c_11 => ?_)
    · have h := Eq.trans (if_pos c_11).symm h
      exact w_Md_around_b112 C0 x2 x6 x7 t0 s_arr0 s_arr1 h _ _ _ hP hD hS (lv_sub hl [1, 2, 3, 4, 0] rfl)
    · have h := Eq.trans (if_neg c_11).symm h
      refine lv_aload_n hx hb d_Md_around_96 rfl (lv_at hl 1 rfl) ?_
      refine lv_iload_n hx hb d_Md_around_97 rfl (lv_at hl 2 rfl) ?_
      refine lv_iload hx hb d_Md_around_98 (lv_at hl 3 rfl) ?_
      refine lv_isub hx hb d_Md_around_100 ?_
      obtain ⟨b_12, h⟩ := chk_some h
      refine va_iald hx hb hK hP 1 0 rfl rfl b_12 d_Md_around_101 ?_
      refine lv_aload_n hx hb d_Md_around_102 rfl (lv_at hl 1 rfl) ?_
      refine lv_iload_n hx hb d_Md_around_103 rfl (lv_at hl 2 rfl) ?_
      refine lv_iload hx hb d_Md_around_104 (lv_at hl 3 rfl) ?_
      refine lv_iadd hx hb d_Md_around_106 ?_
      obtain ⟨b_13, h⟩ := chk_some h
      refine va_iald hx hb hK hP 1 0 rfl rfl b_13 d_Md_around_107 ?_
      refine lv_iadd hx hb d_Md_around_108 ?_
      refine lv_goto (tgt := 146) hx hb d_Md_around_109 (by decide) ?_
      exact w_Md_around_b146 C0 ((s_arr1 (x2 - x6).toNatClampNeg) + (s_arr1 (x2 + x6).toNatClampNeg)) s_arr0 s_arr1 h _ _ _ hP hD hS (lv_sub hl [] rfl)
def m_Md_around_b83 (fu : Nat) (x2 : Int32) (x6 : Int32) (x7 : Int32) (s_arr0 : Nat → Int32) (s_arr1 : Nat → Int32) : Option (Int32) :=
  m_Md_around_b84 fu x2 x6 x7 (0 : Int32) s_arr0 s_arr1
set_option maxHeartbeats 4000000 in
set_option maxRecDepth 100000 in
theorem w_Md_around_b83 {p : Program} {l : Launch} {e : Env} {s : State} {m : MethodId} {args : Array Value} {below : List Frame} {meth : Method} {c : Code} {D : va_G} {ar : Nat → ClassId} {A : Nat → Prop} {fu : Nat} {a_arr0 a_arr1 : Nat} {r_v : Int32} (C0 : CX p s m meth c args prog_12_method_8_code 9 (some .int) "FreeWaveletsModel" D ar A) (x2 : Int32) (x6 : Int32) (x7 : Int32) (s_arr0 : Nat → Int32) (s_arr1 : Nat → Int32) (h : m_Md_around_b83 fu x2 x6 x7 s_arr0 s_arr1 = some r_v) : WA p l e rm_Md_around s m args below meth c D A 9 (MQ below (QI D ar [(a_arr0, .inl (ar 0, 256, .inl s_arr0)), (a_arr1, .inl (ar 0, 256, .inl s_arr1))] r_v A) args s 0 0 A) 83 [(a_arr0, .inl (ar 0, 256, .inl s_arr0)), (a_arr1, .inl (ar 0, 256, .inl s_arr1))] [(1, .ref a_arr1), (2, .int x2), (6, .int x6), (7, .int x7)] [] := by
  intro H locs ls hP hD hS hl
  obtain ⟨hx, hb, hr, hml, hown, hts, hlocks, hA, hK, hZ⟩ := id C0
  unfold m_Md_around_b83 at h
  refine lv_iconst (v := (0 : Int32)) hx hb d_Md_around_83 (by decide) ?_
  exact w_Md_around_b84 C0 x2 x6 x7 (0 : Int32) s_arr0 s_arr1 h _ _ _ hP hD hS hl
def m_Md_around_b56 (fu : Nat) (x2 : Int32) (x3 : Int32) (x5 : Int32) (x6 : Int32) (t0 : Int32) (s_arr0 : Nat → Int32) (s_arr1 : Nat → Int32) : Option (Int32) :=
  if (16 : Int32) ≤ (x5 + x3) then (m_Md_around_b83 fu x2 x6 t0 s_arr0 s_arr1) else (chk (x2 + x6) 256 (chk x2 256 (if (s_arr0 (x2 + x6).toNatClampNeg) = (s_arr0 (x2).toNatClampNeg) then (m_Md_around_b84 fu x2 x6 t0 (1 : Int32) s_arr0 s_arr1) else (m_Md_around_b83 fu x2 x6 t0 s_arr0 s_arr1))))
set_option maxHeartbeats 4000000 in
set_option maxRecDepth 100000 in
theorem w_Md_around_b56 {p : Program} {l : Launch} {e : Env} {s : State} {m : MethodId} {args : Array Value} {below : List Frame} {meth : Method} {c : Code} {D : va_G} {ar : Nat → ClassId} {A : Nat → Prop} {fu : Nat} {a_arr0 a_arr1 : Nat} {r_v : Int32} (C0 : CX p s m meth c args prog_12_method_8_code 9 (some .int) "FreeWaveletsModel" D ar A) (x2 : Int32) (x3 : Int32) (x5 : Int32) (x6 : Int32) (t0 : Int32) (s_arr0 : Nat → Int32) (s_arr1 : Nat → Int32) (h : m_Md_around_b56 fu x2 x3 x5 x6 t0 s_arr0 s_arr1 = some r_v) : WA p l e rm_Md_around s m args below meth c D A 9 (MQ below (QI D ar [(a_arr0, .inl (ar 0, 256, .inl s_arr0)), (a_arr1, .inl (ar 0, 256, .inl s_arr1))] r_v A) args s 0 0 A) 56 [(a_arr0, .inl (ar 0, 256, .inl s_arr0)), (a_arr1, .inl (ar 0, 256, .inl s_arr1))] [(0, .ref a_arr0), (1, .ref a_arr1), (2, .int x2), (3, .int x3), (5, .int x5), (6, .int x6)] [.int t0] := by
  intro H locs ls hP hD hS hl
  obtain ⟨hx, hb, hr, hml, hown, hts, hlocks, hA, hK, hZ⟩ := id C0
  unfold m_Md_around_b56 at h
  refine lv_istore (lv' := [(7, .int t0), (0, .ref a_arr0), (1, .ref a_arr1), (2, .int x2), (3, .int x3), (5, .int x5), (6, .int x6)]) hx hb d_Md_around_56 hl (by decide) rfl (fun ls hl => ?_)
  refine lv_iload hx hb d_Md_around_58 (lv_at hl 5 rfl) ?_
  refine lv_iload_n hx hb d_Md_around_60 rfl (lv_at hl 4 rfl) ?_
  refine lv_iadd hx hb d_Md_around_61 ?_
  refine lv_bipush (v := (16 : Int32)) hx hb d_Md_around_62 (by decide) ?_
  refine lv_icmp_ge (tgt := 83) hx hb d_Md_around_64 (by decide) (fun c_5 => ?_) (fun c_5 => ?_)
  · have h := Eq.trans (if_pos c_5).symm h
    exact w_Md_around_b83 C0 x2 x6 t0 s_arr0 s_arr1 h _ _ _ hP hD hS (lv_sub hl [2, 3, 6, 0] rfl)
  · have h := Eq.trans (if_neg c_5).symm h
    refine lv_aload_n hx hb d_Md_around_67 rfl (lv_at hl 1 rfl) ?_
    refine lv_iload_n hx hb d_Md_around_68 rfl (lv_at hl 3 rfl) ?_
    refine lv_iload hx hb d_Md_around_69 (lv_at hl 6 rfl) ?_
    refine lv_iadd hx hb d_Md_around_71 ?_
    obtain ⟨b_14, h⟩ := chk_some h
    refine va_iald hx hb hK hP 0 0 rfl rfl b_14 d_Md_around_72 ?_
    refine lv_aload_n hx hb d_Md_around_73 rfl (lv_at hl 1 rfl) ?_
    refine lv_iload_n hx hb d_Md_around_74 rfl (lv_at hl 3 rfl) ?_
    obtain ⟨b_15, h⟩ := chk_some h
    refine va_iald hx hb hK hP 0 0 rfl rfl b_15 d_Md_around_75 ?_
    refine lv_icmp_ne (tgt := 83) hx hb d_Md_around_76 (by decide) (fun c_16 => ?_) (fun c_16 => ?_)
    · have h := Eq.trans (if_neg c_16).symm h
      exact w_Md_around_b83 C0 x2 x6 t0 s_arr0 s_arr1 h _ _ _ hP hD hS (lv_sub hl [2, 3, 6, 0] rfl)
    · have h := Eq.trans (if_pos c_16).symm h
      refine lv_iconst (v := (1 : Int32)) hx hb d_Md_around_79 (by decide) ?_
      refine lv_goto (tgt := 84) hx hb d_Md_around_80 (by decide) ?_
      exact w_Md_around_b84 C0 x2 x6 t0 (1 : Int32) s_arr0 s_arr1 h _ _ _ hP hD hS (lv_sub hl [2, 3, 6, 0] rfl)
def m_Md_around_b55 (fu : Nat) (x2 : Int32) (x3 : Int32) (x5 : Int32) (x6 : Int32) (s_arr0 : Nat → Int32) (s_arr1 : Nat → Int32) : Option (Int32) :=
  m_Md_around_b56 fu x2 x3 x5 x6 (0 : Int32) s_arr0 s_arr1
set_option maxHeartbeats 4000000 in
set_option maxRecDepth 100000 in
theorem w_Md_around_b55 {p : Program} {l : Launch} {e : Env} {s : State} {m : MethodId} {args : Array Value} {below : List Frame} {meth : Method} {c : Code} {D : va_G} {ar : Nat → ClassId} {A : Nat → Prop} {fu : Nat} {a_arr0 a_arr1 : Nat} {r_v : Int32} (C0 : CX p s m meth c args prog_12_method_8_code 9 (some .int) "FreeWaveletsModel" D ar A) (x2 : Int32) (x3 : Int32) (x5 : Int32) (x6 : Int32) (s_arr0 : Nat → Int32) (s_arr1 : Nat → Int32) (h : m_Md_around_b55 fu x2 x3 x5 x6 s_arr0 s_arr1 = some r_v) : WA p l e rm_Md_around s m args below meth c D A 9 (MQ below (QI D ar [(a_arr0, .inl (ar 0, 256, .inl s_arr0)), (a_arr1, .inl (ar 0, 256, .inl s_arr1))] r_v A) args s 0 0 A) 55 [(a_arr0, .inl (ar 0, 256, .inl s_arr0)), (a_arr1, .inl (ar 0, 256, .inl s_arr1))] [(0, .ref a_arr0), (1, .ref a_arr1), (2, .int x2), (3, .int x3), (5, .int x5), (6, .int x6)] [] := by
  intro H locs ls hP hD hS hl
  obtain ⟨hx, hb, hr, hml, hown, hts, hlocks, hA, hK, hZ⟩ := id C0
  unfold m_Md_around_b55 at h
  refine lv_iconst (v := (0 : Int32)) hx hb d_Md_around_55 (by decide) ?_
  exact w_Md_around_b56 C0 x2 x3 x5 x6 (0 : Int32) s_arr0 s_arr1 h _ _ _ hP hD hS hl
def m_Md_around_b31 (fu : Nat) (x2 : Int32) (x3 : Int32) (x5 : Int32) (t0 : Int32) (s_arr0 : Nat → Int32) (s_arr1 : Nat → Int32) : Option (Int32) :=
  if x5 < x3 then (m_Md_around_b55 fu x2 x3 x5 t0 s_arr0 s_arr1) else (chk (x2 - t0) 256 (chk x2 256 (if (s_arr0 (x2 - t0).toNatClampNeg) = (s_arr0 (x2).toNatClampNeg) then (m_Md_around_b56 fu x2 x3 x5 t0 (1 : Int32) s_arr0 s_arr1) else (m_Md_around_b55 fu x2 x3 x5 t0 s_arr0 s_arr1))))
set_option maxHeartbeats 4000000 in
set_option maxRecDepth 100000 in
theorem w_Md_around_b31 {p : Program} {l : Launch} {e : Env} {s : State} {m : MethodId} {args : Array Value} {below : List Frame} {meth : Method} {c : Code} {D : va_G} {ar : Nat → ClassId} {A : Nat → Prop} {fu : Nat} {a_arr0 a_arr1 : Nat} {r_v : Int32} (C0 : CX p s m meth c args prog_12_method_8_code 9 (some .int) "FreeWaveletsModel" D ar A) (x2 : Int32) (x3 : Int32) (x5 : Int32) (t0 : Int32) (s_arr0 : Nat → Int32) (s_arr1 : Nat → Int32) (h : m_Md_around_b31 fu x2 x3 x5 t0 s_arr0 s_arr1 = some r_v) : WA p l e rm_Md_around s m args below meth c D A 9 (MQ below (QI D ar [(a_arr0, .inl (ar 0, 256, .inl s_arr0)), (a_arr1, .inl (ar 0, 256, .inl s_arr1))] r_v A) args s 0 0 A) 31 [(a_arr0, .inl (ar 0, 256, .inl s_arr0)), (a_arr1, .inl (ar 0, 256, .inl s_arr1))] [(0, .ref a_arr0), (1, .ref a_arr1), (2, .int x2), (3, .int x3), (5, .int x5)] [.int t0] := by
  intro H locs ls hP hD hS hl
  obtain ⟨hx, hb, hr, hml, hown, hts, hlocks, hA, hK, hZ⟩ := id C0
  unfold m_Md_around_b31 at h
  refine lv_istore (lv' := [(6, .int t0), (0, .ref a_arr0), (1, .ref a_arr1), (2, .int x2), (3, .int x3), (5, .int x5)]) hx hb d_Md_around_31 hl (by decide) rfl (fun ls hl => ?_)
  refine lv_iload hx hb d_Md_around_33 (lv_at hl 5 rfl) ?_
  refine lv_iload_n hx hb d_Md_around_35 rfl (lv_at hl 4 rfl) ?_
  refine lv_icmp_lt (tgt := 55) hx hb d_Md_around_36 (by decide) (fun c_4 => ?_) (fun c_4 => ?_)
  · have h := Eq.trans (if_pos c_4).symm h
    exact w_Md_around_b55 C0 x2 x3 x5 t0 s_arr0 s_arr1 h _ _ _ hP hD hS (lv_sub hl [1, 2, 3, 4, 5, 0] rfl)
  · have h := Eq.trans (if_neg c_4).symm h
    refine lv_aload_n hx hb d_Md_around_39 rfl (lv_at hl 1 rfl) ?_
    refine lv_iload_n hx hb d_Md_around_40 rfl (lv_at hl 3 rfl) ?_
    refine lv_iload hx hb d_Md_around_41 (lv_at hl 0 rfl) ?_
    refine lv_isub hx hb d_Md_around_43 ?_
    obtain ⟨b_17, h⟩ := chk_some h
    refine va_iald hx hb hK hP 0 0 rfl rfl b_17 d_Md_around_44 ?_
    refine lv_aload_n hx hb d_Md_around_45 rfl (lv_at hl 1 rfl) ?_
    refine lv_iload_n hx hb d_Md_around_46 rfl (lv_at hl 3 rfl) ?_
    obtain ⟨b_18, h⟩ := chk_some h
    refine va_iald hx hb hK hP 0 0 rfl rfl b_18 d_Md_around_47 ?_
    refine lv_icmp_ne (tgt := 55) hx hb d_Md_around_48 (by decide) (fun c_19 => ?_) (fun c_19 => ?_)
    · have h := Eq.trans (if_neg c_19).symm h
      exact w_Md_around_b55 C0 x2 x3 x5 t0 s_arr0 s_arr1 h _ _ _ hP hD hS (lv_sub hl [1, 2, 3, 4, 5, 0] rfl)
    · have h := Eq.trans (if_pos c_19).symm h
      refine lv_iconst (v := (1 : Int32)) hx hb d_Md_around_51 (by decide) ?_
      refine lv_goto (tgt := 56) hx hb d_Md_around_52 (by decide) ?_
      exact w_Md_around_b56 C0 x2 x3 x5 t0 (1 : Int32) s_arr0 s_arr1 h _ _ _ hP hD hS (lv_sub hl [1, 2, 3, 4, 5, 0] rfl)
def m_Md_around_b16 (fu : Nat) (x2 : Int32) (x3 : Int32) (x4 : Int32) (t0 : Int32) (s_arr0 : Nat → Int32) (s_arr1 : Nat → Int32) : Option (Int32) :=
  if x4 = (0 : Int32) then (m_Md_around_b31 fu x2 x3 t0 ((16 : Int32) * x3) s_arr0 s_arr1) else (m_Md_around_b31 fu x2 x3 t0 x3 s_arr0 s_arr1)
set_option maxHeartbeats 4000000 in
set_option maxRecDepth 100000 in
theorem w_Md_around_b16 {p : Program} {l : Launch} {e : Env} {s : State} {m : MethodId} {args : Array Value} {below : List Frame} {meth : Method} {c : Code} {D : va_G} {ar : Nat → ClassId} {A : Nat → Prop} {fu : Nat} {a_arr0 a_arr1 : Nat} {r_v : Int32} (C0 : CX p s m meth c args prog_12_method_8_code 9 (some .int) "FreeWaveletsModel" D ar A) (x2 : Int32) (x3 : Int32) (x4 : Int32) (t0 : Int32) (s_arr0 : Nat → Int32) (s_arr1 : Nat → Int32) (h : m_Md_around_b16 fu x2 x3 x4 t0 s_arr0 s_arr1 = some r_v) : WA p l e rm_Md_around s m args below meth c D A 9 (MQ below (QI D ar [(a_arr0, .inl (ar 0, 256, .inl s_arr0)), (a_arr1, .inl (ar 0, 256, .inl s_arr1))] r_v A) args s 0 0 A) 16 [(a_arr0, .inl (ar 0, 256, .inl s_arr0)), (a_arr1, .inl (ar 0, 256, .inl s_arr1))] [(0, .ref a_arr0), (1, .ref a_arr1), (2, .int x2), (3, .int x3), (4, .int x4)] [.int t0] := by
  intro H locs ls hP hD hS hl
  obtain ⟨hx, hb, hr, hml, hown, hts, hlocks, hA, hK, hZ⟩ := id C0
  unfold m_Md_around_b16 at h
  refine lv_istore (lv' := [(5, .int t0), (0, .ref a_arr0), (1, .ref a_arr1), (2, .int x2), (3, .int x3), (4, .int x4)]) hx hb d_Md_around_16 hl (by decide) rfl (fun ls hl => ?_)
  refine lv_iload hx hb d_Md_around_18 (lv_at hl 5 rfl) ?_
  refine lv_if_eq (tgt := 27) hx hb d_Md_around_20 (by decide) (fun c_3 => ?_) (fun c_3 => ?_)
  · have h := Eq.trans (if_pos c_3).symm h
    refine lv_bipush (v := (16 : Int32)) hx hb d_Md_around_27 (by decide) ?_
    refine lv_iload_n hx hb d_Md_around_29 rfl (lv_at hl 4 rfl) ?_
    refine lv_imul hx hb d_Md_around_30 ?_
    exact w_Md_around_b31 C0 x2 x3 t0 ((16 : Int32) * x3) s_arr0 s_arr1 h _ _ _ hP hD hS (lv_sub hl [1, 2, 3, 4, 0] rfl)
  · have h := Eq.trans (if_neg c_3).symm h
    refine lv_iload_n hx hb d_Md_around_23 rfl (lv_at hl 4 rfl) ?_
    refine lv_goto (tgt := 31) hx hb d_Md_around_24 (by decide) ?_
    exact w_Md_around_b31 C0 x2 x3 t0 x3 s_arr0 s_arr1 h _ _ _ hP hD hS (lv_sub hl [1, 2, 3, 4, 0] rfl)
def m_Md_around (fu : Nat) (x2 : Int32) (x3 : Int32) (x4 : Int32) (s_arr0 : Nat → Int32) (s_arr1 : Nat → Int32) : Option (Int32) :=
  if x4 = (0 : Int32) then (nz (16 : Int32) (m_Md_around_b16 fu x2 x3 x4 (x2 / (16 : Int32)) s_arr0 s_arr1)) else (nz (16 : Int32) (m_Md_around_b16 fu x2 x3 x4 (x2 - x2 / (16 : Int32) * (16 : Int32)) s_arr0 s_arr1))
set_option maxHeartbeats 4000000 in
set_option maxRecDepth 100000 in
theorem c_Md_around {l : Launch} {D : va_G} {ar : Nat → ClassId} {fu : Nat} (a_arr0 a_arr1 : Nat) (x2 : Int32) (x3 : Int32) (x4 : Int32) (s_arr0 : Nat → Int32) (s_arr1 : Nat → Int32) {r_v : Int32} (h : m_Md_around fu x2 x3 x4 s_arr0 s_arr1 = some r_v) : StdI l y_Md_around ws_Md_around rm_Md_around D ar [.ref a_arr0, .ref a_arr1, .int x2, .int x3, .int x4] [(a_arr0, .inl (ar 0, 256, .inl s_arr0)), (a_arr1, .inl (ar 0, 256, .inl s_arr1))] [(a_arr0, .inl (ar 0, 256, .inl s_arr0)), (a_arr1, .inl (ar 0, 256, .inl s_arr1))] r_v := by
  refine sd_metI (cc := prog_12_method_8_code) (maxL := 9) (ret := (some .int)) (own := "FreeWaveletsModel") (by decide) rfl rfl (Nat.le_of_ble_eq_true rfl) ?_
  intro p e s m below meth c A ls C0 hP hD hl
  obtain ⟨hx, hb, hr, hml, hown, hts, hlocks, hA, hK, hZ⟩ := id C0
  have hS : va_S A s.heap s.heap [] := va_S.rf
  have hl : lv_has ls 9 [(0, .ref a_arr0), (1, .ref a_arr1), (2, .int x2), (3, .int x3), (4, .int x4)] := hl
  unfold m_Md_around at h
  refine lv_iload hx hb d_Md_around_0 (lv_at hl 4 rfl) ?_
  refine lv_if_eq (tgt := 12) hx hb d_Md_around_2 (by decide) (fun c_1 => ?_) (fun c_1 => ?_)
  · have h := Eq.trans (if_pos c_1).symm h
    refine lv_iload_n hx hb d_Md_around_12 rfl (lv_at hl 2 rfl) ?_
    refine lv_bipush (v := (16 : Int32)) hx hb d_Md_around_13 (by decide) ?_
    obtain ⟨z_2, h⟩ := nz_some h
    refine lv_idiv hx hb d_Md_around_15 z_2 ?_
    exact w_Md_around_b16 C0 x2 x3 x4 (x2 / (16 : Int32)) s_arr0 s_arr1 h _ _ _ hP hD hS hl
  · have h := Eq.trans (if_neg c_1).symm h
    refine lv_iload_n hx hb d_Md_around_5 rfl (lv_at hl 2 rfl) ?_
    refine lv_bipush (v := (16 : Int32)) hx hb d_Md_around_6 (by decide) ?_
    obtain ⟨z_20, h⟩ := nz_some h
    refine lv_irem hx hb d_Md_around_8 z_20 ?_
    refine lv_goto (tgt := 16) hx hb d_Md_around_9 (by decide) ?_
    exact w_Md_around_b16 C0 x2 x3 x4 (x2 - x2 / (16 : Int32) * (16 : Int32)) s_arr0 s_arr1 h _ _ _ hP hD hS hl
abbrev rm_Md_lift : Room := { frames := 1, cells := 0, slots := 0, locals := 28 }
def m_Md_lift_b142 (fu : Nat) (rec : Int32 → (Nat → Int32) → Option (((Nat → Int32)))) (x2 : Int32) (x3 : Int32) (x4 : Int32) (x5 : Int32) (x6 : Int32) (s_arr0 : Nat → Int32) (s_arr1 : Nat → Int32) : Option (((Nat → Int32))) :=
  letB (x6 + (1 : Int32)) (fun x6_11 => rec x6_11 s_arr1)
set_option maxHeartbeats 4000000 in
set_option maxRecDepth 100000 in
theorem w_Md_lift_b142 {p : Program} {l : Launch} {e : Env} {s : State} {m : MethodId} {args : Array Value} {below : List Frame} {meth : Method} {c : Code} {D : va_G} {ar : Nat → ClassId} {A : Nat → Prop} {Q : State → Prop} {fu : Nat} {a_arr0 a_arr1 : Nat} {o_arr1 : Nat → Int32} (C0 : CX p s m meth c args prog_12_method_9_code 12 none "FreeWaveletsModel" D ar A) (x2 : Int32) (x3 : Int32) (x4 : Int32) (x5 : Int32) (x6 : Int32) (s_arr0 : Nat → Int32) (s_arr1 : Nat → Int32) (rec : Int32 → (Nat → Int32) → Option (((Nat → Int32)))) (hrec : ∀ (x6 : Int32) (s_arr1 : Nat → Int32), rec x6 s_arr1 = some o_arr1 → WA p l e rm_Md_lift s m args below meth c D A 12 Q 3 [(a_arr0, .inl (ar 0, 256, .inl s_arr0)), (a_arr1, .inl (ar 0, 256, .inl s_arr1))] [(0, .ref a_arr0), (1, .ref a_arr1), (2, .int x2), (3, .int x3), (4, .int x4), (5, .int x5), (6, .int x6)] []) (K1 : WA p l e rm_Md_lift s m args below meth c D A 12 Q 148 [(a_arr0, .inl (ar 0, 256, .inl s_arr0)), (a_arr1, .inl (ar 0, 256, .inl o_arr1))] [] []) (h : m_Md_lift_b142 fu rec x2 x3 x4 x5 x6 s_arr0 s_arr1 = some o_arr1) : WA p l e rm_Md_lift s m args below meth c D A 12 Q 142 [(a_arr0, .inl (ar 0, 256, .inl s_arr0)), (a_arr1, .inl (ar 0, 256, .inl s_arr1))] [(0, .ref a_arr0), (1, .ref a_arr1), (2, .int x2), (3, .int x3), (4, .int x4), (5, .int x5), (6, .int x6)] [] := by
  intro H locs ls hP hD hS hl
  obtain ⟨hx, hb, hr, hml, hown, hts, hlocks, hA, hK, hZ⟩ := id C0
  unfold m_Md_lift_b142 at h
  obtain ⟨x6_11, e_x6_11⟩ : ∃ y : Int32, y = x6 + (1 : Int32) := ⟨_, rfl⟩
  have h := letB_at e_x6_11 h
  refine lv_iinc (v := x6_11) (lv' := [(6, .int x6_11), (0, .ref a_arr0), (1, .ref a_arr1), (2, .int x2), (3, .int x3), (4, .int x4), (5, .int x5)]) hx hb d_Md_lift_142 hl (k := 6) rfl (by rw [e_x6_11]; rfl) (by decide) rfl (fun ls hl => ?_)
  refine lv_goto (tgt := 3) hx hb d_Md_lift_145 (by decide) ?_
  exact hrec x6_11 s_arr1 h _ _ _ hP hD hS (lv_sub hl [1, 2, 3, 4, 5, 6, 0] rfl)
def m_Md_lift_b140 (fu : Nat) (rec : Int32 → (Nat → Int32) → Option (((Nat → Int32)))) (x2 : Int32) (x3 : Int32) (x4 : Int32) (x5 : Int32) (x6 : Int32) (t0 : Int32) (t1 : Int32) (t2 : Int32) (s_arr0 : Nat → Int32) (s_arr1 : Nat → Int32) : Option (((Nat → Int32))) :=
  letB (t1 + t0) (fun y_24 => chk t2 256 (m_Md_lift_b142 fu rec x2 x3 x4 x5 x6 s_arr0 (upd s_arr1 (t2).toNatClampNeg y_24)))
set_option maxHeartbeats 4000000 in
set_option maxRecDepth 100000 in
theorem w_Md_lift_b140 {p : Program} {l : Launch} {e : Env} {s : State} {m : MethodId} {args : Array Value} {below : List Frame} {meth : Method} {c : Code} {D : va_G} {ar : Nat → ClassId} {A : Nat → Prop} {Q : State → Prop} {fu : Nat} {a_arr0 a_arr1 : Nat} {o_arr1 : Nat → Int32} (C0 : CX p s m meth c args prog_12_method_9_code 12 none "FreeWaveletsModel" D ar A) (x2 : Int32) (x3 : Int32) (x4 : Int32) (x5 : Int32) (x6 : Int32) (t0 : Int32) (t1 : Int32) (t2 : Int32) (s_arr0 : Nat → Int32) (s_arr1 : Nat → Int32) (rec : Int32 → (Nat → Int32) → Option (((Nat → Int32)))) (hrec : ∀ (x6 : Int32) (s_arr1 : Nat → Int32), rec x6 s_arr1 = some o_arr1 → WA p l e rm_Md_lift s m args below meth c D A 12 Q 3 [(a_arr0, .inl (ar 0, 256, .inl s_arr0)), (a_arr1, .inl (ar 0, 256, .inl s_arr1))] [(0, .ref a_arr0), (1, .ref a_arr1), (2, .int x2), (3, .int x3), (4, .int x4), (5, .int x5), (6, .int x6)] []) (K1 : WA p l e rm_Md_lift s m args below meth c D A 12 Q 148 [(a_arr0, .inl (ar 0, 256, .inl s_arr0)), (a_arr1, .inl (ar 0, 256, .inl o_arr1))] [] []) (h : m_Md_lift_b140 fu rec x2 x3 x4 x5 x6 t0 t1 t2 s_arr0 s_arr1 = some o_arr1) : WA p l e rm_Md_lift s m args below meth c D A 12 Q 140 [(a_arr0, .inl (ar 0, 256, .inl s_arr0)), (a_arr1, .inl (ar 0, 256, .inl s_arr1))] [(0, .ref a_arr0), (1, .ref a_arr1), (2, .int x2), (3, .int x3), (4, .int x4), (5, .int x5), (6, .int x6)] [.int t0, .int t1, .int t2, .ref a_arr1] := by
  intro H locs ls hP hD hS hl
  obtain ⟨hx, hb, hr, hml, hown, hts, hlocks, hA, hK, hZ⟩ := id C0
  unfold m_Md_lift_b140 at h
  refine lv_iadd hx hb d_Md_lift_140 ?_
  refine lv_topi (fun y_24 e_y_24 => ?_)
  have h := letB_at e_y_24 h
  obtain ⟨b_25, h⟩ := chk_some h
  refine va_iast hx hb hK hP hD hS 1 0 rfl rfl b_25 d_Md_lift_141 (fun H locs hP hD hS => ?_)
  have hP : va_P D vwCl [(a_arr0, .inl (ar 0, 256, .inl s_arr0)), (a_arr1, .inl (ar 0, 256, .inl (upd s_arr1 (t2).toNatClampNeg y_24)))] H := hP
  have hD : va_D A [(a_arr0, .inl (ar 0, 256, .inl s_arr0)), (a_arr1, .inl (ar 0, 256, .inl (upd s_arr1 (t2).toNatClampNeg y_24)))] := hD
  exact w_Md_lift_b142 C0 x2 x3 x4 x5 x6 s_arr0 (upd s_arr1 (t2).toNatClampNeg y_24) _ hrec K1 h _ _ _ hP hD hS hl
def m_Md_lift_b120 (fu : Nat) (rec : Int32 → (Nat → Int32) → Option (((Nat → Int32)))) (x2 : Int32) (x3 : Int32) (x4 : Int32) (x5 : Int32) (x6 : Int32) (t0 : Int32) (s_arr0 : Nat → Int32) (s_arr1 : Nat → Int32) : Option (((Nat → Int32))) :=
  chk x6 256 (if x5 = (0 : Int32) then (m_Md_lift_b140 fu rec x2 x3 x4 x5 x6 t0 (s_arr1 (x6).toNatClampNeg) x6 s_arr0 s_arr1) else (m_Md_lift_b140 fu rec x2 x3 x4 x5 x6 (-t0) (s_arr1 (x6).toNatClampNeg) x6 s_arr0 s_arr1))
set_option maxHeartbeats 4000000 in
set_option maxRecDepth 100000 in
theorem w_Md_lift_b120 {p : Program} {l : Launch} {e : Env} {s : State} {m : MethodId} {args : Array Value} {below : List Frame} {meth : Method} {c : Code} {D : va_G} {ar : Nat → ClassId} {A : Nat → Prop} {Q : State → Prop} {fu : Nat} {a_arr0 a_arr1 : Nat} {o_arr1 : Nat → Int32} (C0 : CX p s m meth c args prog_12_method_9_code 12 none "FreeWaveletsModel" D ar A) (x2 : Int32) (x3 : Int32) (x4 : Int32) (x5 : Int32) (x6 : Int32) (t0 : Int32) (s_arr0 : Nat → Int32) (s_arr1 : Nat → Int32) (rec : Int32 → (Nat → Int32) → Option (((Nat → Int32)))) (hrec : ∀ (x6 : Int32) (s_arr1 : Nat → Int32), rec x6 s_arr1 = some o_arr1 → WA p l e rm_Md_lift s m args below meth c D A 12 Q 3 [(a_arr0, .inl (ar 0, 256, .inl s_arr0)), (a_arr1, .inl (ar 0, 256, .inl s_arr1))] [(0, .ref a_arr0), (1, .ref a_arr1), (2, .int x2), (3, .int x3), (4, .int x4), (5, .int x5), (6, .int x6)] []) (K1 : WA p l e rm_Md_lift s m args below meth c D A 12 Q 148 [(a_arr0, .inl (ar 0, 256, .inl s_arr0)), (a_arr1, .inl (ar 0, 256, .inl o_arr1))] [] []) (h : m_Md_lift_b120 fu rec x2 x3 x4 x5 x6 t0 s_arr0 s_arr1 = some o_arr1) : WA p l e rm_Md_lift s m args below meth c D A 12 Q 120 [(a_arr0, .inl (ar 0, 256, .inl s_arr0)), (a_arr1, .inl (ar 0, 256, .inl s_arr1))] [(0, .ref a_arr0), (1, .ref a_arr1), (2, .int x2), (3, .int x3), (4, .int x4), (5, .int x5), (6, .int x6)] [.int t0] := by
  intro H locs ls hP hD hS hl
  obtain ⟨hx, hb, hr, hml, hown, hts, hlocks, hA, hK, hZ⟩ := id C0
  unfold m_Md_lift_b120 at h
  refine lv_istore (lv' := [(11, .int t0), (0, .ref a_arr0), (1, .ref a_arr1), (2, .int x2), (3, .int x3), (4, .int x4), (5, .int x5), (6, .int x6)]) hx hb d_Md_lift_120 hl (by decide) rfl (fun ls hl => ?_)
  refine lv_aload_n hx hb d_Md_lift_122 rfl (lv_at hl 2 rfl) ?_
  refine lv_iload hx hb d_Md_lift_123 (lv_at hl 7 rfl) ?_
  refine lv_dup2_11 hx hb d_Md_lift_125 rfl rfl ?_
  obtain ⟨b_22, h⟩ := chk_some h
  refine va_iald hx hb hK hP 1 0 rfl rfl b_22 d_Md_lift_126 ?_
  refine lv_iload hx hb d_Md_lift_127 (lv_at hl 6 rfl) ?_
  refine lv_if_eq (tgt := 138) hx hb d_Md_lift_129 (by decide) (fun c_23 => ?_) (fun c_23 => ?_)
  · have h := Eq.trans (if_pos c_23).symm h
    refine lv_iload hx hb d_Md_lift_138 (lv_at hl 0 rfl) ?_
    exact w_Md_lift_b140 C0 x2 x3 x4 x5 x6 t0 (s_arr1 (x6).toNatClampNeg) x6 s_arr0 s_arr1 _ hrec K1 h _ _ _ hP hD hS (lv_sub hl [1, 2, 3, 4, 5, 6, 7] rfl)
  · have h := Eq.trans (if_neg c_23).symm h
    refine lv_iload hx hb d_Md_lift_132 (lv_at hl 0 rfl) ?_
    refine lv_ineg hx hb d_Md_lift_134 ?_
    refine lv_goto (tgt := 140) hx hb d_Md_lift_135 (by decide) ?_
    exact w_Md_lift_b140 C0 x2 x3 x4 x5 x6 (-t0) (s_arr1 (x6).toNatClampNeg) x6 s_arr0 s_arr1 _ hrec K1 h _ _ _ hP hD hS (lv_sub hl [1, 2, 3, 4, 5, 6, 7] rfl)
def m_Md_lift_b75 (fu : Nat) (rec : Int32 → (Nat → Int32) → Option (((Nat → Int32)))) (x2 : Int32) (x3 : Int32) (x4 : Int32) (x5 : Int32) (x6 : Int32) (t0 : Int32) (s_arr0 : Nat → Int32) (s_arr1 : Nat → Int32) : Option (((Nat → Int32))) :=
  if t0 = x4 then (bn1 (m_Md_around fu x6 x2 x3 s_arr0 s_arr1) (fun r_19 => if r_19 = (-2147483648 : Int32) then (m_Md_lift_b142 fu rec x2 x3 x4 x5 x6 s_arr0 s_arr1) else (if x4 = (0 : Int32) then (m_Md_lift_b120 fu rec x2 x3 x4 x5 x6 ((r_19 + (2 : Int32)) >>> ((2 : Int32) &&& 31)) s_arr0 s_arr1) else (m_Md_lift_b120 fu rec x2 x3 x4 x5 x6 (-(r_19 >>> ((1 : Int32) &&& 31))) s_arr0 s_arr1)))) else (m_Md_lift_b142 fu rec x2 x3 x4 x5 x6 s_arr0 s_arr1)
set_option maxHeartbeats 4000000 in
set_option maxRecDepth 100000 in
theorem w_Md_lift_b75 {p : Program} {l : Launch} {e : Env} {s : State} {m : MethodId} {args : Array Value} {below : List Frame} {meth : Method} {c : Code} {D : va_G} {ar : Nat → ClassId} {A : Nat → Prop} {Q : State → Prop} {fu : Nat} {a_arr0 a_arr1 : Nat} {o_arr1 : Nat → Int32} (C0 : CX p s m meth c args prog_12_method_9_code 12 none "FreeWaveletsModel" D ar A) (x2 : Int32) (x3 : Int32) (x4 : Int32) (x5 : Int32) (x6 : Int32) (t0 : Int32) (s_arr0 : Nat → Int32) (s_arr1 : Nat → Int32) (rec : Int32 → (Nat → Int32) → Option (((Nat → Int32)))) (hrec : ∀ (x6 : Int32) (s_arr1 : Nat → Int32), rec x6 s_arr1 = some o_arr1 → WA p l e rm_Md_lift s m args below meth c D A 12 Q 3 [(a_arr0, .inl (ar 0, 256, .inl s_arr0)), (a_arr1, .inl (ar 0, 256, .inl s_arr1))] [(0, .ref a_arr0), (1, .ref a_arr1), (2, .int x2), (3, .int x3), (4, .int x4), (5, .int x5), (6, .int x6)] []) (K1 : WA p l e rm_Md_lift s m args below meth c D A 12 Q 148 [(a_arr0, .inl (ar 0, 256, .inl s_arr0)), (a_arr1, .inl (ar 0, 256, .inl o_arr1))] [] []) (h : m_Md_lift_b75 fu rec x2 x3 x4 x5 x6 t0 s_arr0 s_arr1 = some o_arr1) : WA p l e rm_Md_lift s m args below meth c D A 12 Q 75 [(a_arr0, .inl (ar 0, 256, .inl s_arr0)), (a_arr1, .inl (ar 0, 256, .inl s_arr1))] [(0, .ref a_arr0), (1, .ref a_arr1), (2, .int x2), (3, .int x3), (4, .int x4), (5, .int x5), (6, .int x6)] [.int t0] := by
  intro H locs ls hP hD hS hl
  obtain ⟨hx, hb, hr, hml, hown, hts, hlocks, hA, hK, hZ⟩ := id C0
  unfold m_Md_lift_b75 at h
  refine lv_iload hx hb d_Md_lift_75 (lv_at hl 4 rfl) ?_
  refine lv_icmp_eq (tgt := 83) hx hb d_Md_lift_77 (by decide) (fun c_18 => ?_) (fun c_18 => ?_)
  · have h := Eq.trans (if_pos c_18).symm h
    refine lv_aload_n hx hb d_Md_lift_83 rfl (lv_at hl 0 rfl) ?_
    refine lv_aload_n hx hb d_Md_lift_84 rfl (lv_at hl 1 rfl) ?_
    refine lv_iload hx hb d_Md_lift_85 (lv_at hl 6 rfl) ?_
    refine lv_iload_n hx hb d_Md_lift_87 rfl (lv_at hl 2 rfl) ?_
    refine lv_iload_n hx hb d_Md_lift_88 rfl (lv_at hl 3 rfl) ?_
    obtain ⟨r_19, hcall, h⟩ := bn1_some h
    refine sd_i (wr := []) (va_runS (As := [.ref a_arr0, .ref a_arr1, .int x6, .int x2, .int x3]) (rest := []) ⟨hx, hb, hml, hown, hts⟩ (c_Md_around a_arr0 a_arr1 x6 x2 x3 s_arr0 s_arr1 hcall _) (cw_S 5 hts k_883 k_884 k_40 k_885 rfl rfl (by decide +kernel) ⟨Nat.le_of_ble_eq_true rfl, Nat.le_of_ble_eq_true rfl⟩) (sd_preS hK hP hD hS hA hZ [0, 1] (by decide) rfl) rfl rfl hl.1 rfl (lv_room (Nat.le_of_ble_eq_true rfl)) d_Md_lift_89 ⟨Nat.le_of_ble_eq_true rfl, Nat.le_of_ble_eq_true rfl⟩) hP hD hS hA [0, 1] [] rfl rfl (by decide) (by decide) (fun H locs hP hD hS => ?_)
    have hP : va_P D vwCl [(a_arr0, .inl (ar 0, 256, .inl s_arr0)), (a_arr1, .inl (ar 0, 256, .inl s_arr1))] H := hP
    have hD : va_D A [(a_arr0, .inl (ar 0, 256, .inl s_arr0)), (a_arr1, .inl (ar 0, 256, .inl s_arr1))] := hD
    refine lv_istore (lv' := [(10, .int r_19), (0, .ref a_arr0), (1, .ref a_arr1), (2, .int x2), (3, .int x3), (4, .int x4), (5, .int x5), (6, .int x6)]) hx hb d_Md_lift_92 hl (by decide) rfl (fun ls hl => ?_)
    refine lv_iload hx hb d_Md_lift_94 (lv_at hl 0 rfl) ?_
    refine lv_ldc (v := (-2147483648 : Int32)) hx hb hown (hts _ k_886) d_Md_lift_96 ?_
    refine lv_icmp_eq (tgt := 142) hx hb d_Md_lift_98 (by decide) (fun c_20 => ?_) (fun c_20 => ?_)
    · have h := Eq.trans (if_pos c_20).symm h
      exact w_Md_lift_b142 C0 x2 x3 x4 x5 x6 s_arr0 s_arr1 _ hrec K1 h _ _ _ hP hD hS (lv_sub hl [1, 2, 3, 4, 5, 6, 7] rfl)
    · have h := Eq.trans (if_neg c_20).symm h
      refine lv_iload hx hb d_Md_lift_101 (lv_at hl 5 rfl) ?_
      refine lv_if_eq (tgt := 114) hx hb d_Md_lift_103 (by decide) (fun c_21 => ?_) (fun c_21 => ?_)
      · have h := Eq.trans (if_pos c_21).symm h
        refine lv_iload hx hb d_Md_lift_114 (lv_at hl 0 rfl) ?_
        refine lv_iconst (v := (2 : Int32)) hx hb d_Md_lift_116 (by decide) ?_
        refine lv_iadd hx hb d_Md_lift_117 ?_
        refine lv_iconst (v := (2 : Int32)) hx hb d_Md_lift_118 (by decide) ?_
        refine lv_ishr hx hb d_Md_lift_119 ?_
        exact w_Md_lift_b120 C0 x2 x3 x4 x5 x6 ((r_19 + (2 : Int32)) >>> ((2 : Int32) &&& 31)) s_arr0 s_arr1 _ hrec K1 h _ _ _ hP hD hS (lv_sub hl [1, 2, 3, 4, 5, 6, 7] rfl)
      · have h := Eq.trans (if_neg c_21).symm h
        refine lv_iload hx hb d_Md_lift_106 (lv_at hl 0 rfl) ?_
        refine lv_iconst (v := (1 : Int32)) hx hb d_Md_lift_108 (by decide) ?_
        refine lv_ishr hx hb d_Md_lift_109 ?_
        refine lv_ineg hx hb d_Md_lift_110 ?_
        refine lv_goto (tgt := 120) hx hb d_Md_lift_111 (by decide) ?_
        exact w_Md_lift_b120 C0 x2 x3 x4 x5 x6 (-(r_19 >>> ((1 : Int32) &&& 31))) s_arr0 s_arr1 _ hrec K1 h _ _ _ hP hD hS (lv_sub hl [1, 2, 3, 4, 5, 6, 7] rfl)
  · have h := Eq.trans (if_neg c_18).symm h
    refine lv_goto (tgt := 142) hx hb d_Md_lift_80 (by decide) ?_
    exact w_Md_lift_b142 C0 x2 x3 x4 x5 x6 s_arr0 s_arr1 _ hrec K1 h _ _ _ hP hD hS hl
def m_Md_lift_b36 (fu : Nat) (rec : Int32 → (Nat → Int32) → Option (((Nat → Int32)))) (x2 : Int32) (x3 : Int32) (x4 : Int32) (x5 : Int32) (x6 : Int32) (x7 : Int32) (x8 : Int32) (t0 : Int32) (s_arr0 : Nat → Int32) (s_arr1 : Nat → Int32) : Option (((Nat → Int32))) :=
  nz x2 (letB (t0 / x2) (fun x9_8 => chk x6 256 (if (s_arr0 (x6).toNatClampNeg) = (-1 : Int32) then (m_Md_lift_b142 fu rec x2 x3 x4 x5 x6 s_arr0 s_arr1) else (nz x2 (if (x7 - x7 / x2 * x2) = (0 : Int32) then (nz x2 (if (x8 - x8 / x2 * x2) = (0 : Int32) then (nz (2 : Int32) (if (x9_8 - x9_8 / (2 : Int32) * (2 : Int32)) = (1 : Int32) then (m_Md_lift_b75 fu rec x2 x3 x4 x5 x6 (1 : Int32) s_arr0 s_arr1) else (m_Md_lift_b75 fu rec x2 x3 x4 x5 x6 (0 : Int32) s_arr0 s_arr1))) else (m_Md_lift_b142 fu rec x2 x3 x4 x5 x6 s_arr0 s_arr1))) else (m_Md_lift_b142 fu rec x2 x3 x4 x5 x6 s_arr0 s_arr1))))))
set_option maxHeartbeats 4000000 in
set_option maxRecDepth 100000 in
theorem w_Md_lift_b36 {p : Program} {l : Launch} {e : Env} {s : State} {m : MethodId} {args : Array Value} {below : List Frame} {meth : Method} {c : Code} {D : va_G} {ar : Nat → ClassId} {A : Nat → Prop} {Q : State → Prop} {fu : Nat} {a_arr0 a_arr1 : Nat} {o_arr1 : Nat → Int32} (C0 : CX p s m meth c args prog_12_method_9_code 12 none "FreeWaveletsModel" D ar A) (x2 : Int32) (x3 : Int32) (x4 : Int32) (x5 : Int32) (x6 : Int32) (x7 : Int32) (x8 : Int32) (t0 : Int32) (s_arr0 : Nat → Int32) (s_arr1 : Nat → Int32) (rec : Int32 → (Nat → Int32) → Option (((Nat → Int32)))) (hrec : ∀ (x6 : Int32) (s_arr1 : Nat → Int32), rec x6 s_arr1 = some o_arr1 → WA p l e rm_Md_lift s m args below meth c D A 12 Q 3 [(a_arr0, .inl (ar 0, 256, .inl s_arr0)), (a_arr1, .inl (ar 0, 256, .inl s_arr1))] [(0, .ref a_arr0), (1, .ref a_arr1), (2, .int x2), (3, .int x3), (4, .int x4), (5, .int x5), (6, .int x6)] []) (K1 : WA p l e rm_Md_lift s m args below meth c D A 12 Q 148 [(a_arr0, .inl (ar 0, 256, .inl s_arr0)), (a_arr1, .inl (ar 0, 256, .inl o_arr1))] [] []) (h : m_Md_lift_b36 fu rec x2 x3 x4 x5 x6 x7 x8 t0 s_arr0 s_arr1 = some o_arr1) : WA p l e rm_Md_lift s m args below meth c D A 12 Q 36 [(a_arr0, .inl (ar 0, 256, .inl s_arr0)), (a_arr1, .inl (ar 0, 256, .inl s_arr1))] [(0, .ref a_arr0), (1, .ref a_arr1), (2, .int x2), (3, .int x3), (4, .int x4), (5, .int x5), (6, .int x6), (7, .int x7), (8, .int x8)] [.int t0] := by
  intro H locs ls hP hD hS hl
  obtain ⟨hx, hb, hr, hml, hown, hts, hlocks, hA, hK, hZ⟩ := id C0
  unfold m_Md_lift_b36 at h
  refine lv_iload_n hx hb d_Md_lift_36 rfl (lv_at hl 2 rfl) ?_
  obtain ⟨z_7, h⟩ := nz_some h
  refine lv_idiv hx hb d_Md_lift_37 z_7 ?_
  refine lv_topi (fun x9_8 e_x9_8 => ?_)
  have h := letB_at e_x9_8 h
  refine lv_istore (lv' := [(9, .int x9_8), (0, .ref a_arr0), (1, .ref a_arr1), (2, .int x2), (3, .int x3), (4, .int x4), (5, .int x5), (6, .int x6), (7, .int x7), (8, .int x8)]) hx hb d_Md_lift_38 hl (by decide) rfl (fun ls hl => ?_)
  refine lv_aload_n hx hb d_Md_lift_40 rfl (lv_at hl 1 rfl) ?_
  refine lv_iload hx hb d_Md_lift_41 (lv_at hl 7 rfl) ?_
  obtain ⟨b_9, h⟩ := chk_some h
  refine va_iald hx hb hK hP 0 0 rfl rfl b_9 d_Md_lift_43 ?_
  refine lv_iconst (v := (-1 : Int32)) hx hb d_Md_lift_44 (by decide) ?_
  refine lv_icmp_eq (tgt := 142) hx hb d_Md_lift_45 (by decide) (fun c_10 => ?_) (fun c_10 => ?_)
  · have h := Eq.trans (if_pos c_10).symm h
    exact w_Md_lift_b142 C0 x2 x3 x4 x5 x6 s_arr0 s_arr1 _ hrec K1 h _ _ _ hP hD hS (lv_sub hl [1, 2, 3, 4, 5, 6, 7] rfl)
  · have h := Eq.trans (if_neg c_10).symm h
    refine lv_iload hx hb d_Md_lift_48 (lv_at hl 8 rfl) ?_
    refine lv_iload_n hx hb d_Md_lift_50 rfl (lv_at hl 3 rfl) ?_
    obtain ⟨z_12, h⟩ := nz_some h
    refine lv_irem hx hb d_Md_lift_51 z_12 ?_
    refine lv_if_ne (tgt := 142) hx hb d_Md_lift_52 (by decide) (fun c_13 => ?_) (fun c_13 => ?_)
    · have h := Eq.trans (if_neg c_13).symm h
      exact w_Md_lift_b142 C0 x2 x3 x4 x5 x6 s_arr0 s_arr1 _ hrec K1 h _ _ _ hP hD hS (lv_sub hl [1, 2, 3, 4, 5, 6, 7] rfl)
    · have h := Eq.trans (if_pos c_13).symm h
      refine lv_iload hx hb d_Md_lift_55 (lv_at hl 9 rfl) ?_
      refine lv_iload_n hx hb d_Md_lift_57 rfl (lv_at hl 3 rfl) ?_
      obtain ⟨z_14, h⟩ := nz_some h
      refine lv_irem hx hb d_Md_lift_58 z_14 ?_
      refine lv_if_ne (tgt := 142) hx hb d_Md_lift_59 (by decide) (fun c_15 => ?_) (fun c_15 => ?_)
      · have h := Eq.trans (if_neg c_15).symm h
        exact w_Md_lift_b142 C0 x2 x3 x4 x5 x6 s_arr0 s_arr1 _ hrec K1 h _ _ _ hP hD hS (lv_sub hl [1, 2, 3, 4, 5, 6, 7] rfl)
      · have h := Eq.trans (if_pos c_15).symm h
        refine lv_iload hx hb d_Md_lift_62 (lv_at hl 0 rfl) ?_
        refine lv_iconst (v := (2 : Int32)) hx hb d_Md_lift_64 (by decide) ?_
        obtain ⟨z_16, h⟩ := nz_some h
        refine lv_irem hx hb d_Md_lift_65 z_16 ?_
        refine lv_iconst (v := (1 : Int32)) hx hb d_Md_lift_66 (by decide) ?_
        refine lv_icmp_ne (tgt := 74) hx hb d_Md_lift_67 (by decide) (fun c_17 => ?_) (fun c_17 => ?_)
        · have h := Eq.trans (if_neg c_17).symm h
          refine lv_iconst (v := (0 : Int32)) hx hb d_Md_lift_74 (by decide) ?_
          exact w_Md_lift_b75 C0 x2 x3 x4 x5 x6 (0 : Int32) s_arr0 s_arr1 _ hrec K1 h _ _ _ hP hD hS (lv_sub hl [1, 2, 3, 4, 5, 6, 7] rfl)
        · have h := Eq.trans (if_pos c_17).symm h
          refine lv_iconst (v := (1 : Int32)) hx hb d_Md_lift_70 (by decide) ?_
          refine lv_goto (tgt := 75) hx hb d_Md_lift_71 (by decide) ?_
          exact w_Md_lift_b75 C0 x2 x3 x4 x5 x6 (1 : Int32) s_arr0 s_arr1 _ hrec K1 h _ _ _ hP hD hS (lv_sub hl [1, 2, 3, 4, 5, 6, 7] rfl)
def m_Md_lift_k3 (fu : Nat) (x2 : Int32) (x3 : Int32) (x4 : Int32) (x5 : Int32) (s_arr0 : Nat → Int32) (rec : Int32 → (Nat → Int32) → Option (((Nat → Int32)))) (x6 : Int32) (s_arr1 : Nat → Int32) : Option (((Nat → Int32))) :=
  if (256 : Int32) ≤ x6 then (some s_arr1) else (nz (16 : Int32) (letB (x6 - x6 / (16 : Int32) * (16 : Int32)) (fun x7_3 => nz (16 : Int32) (letB (x6 / (16 : Int32)) (fun x8_5 => if x3 = (0 : Int32) then (m_Md_lift_b36 fu rec x2 x3 x4 x5 x6 x7_3 x8_5 x8_5 s_arr0 s_arr1) else (m_Md_lift_b36 fu rec x2 x3 x4 x5 x6 x7_3 x8_5 x7_3 s_arr0 s_arr1))))))
set_option maxHeartbeats 4000000 in
set_option maxRecDepth 100000 in
theorem w_Md_lift_l3 {p : Program} {l : Launch} {e : Env} {s : State} {m : MethodId} {args : Array Value} {below : List Frame} {meth : Method} {c : Code} {D : va_G} {ar : Nat → ClassId} {A : Nat → Prop} {Q : State → Prop} {fu : Nat} {a_arr0 a_arr1 : Nat} (C0 : CX p s m meth c args prog_12_method_9_code 12 none "FreeWaveletsModel" D ar A) (x2 : Int32) (x3 : Int32) (x4 : Int32) (x5 : Int32) (s_arr0 : Nat → Int32) : ∀ (n : Nat) (x6 : Int32) (s_arr1 : Nat → Int32) (o_arr1 : Nat → Int32), loop2 (m_Md_lift_k3 fu x2 x3 x4 x5 s_arr0) n x6 s_arr1 = some o_arr1 → (WA p l e rm_Md_lift s m args below meth c D A 12 Q 148 [(a_arr0, .inl (ar 0, 256, .inl s_arr0)), (a_arr1, .inl (ar 0, 256, .inl o_arr1))] [] []) → WA p l e rm_Md_lift s m args below meth c D A 12 Q 3 [(a_arr0, .inl (ar 0, 256, .inl s_arr0)), (a_arr1, .inl (ar 0, 256, .inl s_arr1))] [(0, .ref a_arr0), (1, .ref a_arr1), (2, .int x2), (3, .int x3), (4, .int x4), (5, .int x5), (6, .int x6)] [] := by
  intro n
  induction n with
  | zero => intro x6 s_arr1 o_arr1 h; exact (no0 h).elim
  | succ n ih =>
    intro x6 s_arr1 o_arr1 h K1
    have hrec : ∀ (x6 : Int32) (s_arr1 : Nat → Int32), loop2 (m_Md_lift_k3 fu x2 x3 x4 x5 s_arr0) n x6 s_arr1 = some o_arr1 → WA p l e rm_Md_lift s m args below meth c D A 12 Q 3 [(a_arr0, .inl (ar 0, 256, .inl s_arr0)), (a_arr1, .inl (ar 0, 256, .inl s_arr1))] [(0, .ref a_arr0), (1, .ref a_arr1), (2, .int x2), (3, .int x3), (4, .int x4), (5, .int x5), (6, .int x6)] [] := fun x6 s_arr1 h => ih x6 s_arr1 o_arr1 h K1
    clear ih
    intro H locs ls hP hD hS hl
    obtain ⟨hx, hb, hr, hml, hown, hts, hlocks, hA, hK, hZ⟩ := id C0
    have h : m_Md_lift_k3 fu x2 x3 x4 x5 s_arr0 (loop2 (m_Md_lift_k3 fu x2 x3 x4 x5 s_arr0) n) x6 s_arr1 = some o_arr1 := h
    unfold m_Md_lift_k3 at h
    refine lv_iload hx hb d_Md_lift_3 (lv_at hl 6 rfl) ?_
    refine lv_sipush (v := (256 : Int32)) hx hb d_Md_lift_5 (by decide) ?_
    refine lv_icmp_ge (tgt := 148) hx hb d_Md_lift_8 (by decide) (fun c_1 => ?_) (fun c_1 => ?_)
    · have h := Eq.trans (if_pos c_1).symm h
      cases h
      exact K1 _ _ _ hP hD hS (lv_sub hl [] rfl)
    · have h := Eq.trans (if_neg c_1).symm h
      refine lv_iload hx hb d_Md_lift_11 (lv_at hl 6 rfl) ?_
      refine lv_bipush (v := (16 : Int32)) hx hb d_Md_lift_13 (by decide) ?_
      obtain ⟨z_2, h⟩ := nz_some h
      refine lv_irem hx hb d_Md_lift_15 z_2 ?_
      refine lv_topi (fun x7_3 e_x7_3 => ?_)
      have h := letB_at e_x7_3 h
      refine lv_istore (lv' := [(7, .int x7_3), (0, .ref a_arr0), (1, .ref a_arr1), (2, .int x2), (3, .int x3), (4, .int x4), (5, .int x5), (6, .int x6)]) hx hb d_Md_lift_16 hl (by decide) rfl (fun ls hl => ?_)
      refine lv_iload hx hb d_Md_lift_18 (lv_at hl 7 rfl) ?_
      refine lv_bipush (v := (16 : Int32)) hx hb d_Md_lift_20 (by decide) ?_
      obtain ⟨z_4, h⟩ := nz_some h
      refine lv_idiv hx hb d_Md_lift_22 z_4 ?_
      refine lv_topi (fun x8_5 e_x8_5 => ?_)
      have h := letB_at e_x8_5 h
      refine lv_istore (lv' := [(8, .int x8_5), (7, .int x7_3), (0, .ref a_arr0), (1, .ref a_arr1), (2, .int x2), (3, .int x3), (4, .int x4), (5, .int x5), (6, .int x6)]) hx hb d_Md_lift_23 hl (by decide) rfl (fun ls hl => ?_)
      refine lv_iload_n hx hb d_Md_lift_25 rfl (lv_at hl 5 rfl) ?_
      refine lv_if_eq (tgt := 34) hx hb d_Md_lift_26 (by decide) (fun c_6 => ?_) (fun c_6 => ?_)
      · have h := Eq.trans (if_pos c_6).symm h
        refine lv_iload hx hb d_Md_lift_34 (lv_at hl 0 rfl) ?_
        exact w_Md_lift_b36 C0 x2 x3 x4 x5 x6 x7_3 x8_5 x8_5 s_arr0 s_arr1 _ hrec K1 h _ _ _ hP hD hS (lv_sub hl [2, 3, 4, 5, 6, 7, 8, 1, 0] rfl)
      · have h := Eq.trans (if_neg c_6).symm h
        refine lv_iload hx hb d_Md_lift_29 (lv_at hl 1 rfl) ?_
        refine lv_goto (tgt := 36) hx hb d_Md_lift_31 (by decide) ?_
        exact w_Md_lift_b36 C0 x2 x3 x4 x5 x6 x7_3 x8_5 x7_3 s_arr0 s_arr1 _ hrec K1 h _ _ _ hP hD hS (lv_sub hl [2, 3, 4, 5, 6, 7, 8, 1, 0] rfl)
def m_Md_lift (fu : Nat) (x2 : Int32) (x3 : Int32) (x4 : Int32) (x5 : Int32) (s_arr0 : Nat → Int32) (s_arr1 : Nat → Int32) : Option ((Nat → Int32)) :=
  bn1 (loop2 (m_Md_lift_k3 fu x2 x3 x4 x5 s_arr0) fu (0 : Int32) s_arr1) (fun o_arr1_26 => some o_arr1_26)
set_option maxHeartbeats 4000000 in
set_option maxRecDepth 100000 in
theorem c_Md_lift {l : Launch} {D : va_G} {ar : Nat → ClassId} {fu : Nat} (a_arr0 a_arr1 : Nat) (x2 : Int32) (x3 : Int32) (x4 : Int32) (x5 : Int32) (s_arr0 : Nat → Int32) (s_arr1 : Nat → Int32) {r_arr1 : Nat → Int32} (h : m_Md_lift fu x2 x3 x4 x5 s_arr0 s_arr1 = some r_arr1) : StdV l y_Md_lift ws_Md_lift rm_Md_lift D ar [.ref a_arr0, .ref a_arr1, .int x2, .int x3, .int x4, .int x5] [(a_arr0, .inl (ar 0, 256, .inl s_arr0)), (a_arr1, .inl (ar 0, 256, .inl s_arr1))] [(a_arr0, .inl (ar 0, 256, .inl s_arr0)), (a_arr1, .inl (ar 0, 256, .inl r_arr1))] := by
  refine sd_metV (cc := prog_12_method_9_code) (maxL := 12) (ret := none) (own := "FreeWaveletsModel") (by decide) rfl rfl (Nat.le_of_ble_eq_true rfl) ?_
  intro p e s m below meth c A ls C0 hP hD hl
  obtain ⟨hx, hb, hr, hml, hown, hts, hlocks, hA, hK, hZ⟩ := id C0
  have hS : va_S A s.heap s.heap [] := va_S.rf
  have hl : lv_has ls 12 [(0, .ref a_arr0), (1, .ref a_arr1), (2, .int x2), (3, .int x3), (4, .int x4), (5, .int x5)] := hl
  unfold m_Md_lift at h
  refine lv_iconst (v := (0 : Int32)) hx hb d_Md_lift_0 (by decide) ?_
  refine lv_istore (lv' := [(6, .int (0 : Int32)), (0, .ref a_arr0), (1, .ref a_arr1), (2, .int x2), (3, .int x3), (4, .int x4), (5, .int x5)]) hx hb d_Md_lift_1 hl (by decide) rfl (fun ls hl => ?_)
  obtain ⟨o_arr1_26, hloop, h⟩ := bn1_some h
  refine w_Md_lift_l3 C0 x2 x3 x4 x5 s_arr0 fu (0 : Int32) s_arr1 _ hloop ?_ _ _ _ hP hD hS (lv_sub hl [1, 2, 3, 4, 5, 6, 0] rfl)
  clear hP hD hS hl hloop
  intro H locs ls hP hD hS hl
  cases h
  exact sd_vret hx hb hr hlocks hP hD hK hS d_Md_lift_148
abbrev rm_Md_makeWaves : Room := { frames := 2, cells := 0, slots := 0, locals := 59 }
def m_Md_makeWaves_k15 (fu : Nat) (x1 : Int32) (s_inside : Nat → Int32) (s_partOf : Nat → Int32) (s_pile : Nat → Int32) (s_values : Nat → Int32) (rec : Int32 → (Nat → Int32) → Option (((Nat → Int32)))) (x2 : Int32) (s_waves : Nat → Int32) : Option (((Nat → Int32))) :=
  if (256 : Int32) ≤ x2 then (some s_waves) else (chk x2 256 (letB (s_values (x2).toNatClampNeg) (fun y_6 => chk x2 256 (letB (x2 + (1 : Int32)) (fun x2_8 => rec x2_8 (upd s_waves (x2).toNatClampNeg y_6))))))
set_option maxHeartbeats 4000000 in
set_option maxRecDepth 100000 in
theorem w_Md_makeWaves_l15 {p : Program} {l : Launch} {e : Env} {s : State} {m : MethodId} {args : Array Value} {below : List Frame} {meth : Method} {c : Code} {D : va_G} {ar : Nat → ClassId} {A : Nat → Prop} {Q : State → Prop} {fu : Nat} {a_this a_this_inside a_this_values a_this_partOf a_this_waves a_this_readInside a_this_readPart a_this_readValues a_this_stream a_this_zeros a_this_fed a_this_pile a_this_open a_this_sizes a_this_below : Nat} {s_code : Int32} {s_width : Int32} {s_height : Int32} {s_isRead : Int32} {s_readWide : Int32} {s_readHigh : Int32} {s_readPlanes : Int32} {s_streamBits : Int32} {s_fedMany : Int32} {s_mode : Int32} {s_limit : Int32} {s_count : Int32} (C0 : CX p s m meth c args prog_12_method_10_code 4 (some .int) "FreeWaveletsModel" D ar A) (x1 : Int32) (s_inside : Nat → Int32) (s_partOf : Nat → Int32) (s_pile : Nat → Int32) (s_values : Nat → Int32) : ∀ (n : Nat) (x2 : Int32) (s_waves : Nat → Int32) (o_waves : Nat → Int32), loop2 (m_Md_makeWaves_k15 fu x1 s_inside s_partOf s_pile s_values) n x2 s_waves = some o_waves → (WA p l e rm_Md_makeWaves s m args below meth c D A 4 Q 40 [(a_this, .inr (9, [.int s_code, .int s_width, .int s_height, .ref a_this_inside, .ref a_this_values, .ref a_this_partOf, .ref a_this_waves, .int s_isRead, .int s_readWide, .int s_readHigh, .int s_readPlanes, .ref a_this_readInside, .ref a_this_readPart, .ref a_this_readValues, .ref a_this_stream, .int s_streamBits, .ref a_this_zeros, .ref a_this_fed, .int s_fedMany, .ref a_this_pile, .int s_mode, .int s_limit, .int s_count, .ref a_this_open, .ref a_this_sizes, .ref a_this_below])), (a_this_inside, .inl (ar 1, 256, .inl s_inside)), (a_this_partOf, .inl (ar 0, 256, .inl s_partOf)), (a_this_pile, .inl (ar 0, 256, .inl s_pile)), (a_this_values, .inl (ar 0, 256, .inl s_values)), (a_this_waves, .inl (ar 0, 256, .inl o_waves))] [(0, .ref a_this), (1, .int x1)] []) → WA p l e rm_Md_makeWaves s m args below meth c D A 4 Q 15 [(a_this, .inr (9, [.int s_code, .int s_width, .int s_height, .ref a_this_inside, .ref a_this_values, .ref a_this_partOf, .ref a_this_waves, .int s_isRead, .int s_readWide, .int s_readHigh, .int s_readPlanes, .ref a_this_readInside, .ref a_this_readPart, .ref a_this_readValues, .ref a_this_stream, .int s_streamBits, .ref a_this_zeros, .ref a_this_fed, .int s_fedMany, .ref a_this_pile, .int s_mode, .int s_limit, .int s_count, .ref a_this_open, .ref a_this_sizes, .ref a_this_below])), (a_this_inside, .inl (ar 1, 256, .inl s_inside)), (a_this_partOf, .inl (ar 0, 256, .inl s_partOf)), (a_this_pile, .inl (ar 0, 256, .inl s_pile)), (a_this_values, .inl (ar 0, 256, .inl s_values)), (a_this_waves, .inl (ar 0, 256, .inl s_waves))] [(0, .ref a_this), (1, .int x1), (2, .int x2)] [] := by
  intro n
  induction n with
  | zero => intro x2 s_waves o_waves h; exact (no0 h).elim
  | succ n ih =>
    intro x2 s_waves o_waves h K1
    have hrec : ∀ (x2 : Int32) (s_waves : Nat → Int32), loop2 (m_Md_makeWaves_k15 fu x1 s_inside s_partOf s_pile s_values) n x2 s_waves = some o_waves → WA p l e rm_Md_makeWaves s m args below meth c D A 4 Q 15 [(a_this, .inr (9, [.int s_code, .int s_width, .int s_height, .ref a_this_inside, .ref a_this_values, .ref a_this_partOf, .ref a_this_waves, .int s_isRead, .int s_readWide, .int s_readHigh, .int s_readPlanes, .ref a_this_readInside, .ref a_this_readPart, .ref a_this_readValues, .ref a_this_stream, .int s_streamBits, .ref a_this_zeros, .ref a_this_fed, .int s_fedMany, .ref a_this_pile, .int s_mode, .int s_limit, .int s_count, .ref a_this_open, .ref a_this_sizes, .ref a_this_below])), (a_this_inside, .inl (ar 1, 256, .inl s_inside)), (a_this_partOf, .inl (ar 0, 256, .inl s_partOf)), (a_this_pile, .inl (ar 0, 256, .inl s_pile)), (a_this_values, .inl (ar 0, 256, .inl s_values)), (a_this_waves, .inl (ar 0, 256, .inl s_waves))] [(0, .ref a_this), (1, .int x1), (2, .int x2)] [] := fun x2 s_waves h => ih x2 s_waves o_waves h K1
    clear ih
    intro H locs ls hP hD hS hl
    obtain ⟨hx, hb, hr, hml, hown, hts, hlocks, hA, hK, hZ⟩ := id C0
    have h : m_Md_makeWaves_k15 fu x1 s_inside s_partOf s_pile s_values (loop2 (m_Md_makeWaves_k15 fu x1 s_inside s_partOf s_pile s_values) n) x2 s_waves = some o_waves := h
    unfold m_Md_makeWaves_k15 at h
    refine lv_iload_n hx hb d_Md_makeWaves_15 rfl (lv_at hl 2 rfl) ?_
    refine lv_sipush (v := (256 : Int32)) hx hb d_Md_makeWaves_16 (by decide) ?_
    refine lv_icmp_ge (tgt := 40) hx hb d_Md_makeWaves_19 (by decide) (fun c_4 => ?_) (fun c_4 => ?_)
    · have h := Eq.trans (if_pos c_4).symm h
      cases h
      exact K1 _ _ _ hP hD hS (lv_sub hl [0, 1] rfl)
    · have h := Eq.trans (if_neg c_4).symm h
      refine lv_aload_n hx hb d_Md_makeWaves_22 rfl (lv_at hl 0 rfl) ?_
      refine va_get (D := D) (ci := 9) (v := .ref a_this_waves) (C := R_Md) (T := F_Md) (N := 26) hx hb hts in_Md hown hK hP 0 rfl rfl 6 (by decide) (hts _ k_775) (fun _ h9 => h9) rfl d_Md_makeWaves_23 ?_
      refine lv_iload_n hx hb d_Md_makeWaves_26 rfl (lv_at hl 2 rfl) ?_
      refine lv_aload_n hx hb d_Md_makeWaves_27 rfl (lv_at hl 0 rfl) ?_
      refine va_get (D := D) (ci := 9) (v := .ref a_this_values) (C := R_Md) (T := F_Md) (N := 26) hx hb hts in_Md hown hK hP 0 rfl rfl 4 (by decide) (hts _ k_773) (fun _ h9 => h9) rfl d_Md_makeWaves_28 ?_
      refine lv_iload_n hx hb d_Md_makeWaves_31 rfl (lv_at hl 2 rfl) ?_
      obtain ⟨b_5, h⟩ := chk_some h
      refine va_iald hx hb hK hP 4 0 rfl rfl b_5 d_Md_makeWaves_32 ?_
      refine lv_topi (fun y_6 e_y_6 => ?_)
      have h := letB_at e_y_6 h
      obtain ⟨b_7, h⟩ := chk_some h
      refine va_iast hx hb hK hP hD hS 5 0 rfl rfl b_7 d_Md_makeWaves_33 (fun H locs hP hD hS => ?_)
      have hP : va_P D vwCl [(a_this, .inr (9, [.int s_code, .int s_width, .int s_height, .ref a_this_inside, .ref a_this_values, .ref a_this_partOf, .ref a_this_waves, .int s_isRead, .int s_readWide, .int s_readHigh, .int s_readPlanes, .ref a_this_readInside, .ref a_this_readPart, .ref a_this_readValues, .ref a_this_stream, .int s_streamBits, .ref a_this_zeros, .ref a_this_fed, .int s_fedMany, .ref a_this_pile, .int s_mode, .int s_limit, .int s_count, .ref a_this_open, .ref a_this_sizes, .ref a_this_below])), (a_this_inside, .inl (ar 1, 256, .inl s_inside)), (a_this_partOf, .inl (ar 0, 256, .inl s_partOf)), (a_this_pile, .inl (ar 0, 256, .inl s_pile)), (a_this_values, .inl (ar 0, 256, .inl s_values)), (a_this_waves, .inl (ar 0, 256, .inl (upd s_waves (x2).toNatClampNeg y_6)))] H := hP
      have hD : va_D A [(a_this, .inr (9, [.int s_code, .int s_width, .int s_height, .ref a_this_inside, .ref a_this_values, .ref a_this_partOf, .ref a_this_waves, .int s_isRead, .int s_readWide, .int s_readHigh, .int s_readPlanes, .ref a_this_readInside, .ref a_this_readPart, .ref a_this_readValues, .ref a_this_stream, .int s_streamBits, .ref a_this_zeros, .ref a_this_fed, .int s_fedMany, .ref a_this_pile, .int s_mode, .int s_limit, .int s_count, .ref a_this_open, .ref a_this_sizes, .ref a_this_below])), (a_this_inside, .inl (ar 1, 256, .inl s_inside)), (a_this_partOf, .inl (ar 0, 256, .inl s_partOf)), (a_this_pile, .inl (ar 0, 256, .inl s_pile)), (a_this_values, .inl (ar 0, 256, .inl s_values)), (a_this_waves, .inl (ar 0, 256, .inl (upd s_waves (x2).toNatClampNeg y_6)))] := hD
      obtain ⟨x2_8, e_x2_8⟩ : ∃ y : Int32, y = x2 + (1 : Int32) := ⟨_, rfl⟩
      have h := letB_at e_x2_8 h
      refine lv_iinc (v := x2_8) (lv' := [(2, .int x2_8), (0, .ref a_this), (1, .int x1)]) hx hb d_Md_makeWaves_34 hl (k := 2) rfl (by rw [e_x2_8]; rfl) (by decide) rfl (fun ls hl => ?_)
      refine lv_goto (tgt := 15) hx hb d_Md_makeWaves_37 (by decide) ?_
      exact hrec x2_8 (upd s_waves (x2).toNatClampNeg y_6) h _ _ _ hP hD hS (lv_sub hl [1, 2, 0] rfl)
def m_Md_makeWaves_b95 (fu : Nat) (rec : Int32 → (Nat → Int32) → Option (((Nat → Int32)))) (x1 : Int32) (x2 : Int32) (x3 : Int32) (t0 : Int32) (t1 : Int32) (s_inside : Nat → Int32) (s_partOf : Nat → Int32) (s_pile : Nat → Int32) (s_values : Nat → Int32) (s_waves : Nat → Int32) : Option (((Nat → Int32))) :=
  bn1 (m_Md_lift fu t1 t0 (0 : Int32) (0 : Int32) s_partOf s_waves) (fun s_waves_15 => letB (x3 + (1 : Int32)) (fun x3_16 => rec x3_16 s_waves_15))
set_option maxHeartbeats 4000000 in
set_option maxRecDepth 100000 in
theorem w_Md_makeWaves_b95 {p : Program} {l : Launch} {e : Env} {s : State} {m : MethodId} {args : Array Value} {below : List Frame} {meth : Method} {c : Code} {D : va_G} {ar : Nat → ClassId} {A : Nat → Prop} {Q : State → Prop} {fu : Nat} {a_this a_this_inside a_this_values a_this_partOf a_this_waves a_this_readInside a_this_readPart a_this_readValues a_this_stream a_this_zeros a_this_fed a_this_pile a_this_open a_this_sizes a_this_below : Nat} {s_code : Int32} {s_width : Int32} {s_height : Int32} {s_isRead : Int32} {s_readWide : Int32} {s_readHigh : Int32} {s_readPlanes : Int32} {s_streamBits : Int32} {s_fedMany : Int32} {s_mode : Int32} {s_limit : Int32} {s_count : Int32} {o_waves : Nat → Int32} (C0 : CX p s m meth c args prog_12_method_10_code 4 (some .int) "FreeWaveletsModel" D ar A) (x1 : Int32) (x2 : Int32) (x3 : Int32) (t0 : Int32) (t1 : Int32) (s_inside : Nat → Int32) (s_partOf : Nat → Int32) (s_pile : Nat → Int32) (s_values : Nat → Int32) (s_waves : Nat → Int32) (rec : Int32 → (Nat → Int32) → Option (((Nat → Int32)))) (hrec : ∀ (x3 : Int32) (s_waves : Nat → Int32), rec x3 s_waves = some o_waves → WA p l e rm_Md_makeWaves s m args below meth c D A 4 Q 49 [(a_this, .inr (9, [.int s_code, .int s_width, .int s_height, .ref a_this_inside, .ref a_this_values, .ref a_this_partOf, .ref a_this_waves, .int s_isRead, .int s_readWide, .int s_readHigh, .int s_readPlanes, .ref a_this_readInside, .ref a_this_readPart, .ref a_this_readValues, .ref a_this_stream, .int s_streamBits, .ref a_this_zeros, .ref a_this_fed, .int s_fedMany, .ref a_this_pile, .int s_mode, .int s_limit, .int s_count, .ref a_this_open, .ref a_this_sizes, .ref a_this_below])), (a_this_inside, .inl (ar 1, 256, .inl s_inside)), (a_this_partOf, .inl (ar 0, 256, .inl s_partOf)), (a_this_pile, .inl (ar 0, 256, .inl s_pile)), (a_this_values, .inl (ar 0, 256, .inl s_values)), (a_this_waves, .inl (ar 0, 256, .inl s_waves))] [(0, .ref a_this), (1, .int x1), (2, .int x2), (3, .int x3)] []) (K1 : WA p l e rm_Md_makeWaves s m args below meth c D A 4 Q 106 [(a_this, .inr (9, [.int s_code, .int s_width, .int s_height, .ref a_this_inside, .ref a_this_values, .ref a_this_partOf, .ref a_this_waves, .int s_isRead, .int s_readWide, .int s_readHigh, .int s_readPlanes, .ref a_this_readInside, .ref a_this_readPart, .ref a_this_readValues, .ref a_this_stream, .int s_streamBits, .ref a_this_zeros, .ref a_this_fed, .int s_fedMany, .ref a_this_pile, .int s_mode, .int s_limit, .int s_count, .ref a_this_open, .ref a_this_sizes, .ref a_this_below])), (a_this_inside, .inl (ar 1, 256, .inl s_inside)), (a_this_partOf, .inl (ar 0, 256, .inl s_partOf)), (a_this_pile, .inl (ar 0, 256, .inl s_pile)), (a_this_values, .inl (ar 0, 256, .inl s_values)), (a_this_waves, .inl (ar 0, 256, .inl o_waves))] [(0, .ref a_this), (1, .int x1), (2, .int x2)] []) (h : m_Md_makeWaves_b95 fu rec x1 x2 x3 t0 t1 s_inside s_partOf s_pile s_values s_waves = some o_waves) : WA p l e rm_Md_makeWaves s m args below meth c D A 4 Q 95 [(a_this, .inr (9, [.int s_code, .int s_width, .int s_height, .ref a_this_inside, .ref a_this_values, .ref a_this_partOf, .ref a_this_waves, .int s_isRead, .int s_readWide, .int s_readHigh, .int s_readPlanes, .ref a_this_readInside, .ref a_this_readPart, .ref a_this_readValues, .ref a_this_stream, .int s_streamBits, .ref a_this_zeros, .ref a_this_fed, .int s_fedMany, .ref a_this_pile, .int s_mode, .int s_limit, .int s_count, .ref a_this_open, .ref a_this_sizes, .ref a_this_below])), (a_this_inside, .inl (ar 1, 256, .inl s_inside)), (a_this_partOf, .inl (ar 0, 256, .inl s_partOf)), (a_this_pile, .inl (ar 0, 256, .inl s_pile)), (a_this_values, .inl (ar 0, 256, .inl s_values)), (a_this_waves, .inl (ar 0, 256, .inl s_waves))] [(0, .ref a_this), (1, .int x1), (2, .int x2), (3, .int x3)] [.int t0, .int t1, .ref a_this_waves, .ref a_this_partOf] := by
  intro H locs ls hP hD hS hl
  obtain ⟨hx, hb, hr, hml, hown, hts, hlocks, hA, hK, hZ⟩ := id C0
  unfold m_Md_makeWaves_b95 at h
  refine lv_iconst (v := (0 : Int32)) hx hb d_Md_makeWaves_95 (by decide) ?_
  refine lv_iconst (v := (0 : Int32)) hx hb d_Md_makeWaves_96 (by decide) ?_
  obtain ⟨s_waves_15, hcall, h⟩ := bn1_some h
  refine sd_v (wr := [(a_this, .inr (9, [.int s_code, .int s_width, .int s_height, .ref a_this_inside, .ref a_this_values, .ref a_this_partOf, .ref a_this_waves, .int s_isRead, .int s_readWide, .int s_readHigh, .int s_readPlanes, .ref a_this_readInside, .ref a_this_readPart, .ref a_this_readValues, .ref a_this_stream, .int s_streamBits, .ref a_this_zeros, .ref a_this_fed, .int s_fedMany, .ref a_this_pile, .int s_mode, .int s_limit, .int s_count, .ref a_this_open, .ref a_this_sizes, .ref a_this_below])), (a_this_inside, .inl (ar 1, 256, .inl s_inside)), (a_this_pile, .inl (ar 0, 256, .inl s_pile)), (a_this_values, .inl (ar 0, 256, .inl s_values))]) (va_runS (As := [.ref a_this_partOf, .ref a_this_waves, .int t1, .int t0, .int (0 : Int32), .int (0 : Int32)]) (rest := []) ⟨hx, hb, hml, hown, hts⟩ (c_Md_lift a_this_partOf a_this_waves t1 t0 (0 : Int32) (0 : Int32) s_partOf s_waves hcall _) (cw_S 6 hts k_880 k_881 k_40 k_882 rfl rfl (by decide +kernel) ⟨Nat.le_of_ble_eq_true rfl, Nat.le_of_ble_eq_true rfl⟩) (sd_preS hK hP hD hS hA hZ [2, 5] (by decide) rfl) rfl rfl hl.1 rfl (lv_room (Nat.le_of_ble_eq_true rfl)) d_Md_makeWaves_97 ⟨Nat.le_of_ble_eq_true rfl, Nat.le_of_ble_eq_true rfl⟩) hP hD hS hA [2, 5] [0, 1, 3, 4] rfl rfl (by decide) (by decide) (fun H locs hP hD hS => ?_)
  have hP : va_P D vwCl [(a_this, .inr (9, [.int s_code, .int s_width, .int s_height, .ref a_this_inside, .ref a_this_values, .ref a_this_partOf, .ref a_this_waves, .int s_isRead, .int s_readWide, .int s_readHigh, .int s_readPlanes, .ref a_this_readInside, .ref a_this_readPart, .ref a_this_readValues, .ref a_this_stream, .int s_streamBits, .ref a_this_zeros, .ref a_this_fed, .int s_fedMany, .ref a_this_pile, .int s_mode, .int s_limit, .int s_count, .ref a_this_open, .ref a_this_sizes, .ref a_this_below])), (a_this_inside, .inl (ar 1, 256, .inl s_inside)), (a_this_pile, .inl (ar 0, 256, .inl s_pile)), (a_this_values, .inl (ar 0, 256, .inl s_values)), (a_this_partOf, .inl (ar 0, 256, .inl s_partOf)), (a_this_waves, .inl (ar 0, 256, .inl s_waves_15))] H := hP
  have hD : va_D A [(a_this, .inr (9, [.int s_code, .int s_width, .int s_height, .ref a_this_inside, .ref a_this_values, .ref a_this_partOf, .ref a_this_waves, .int s_isRead, .int s_readWide, .int s_readHigh, .int s_readPlanes, .ref a_this_readInside, .ref a_this_readPart, .ref a_this_readValues, .ref a_this_stream, .int s_streamBits, .ref a_this_zeros, .ref a_this_fed, .int s_fedMany, .ref a_this_pile, .int s_mode, .int s_limit, .int s_count, .ref a_this_open, .ref a_this_sizes, .ref a_this_below])), (a_this_inside, .inl (ar 1, 256, .inl s_inside)), (a_this_pile, .inl (ar 0, 256, .inl s_pile)), (a_this_values, .inl (ar 0, 256, .inl s_values)), (a_this_partOf, .inl (ar 0, 256, .inl s_partOf)), (a_this_waves, .inl (ar 0, 256, .inl s_waves_15))] := hD
  obtain ⟨x3_16, e_x3_16⟩ : ∃ y : Int32, y = x3 + (1 : Int32) := ⟨_, rfl⟩
  have h := letB_at e_x3_16 h
  refine lv_iinc (v := x3_16) (lv' := [(3, .int x3_16), (0, .ref a_this), (1, .int x1), (2, .int x2)]) hx hb d_Md_makeWaves_100 hl (k := 3) rfl (by rw [e_x3_16]; rfl) (by decide) rfl (fun ls hl => ?_)
  refine lv_goto (tgt := 49) hx hb d_Md_makeWaves_103 (by decide) ?_
  exact hrec x3_16 s_waves_15 h _ _ _ (hP.sub [0, 1, 4, 2, 3, 5] rfl) (hD.sub [0, 1, 4, 2, 3, 5] (by decide) rfl) hS (lv_sub hl [1, 2, 3, 0] rfl)
def m_Md_makeWaves_b72 (fu : Nat) (rec : Int32 → (Nat → Int32) → Option (((Nat → Int32)))) (x1 : Int32) (x2 : Int32) (x3 : Int32) (t0 : Int32) (t1 : Int32) (s_inside : Nat → Int32) (s_partOf : Nat → Int32) (s_pile : Nat → Int32) (s_values : Nat → Int32) (s_waves : Nat → Int32) : Option (((Nat → Int32))) :=
  bn1 (m_Md_lift fu t1 t0 (1 : Int32) (0 : Int32) s_partOf s_waves) (fun s_waves_13 => if x3 = (0 : Int32) then (m_Md_makeWaves_b95 fu rec x1 x2 x3 (1 : Int32) x2 s_inside s_partOf s_pile s_values s_waves_13) else (m_Md_makeWaves_b95 fu rec x1 x2 x3 (0 : Int32) x2 s_inside s_partOf s_pile s_values s_waves_13))
set_option maxHeartbeats 4000000 in
set_option maxRecDepth 100000 in
theorem w_Md_makeWaves_b72 {p : Program} {l : Launch} {e : Env} {s : State} {m : MethodId} {args : Array Value} {below : List Frame} {meth : Method} {c : Code} {D : va_G} {ar : Nat → ClassId} {A : Nat → Prop} {Q : State → Prop} {fu : Nat} {a_this a_this_inside a_this_values a_this_partOf a_this_waves a_this_readInside a_this_readPart a_this_readValues a_this_stream a_this_zeros a_this_fed a_this_pile a_this_open a_this_sizes a_this_below : Nat} {s_code : Int32} {s_width : Int32} {s_height : Int32} {s_isRead : Int32} {s_readWide : Int32} {s_readHigh : Int32} {s_readPlanes : Int32} {s_streamBits : Int32} {s_fedMany : Int32} {s_mode : Int32} {s_limit : Int32} {s_count : Int32} {o_waves : Nat → Int32} (C0 : CX p s m meth c args prog_12_method_10_code 4 (some .int) "FreeWaveletsModel" D ar A) (x1 : Int32) (x2 : Int32) (x3 : Int32) (t0 : Int32) (t1 : Int32) (s_inside : Nat → Int32) (s_partOf : Nat → Int32) (s_pile : Nat → Int32) (s_values : Nat → Int32) (s_waves : Nat → Int32) (rec : Int32 → (Nat → Int32) → Option (((Nat → Int32)))) (hrec : ∀ (x3 : Int32) (s_waves : Nat → Int32), rec x3 s_waves = some o_waves → WA p l e rm_Md_makeWaves s m args below meth c D A 4 Q 49 [(a_this, .inr (9, [.int s_code, .int s_width, .int s_height, .ref a_this_inside, .ref a_this_values, .ref a_this_partOf, .ref a_this_waves, .int s_isRead, .int s_readWide, .int s_readHigh, .int s_readPlanes, .ref a_this_readInside, .ref a_this_readPart, .ref a_this_readValues, .ref a_this_stream, .int s_streamBits, .ref a_this_zeros, .ref a_this_fed, .int s_fedMany, .ref a_this_pile, .int s_mode, .int s_limit, .int s_count, .ref a_this_open, .ref a_this_sizes, .ref a_this_below])), (a_this_inside, .inl (ar 1, 256, .inl s_inside)), (a_this_partOf, .inl (ar 0, 256, .inl s_partOf)), (a_this_pile, .inl (ar 0, 256, .inl s_pile)), (a_this_values, .inl (ar 0, 256, .inl s_values)), (a_this_waves, .inl (ar 0, 256, .inl s_waves))] [(0, .ref a_this), (1, .int x1), (2, .int x2), (3, .int x3)] []) (K1 : WA p l e rm_Md_makeWaves s m args below meth c D A 4 Q 106 [(a_this, .inr (9, [.int s_code, .int s_width, .int s_height, .ref a_this_inside, .ref a_this_values, .ref a_this_partOf, .ref a_this_waves, .int s_isRead, .int s_readWide, .int s_readHigh, .int s_readPlanes, .ref a_this_readInside, .ref a_this_readPart, .ref a_this_readValues, .ref a_this_stream, .int s_streamBits, .ref a_this_zeros, .ref a_this_fed, .int s_fedMany, .ref a_this_pile, .int s_mode, .int s_limit, .int s_count, .ref a_this_open, .ref a_this_sizes, .ref a_this_below])), (a_this_inside, .inl (ar 1, 256, .inl s_inside)), (a_this_partOf, .inl (ar 0, 256, .inl s_partOf)), (a_this_pile, .inl (ar 0, 256, .inl s_pile)), (a_this_values, .inl (ar 0, 256, .inl s_values)), (a_this_waves, .inl (ar 0, 256, .inl o_waves))] [(0, .ref a_this), (1, .int x1), (2, .int x2)] []) (h : m_Md_makeWaves_b72 fu rec x1 x2 x3 t0 t1 s_inside s_partOf s_pile s_values s_waves = some o_waves) : WA p l e rm_Md_makeWaves s m args below meth c D A 4 Q 72 [(a_this, .inr (9, [.int s_code, .int s_width, .int s_height, .ref a_this_inside, .ref a_this_values, .ref a_this_partOf, .ref a_this_waves, .int s_isRead, .int s_readWide, .int s_readHigh, .int s_readPlanes, .ref a_this_readInside, .ref a_this_readPart, .ref a_this_readValues, .ref a_this_stream, .int s_streamBits, .ref a_this_zeros, .ref a_this_fed, .int s_fedMany, .ref a_this_pile, .int s_mode, .int s_limit, .int s_count, .ref a_this_open, .ref a_this_sizes, .ref a_this_below])), (a_this_inside, .inl (ar 1, 256, .inl s_inside)), (a_this_partOf, .inl (ar 0, 256, .inl s_partOf)), (a_this_pile, .inl (ar 0, 256, .inl s_pile)), (a_this_values, .inl (ar 0, 256, .inl s_values)), (a_this_waves, .inl (ar 0, 256, .inl s_waves))] [(0, .ref a_this), (1, .int x1), (2, .int x2), (3, .int x3)] [.int t0, .int t1, .ref a_this_waves, .ref a_this_partOf] := by
  intro H locs ls hP hD hS hl
  obtain ⟨hx, hb, hr, hml, hown, hts, hlocks, hA, hK, hZ⟩ := id C0
  unfold m_Md_makeWaves_b72 at h
  refine lv_iconst (v := (1 : Int32)) hx hb d_Md_makeWaves_72 (by decide) ?_
  refine lv_iconst (v := (0 : Int32)) hx hb d_Md_makeWaves_73 (by decide) ?_
  obtain ⟨s_waves_13, hcall, h⟩ := bn1_some h
  refine sd_v (wr := [(a_this, .inr (9, [.int s_code, .int s_width, .int s_height, .ref a_this_inside, .ref a_this_values, .ref a_this_partOf, .ref a_this_waves, .int s_isRead, .int s_readWide, .int s_readHigh, .int s_readPlanes, .ref a_this_readInside, .ref a_this_readPart, .ref a_this_readValues, .ref a_this_stream, .int s_streamBits, .ref a_this_zeros, .ref a_this_fed, .int s_fedMany, .ref a_this_pile, .int s_mode, .int s_limit, .int s_count, .ref a_this_open, .ref a_this_sizes, .ref a_this_below])), (a_this_inside, .inl (ar 1, 256, .inl s_inside)), (a_this_pile, .inl (ar 0, 256, .inl s_pile)), (a_this_values, .inl (ar 0, 256, .inl s_values))]) (va_runS (As := [.ref a_this_partOf, .ref a_this_waves, .int t1, .int t0, .int (1 : Int32), .int (0 : Int32)]) (rest := []) ⟨hx, hb, hml, hown, hts⟩ (c_Md_lift a_this_partOf a_this_waves t1 t0 (1 : Int32) (0 : Int32) s_partOf s_waves hcall _) (cw_S 6 hts k_880 k_881 k_40 k_882 rfl rfl (by decide +kernel) ⟨Nat.le_of_ble_eq_true rfl, Nat.le_of_ble_eq_true rfl⟩) (sd_preS hK hP hD hS hA hZ [2, 5] (by decide) rfl) rfl rfl hl.1 rfl (lv_room (Nat.le_of_ble_eq_true rfl)) d_Md_makeWaves_74 ⟨Nat.le_of_ble_eq_true rfl, Nat.le_of_ble_eq_true rfl⟩) hP hD hS hA [2, 5] [0, 1, 3, 4] rfl rfl (by decide) (by decide) (fun H locs hP hD hS => ?_)
  have hP : va_P D vwCl [(a_this, .inr (9, [.int s_code, .int s_width, .int s_height, .ref a_this_inside, .ref a_this_values, .ref a_this_partOf, .ref a_this_waves, .int s_isRead, .int s_readWide, .int s_readHigh, .int s_readPlanes, .ref a_this_readInside, .ref a_this_readPart, .ref a_this_readValues, .ref a_this_stream, .int s_streamBits, .ref a_this_zeros, .ref a_this_fed, .int s_fedMany, .ref a_this_pile, .int s_mode, .int s_limit, .int s_count, .ref a_this_open, .ref a_this_sizes, .ref a_this_below])), (a_this_inside, .inl (ar 1, 256, .inl s_inside)), (a_this_pile, .inl (ar 0, 256, .inl s_pile)), (a_this_values, .inl (ar 0, 256, .inl s_values)), (a_this_partOf, .inl (ar 0, 256, .inl s_partOf)), (a_this_waves, .inl (ar 0, 256, .inl s_waves_13))] H := hP
  have hD : va_D A [(a_this, .inr (9, [.int s_code, .int s_width, .int s_height, .ref a_this_inside, .ref a_this_values, .ref a_this_partOf, .ref a_this_waves, .int s_isRead, .int s_readWide, .int s_readHigh, .int s_readPlanes, .ref a_this_readInside, .ref a_this_readPart, .ref a_this_readValues, .ref a_this_stream, .int s_streamBits, .ref a_this_zeros, .ref a_this_fed, .int s_fedMany, .ref a_this_pile, .int s_mode, .int s_limit, .int s_count, .ref a_this_open, .ref a_this_sizes, .ref a_this_below])), (a_this_inside, .inl (ar 1, 256, .inl s_inside)), (a_this_pile, .inl (ar 0, 256, .inl s_pile)), (a_this_values, .inl (ar 0, 256, .inl s_values)), (a_this_partOf, .inl (ar 0, 256, .inl s_partOf)), (a_this_waves, .inl (ar 0, 256, .inl s_waves_13))] := hD
  refine lv_aload_n hx hb d_Md_makeWaves_77 rfl (lv_at hl 0 rfl) ?_
  refine va_get (D := D) (ci := 9) (v := .ref a_this_partOf) (C := R_Md) (T := F_Md) (N := 26) hx hb hts in_Md hown hK hP 0 rfl rfl 5 (by decide) (hts _ k_774) (fun _ h9 => h9) rfl d_Md_makeWaves_78 ?_
  refine lv_aload_n hx hb d_Md_makeWaves_81 rfl (lv_at hl 0 rfl) ?_
  refine va_get (D := D) (ci := 9) (v := .ref a_this_waves) (C := R_Md) (T := F_Md) (N := 26) hx hb hts in_Md hown hK hP 0 rfl rfl 6 (by decide) (hts _ k_775) (fun _ h9 => h9) rfl d_Md_makeWaves_82 ?_
  refine lv_iload_n hx hb d_Md_makeWaves_85 rfl (lv_at hl 2 rfl) ?_
  refine lv_iload_n hx hb d_Md_makeWaves_86 rfl (lv_at hl 3 rfl) ?_
  refine lv_if_ne (tgt := 94) hx hb d_Md_makeWaves_87 (by decide) (fun c_14 => ?_) (fun c_14 => ?_)
  · have h := Eq.trans (if_neg c_14).symm h
    refine lv_iconst (v := (0 : Int32)) hx hb d_Md_makeWaves_94 (by decide) ?_
    exact w_Md_makeWaves_b95 C0 x1 x2 x3 (0 : Int32) x2 s_inside s_partOf s_pile s_values s_waves_13 _ hrec K1 h _ _ _ (hP.sub [0, 1, 4, 2, 3, 5] rfl) (hD.sub [0, 1, 4, 2, 3, 5] (by decide) rfl) hS hl
  · have h := Eq.trans (if_pos c_14).symm h
    refine lv_iconst (v := (1 : Int32)) hx hb d_Md_makeWaves_90 (by decide) ?_
    refine lv_goto (tgt := 95) hx hb d_Md_makeWaves_91 (by decide) ?_
    exact w_Md_makeWaves_b95 C0 x1 x2 x3 (1 : Int32) x2 s_inside s_partOf s_pile s_values s_waves_13 _ hrec K1 h _ _ _ (hP.sub [0, 1, 4, 2, 3, 5] rfl) (hD.sub [0, 1, 4, 2, 3, 5] (by decide) rfl) hS hl
def m_Md_makeWaves_k49 (fu : Nat) (x1 : Int32) (x2 : Int32) (s_inside : Nat → Int32) (s_partOf : Nat → Int32) (s_pile : Nat → Int32) (s_values : Nat → Int32) (rec : Int32 → (Nat → Int32) → Option (((Nat → Int32)))) (x3 : Int32) (s_waves : Nat → Int32) : Option (((Nat → Int32))) :=
  if (2 : Int32) ≤ x3 then (some s_waves) else (if x3 = (0 : Int32) then (m_Md_makeWaves_b72 fu rec x1 x2 x3 (1 : Int32) x2 s_inside s_partOf s_pile s_values s_waves) else (m_Md_makeWaves_b72 fu rec x1 x2 x3 (0 : Int32) x2 s_inside s_partOf s_pile s_values s_waves))
set_option maxHeartbeats 4000000 in
set_option maxRecDepth 100000 in
theorem w_Md_makeWaves_l49 {p : Program} {l : Launch} {e : Env} {s : State} {m : MethodId} {args : Array Value} {below : List Frame} {meth : Method} {c : Code} {D : va_G} {ar : Nat → ClassId} {A : Nat → Prop} {Q : State → Prop} {fu : Nat} {a_this a_this_inside a_this_values a_this_partOf a_this_waves a_this_readInside a_this_readPart a_this_readValues a_this_stream a_this_zeros a_this_fed a_this_pile a_this_open a_this_sizes a_this_below : Nat} {s_code : Int32} {s_width : Int32} {s_height : Int32} {s_isRead : Int32} {s_readWide : Int32} {s_readHigh : Int32} {s_readPlanes : Int32} {s_streamBits : Int32} {s_fedMany : Int32} {s_mode : Int32} {s_limit : Int32} {s_count : Int32} (C0 : CX p s m meth c args prog_12_method_10_code 4 (some .int) "FreeWaveletsModel" D ar A) (x1 : Int32) (x2 : Int32) (s_inside : Nat → Int32) (s_partOf : Nat → Int32) (s_pile : Nat → Int32) (s_values : Nat → Int32) : ∀ (n : Nat) (x3 : Int32) (s_waves : Nat → Int32) (o_waves : Nat → Int32), loop2 (m_Md_makeWaves_k49 fu x1 x2 s_inside s_partOf s_pile s_values) n x3 s_waves = some o_waves → (WA p l e rm_Md_makeWaves s m args below meth c D A 4 Q 106 [(a_this, .inr (9, [.int s_code, .int s_width, .int s_height, .ref a_this_inside, .ref a_this_values, .ref a_this_partOf, .ref a_this_waves, .int s_isRead, .int s_readWide, .int s_readHigh, .int s_readPlanes, .ref a_this_readInside, .ref a_this_readPart, .ref a_this_readValues, .ref a_this_stream, .int s_streamBits, .ref a_this_zeros, .ref a_this_fed, .int s_fedMany, .ref a_this_pile, .int s_mode, .int s_limit, .int s_count, .ref a_this_open, .ref a_this_sizes, .ref a_this_below])), (a_this_inside, .inl (ar 1, 256, .inl s_inside)), (a_this_partOf, .inl (ar 0, 256, .inl s_partOf)), (a_this_pile, .inl (ar 0, 256, .inl s_pile)), (a_this_values, .inl (ar 0, 256, .inl s_values)), (a_this_waves, .inl (ar 0, 256, .inl o_waves))] [(0, .ref a_this), (1, .int x1), (2, .int x2)] []) → WA p l e rm_Md_makeWaves s m args below meth c D A 4 Q 49 [(a_this, .inr (9, [.int s_code, .int s_width, .int s_height, .ref a_this_inside, .ref a_this_values, .ref a_this_partOf, .ref a_this_waves, .int s_isRead, .int s_readWide, .int s_readHigh, .int s_readPlanes, .ref a_this_readInside, .ref a_this_readPart, .ref a_this_readValues, .ref a_this_stream, .int s_streamBits, .ref a_this_zeros, .ref a_this_fed, .int s_fedMany, .ref a_this_pile, .int s_mode, .int s_limit, .int s_count, .ref a_this_open, .ref a_this_sizes, .ref a_this_below])), (a_this_inside, .inl (ar 1, 256, .inl s_inside)), (a_this_partOf, .inl (ar 0, 256, .inl s_partOf)), (a_this_pile, .inl (ar 0, 256, .inl s_pile)), (a_this_values, .inl (ar 0, 256, .inl s_values)), (a_this_waves, .inl (ar 0, 256, .inl s_waves))] [(0, .ref a_this), (1, .int x1), (2, .int x2), (3, .int x3)] [] := by
  intro n
  induction n with
  | zero => intro x3 s_waves o_waves h; exact (no0 h).elim
  | succ n ih =>
    intro x3 s_waves o_waves h K1
    have hrec : ∀ (x3 : Int32) (s_waves : Nat → Int32), loop2 (m_Md_makeWaves_k49 fu x1 x2 s_inside s_partOf s_pile s_values) n x3 s_waves = some o_waves → WA p l e rm_Md_makeWaves s m args below meth c D A 4 Q 49 [(a_this, .inr (9, [.int s_code, .int s_width, .int s_height, .ref a_this_inside, .ref a_this_values, .ref a_this_partOf, .ref a_this_waves, .int s_isRead, .int s_readWide, .int s_readHigh, .int s_readPlanes, .ref a_this_readInside, .ref a_this_readPart, .ref a_this_readValues, .ref a_this_stream, .int s_streamBits, .ref a_this_zeros, .ref a_this_fed, .int s_fedMany, .ref a_this_pile, .int s_mode, .int s_limit, .int s_count, .ref a_this_open, .ref a_this_sizes, .ref a_this_below])), (a_this_inside, .inl (ar 1, 256, .inl s_inside)), (a_this_partOf, .inl (ar 0, 256, .inl s_partOf)), (a_this_pile, .inl (ar 0, 256, .inl s_pile)), (a_this_values, .inl (ar 0, 256, .inl s_values)), (a_this_waves, .inl (ar 0, 256, .inl s_waves))] [(0, .ref a_this), (1, .int x1), (2, .int x2), (3, .int x3)] [] := fun x3 s_waves h => ih x3 s_waves o_waves h K1
    clear ih
    intro H locs ls hP hD hS hl
    obtain ⟨hx, hb, hr, hml, hown, hts, hlocks, hA, hK, hZ⟩ := id C0
    have h : m_Md_makeWaves_k49 fu x1 x2 s_inside s_partOf s_pile s_values (loop2 (m_Md_makeWaves_k49 fu x1 x2 s_inside s_partOf s_pile s_values) n) x3 s_waves = some o_waves := h
    unfold m_Md_makeWaves_k49 at h
    refine lv_iload_n hx hb d_Md_makeWaves_49 rfl (lv_at hl 3 rfl) ?_
    refine lv_iconst (v := (2 : Int32)) hx hb d_Md_makeWaves_50 (by decide) ?_
    refine lv_icmp_ge (tgt := 106) hx hb d_Md_makeWaves_51 (by decide) (fun c_11 => ?_) (fun c_11 => ?_)
    · have h := Eq.trans (if_pos c_11).symm h
      cases h
      exact K1 _ _ _ hP hD hS (lv_sub hl [0, 1, 2] rfl)
    · have h := Eq.trans (if_neg c_11).symm h
      refine lv_aload_n hx hb d_Md_makeWaves_54 rfl (lv_at hl 0 rfl) ?_
      refine va_get (D := D) (ci := 9) (v := .ref a_this_partOf) (C := R_Md) (T := F_Md) (N := 26) hx hb hts in_Md hown hK hP 0 rfl rfl 5 (by decide) (hts _ k_774) (fun _ h9 => h9) rfl d_Md_makeWaves_55 ?_
      refine lv_aload_n hx hb d_Md_makeWaves_58 rfl (lv_at hl 0 rfl) ?_
      refine va_get (D := D) (ci := 9) (v := .ref a_this_waves) (C := R_Md) (T := F_Md) (N := 26) hx hb hts in_Md hown hK hP 0 rfl rfl 6 (by decide) (hts _ k_775) (fun _ h9 => h9) rfl d_Md_makeWaves_59 ?_
      refine lv_iload_n hx hb d_Md_makeWaves_62 rfl (lv_at hl 2 rfl) ?_
      refine lv_iload_n hx hb d_Md_makeWaves_63 rfl (lv_at hl 3 rfl) ?_
      refine lv_if_ne (tgt := 71) hx hb d_Md_makeWaves_64 (by decide) (fun c_12 => ?_) (fun c_12 => ?_)
      · have h := Eq.trans (if_neg c_12).symm h
        refine lv_iconst (v := (0 : Int32)) hx hb d_Md_makeWaves_71 (by decide) ?_
        exact w_Md_makeWaves_b72 C0 x1 x2 x3 (0 : Int32) x2 s_inside s_partOf s_pile s_values s_waves _ hrec K1 h _ _ _ hP hD hS hl
      · have h := Eq.trans (if_pos c_12).symm h
        refine lv_iconst (v := (1 : Int32)) hx hb d_Md_makeWaves_67 (by decide) ?_
        refine lv_goto (tgt := 72) hx hb d_Md_makeWaves_68 (by decide) ?_
        exact w_Md_makeWaves_b72 C0 x1 x2 x3 (1 : Int32) x2 s_inside s_partOf s_pile s_values s_waves _ hrec K1 h _ _ _ hP hD hS hl
def m_Md_makeWaves_k42 (fu : Nat) (x1 : Int32) (s_inside : Nat → Int32) (s_partOf : Nat → Int32) (s_pile : Nat → Int32) (s_values : Nat → Int32) (rec : Int32 → (Nat → Int32) → Option (((Nat → Int32)))) (x2 : Int32) (s_waves : Nat → Int32) : Option (((Nat → Int32))) :=
  if (5 : Int32) ≤ x2 then (some s_waves) else (bn1 (loop2 (m_Md_makeWaves_k49 fu x1 x2 s_inside s_partOf s_pile s_values) fu (0 : Int32) s_waves) (fun o_waves_17 => letB ((2 : Int32) * x2) (fun x2_18 => rec x2_18 o_waves_17)))
set_option maxHeartbeats 4000000 in
set_option maxRecDepth 100000 in
theorem w_Md_makeWaves_l42 {p : Program} {l : Launch} {e : Env} {s : State} {m : MethodId} {args : Array Value} {below : List Frame} {meth : Method} {c : Code} {D : va_G} {ar : Nat → ClassId} {A : Nat → Prop} {Q : State → Prop} {fu : Nat} {a_this a_this_inside a_this_values a_this_partOf a_this_waves a_this_readInside a_this_readPart a_this_readValues a_this_stream a_this_zeros a_this_fed a_this_pile a_this_open a_this_sizes a_this_below : Nat} {s_code : Int32} {s_width : Int32} {s_height : Int32} {s_isRead : Int32} {s_readWide : Int32} {s_readHigh : Int32} {s_readPlanes : Int32} {s_streamBits : Int32} {s_fedMany : Int32} {s_mode : Int32} {s_limit : Int32} {s_count : Int32} (C0 : CX p s m meth c args prog_12_method_10_code 4 (some .int) "FreeWaveletsModel" D ar A) (x1 : Int32) (s_inside : Nat → Int32) (s_partOf : Nat → Int32) (s_pile : Nat → Int32) (s_values : Nat → Int32) : ∀ (n : Nat) (x2 : Int32) (s_waves : Nat → Int32) (o_waves : Nat → Int32), loop2 (m_Md_makeWaves_k42 fu x1 s_inside s_partOf s_pile s_values) n x2 s_waves = some o_waves → (WA p l e rm_Md_makeWaves s m args below meth c D A 4 Q 113 [(a_this, .inr (9, [.int s_code, .int s_width, .int s_height, .ref a_this_inside, .ref a_this_values, .ref a_this_partOf, .ref a_this_waves, .int s_isRead, .int s_readWide, .int s_readHigh, .int s_readPlanes, .ref a_this_readInside, .ref a_this_readPart, .ref a_this_readValues, .ref a_this_stream, .int s_streamBits, .ref a_this_zeros, .ref a_this_fed, .int s_fedMany, .ref a_this_pile, .int s_mode, .int s_limit, .int s_count, .ref a_this_open, .ref a_this_sizes, .ref a_this_below])), (a_this_inside, .inl (ar 1, 256, .inl s_inside)), (a_this_partOf, .inl (ar 0, 256, .inl s_partOf)), (a_this_pile, .inl (ar 0, 256, .inl s_pile)), (a_this_values, .inl (ar 0, 256, .inl s_values)), (a_this_waves, .inl (ar 0, 256, .inl o_waves))] [(1, .int x1)] []) → WA p l e rm_Md_makeWaves s m args below meth c D A 4 Q 42 [(a_this, .inr (9, [.int s_code, .int s_width, .int s_height, .ref a_this_inside, .ref a_this_values, .ref a_this_partOf, .ref a_this_waves, .int s_isRead, .int s_readWide, .int s_readHigh, .int s_readPlanes, .ref a_this_readInside, .ref a_this_readPart, .ref a_this_readValues, .ref a_this_stream, .int s_streamBits, .ref a_this_zeros, .ref a_this_fed, .int s_fedMany, .ref a_this_pile, .int s_mode, .int s_limit, .int s_count, .ref a_this_open, .ref a_this_sizes, .ref a_this_below])), (a_this_inside, .inl (ar 1, 256, .inl s_inside)), (a_this_partOf, .inl (ar 0, 256, .inl s_partOf)), (a_this_pile, .inl (ar 0, 256, .inl s_pile)), (a_this_values, .inl (ar 0, 256, .inl s_values)), (a_this_waves, .inl (ar 0, 256, .inl s_waves))] [(0, .ref a_this), (1, .int x1), (2, .int x2)] [] := by
  intro n
  induction n with
  | zero => intro x2 s_waves o_waves h; exact (no0 h).elim
  | succ n ih =>
    intro x2 s_waves o_waves h K1
    have hrec : ∀ (x2 : Int32) (s_waves : Nat → Int32), loop2 (m_Md_makeWaves_k42 fu x1 s_inside s_partOf s_pile s_values) n x2 s_waves = some o_waves → WA p l e rm_Md_makeWaves s m args below meth c D A 4 Q 42 [(a_this, .inr (9, [.int s_code, .int s_width, .int s_height, .ref a_this_inside, .ref a_this_values, .ref a_this_partOf, .ref a_this_waves, .int s_isRead, .int s_readWide, .int s_readHigh, .int s_readPlanes, .ref a_this_readInside, .ref a_this_readPart, .ref a_this_readValues, .ref a_this_stream, .int s_streamBits, .ref a_this_zeros, .ref a_this_fed, .int s_fedMany, .ref a_this_pile, .int s_mode, .int s_limit, .int s_count, .ref a_this_open, .ref a_this_sizes, .ref a_this_below])), (a_this_inside, .inl (ar 1, 256, .inl s_inside)), (a_this_partOf, .inl (ar 0, 256, .inl s_partOf)), (a_this_pile, .inl (ar 0, 256, .inl s_pile)), (a_this_values, .inl (ar 0, 256, .inl s_values)), (a_this_waves, .inl (ar 0, 256, .inl s_waves))] [(0, .ref a_this), (1, .int x1), (2, .int x2)] [] := fun x2 s_waves h => ih x2 s_waves o_waves h K1
    clear ih
    intro H locs ls hP hD hS hl
    obtain ⟨hx, hb, hr, hml, hown, hts, hlocks, hA, hK, hZ⟩ := id C0
    have h : m_Md_makeWaves_k42 fu x1 s_inside s_partOf s_pile s_values (loop2 (m_Md_makeWaves_k42 fu x1 s_inside s_partOf s_pile s_values) n) x2 s_waves = some o_waves := h
    unfold m_Md_makeWaves_k42 at h
    refine lv_iload_n hx hb d_Md_makeWaves_42 rfl (lv_at hl 2 rfl) ?_
    refine lv_iconst (v := (5 : Int32)) hx hb d_Md_makeWaves_43 (by decide) ?_
    refine lv_icmp_ge (tgt := 113) hx hb d_Md_makeWaves_44 (by decide) (fun c_10 => ?_) (fun c_10 => ?_)
    · have h := Eq.trans (if_pos c_10).symm h
      cases h
      exact K1 _ _ _ hP hD hS (lv_sub hl [1] rfl)
    · have h := Eq.trans (if_neg c_10).symm h
      refine lv_iconst (v := (0 : Int32)) hx hb d_Md_makeWaves_47 (by decide) ?_
      refine lv_istore_n (lv' := [(3, .int (0 : Int32)), (0, .ref a_this), (1, .int x1), (2, .int x2)]) hx hb d_Md_makeWaves_48 rfl hl (by decide) rfl (fun ls hl => ?_)
      obtain ⟨o_waves_17, hloop, h⟩ := bn1_some h
      refine w_Md_makeWaves_l49 C0 x1 x2 s_inside s_partOf s_pile s_values fu (0 : Int32) s_waves _ hloop ?_ _ _ _ hP hD hS (lv_sub hl [1, 2, 3, 0] rfl)
      clear hP hD hS hl hloop
      intro H locs ls hP hD hS hl
      refine lv_iconst (v := (2 : Int32)) hx hb d_Md_makeWaves_106 (by decide) ?_
      refine lv_iload_n hx hb d_Md_makeWaves_107 rfl (lv_at hl 2 rfl) ?_
      refine lv_imul hx hb d_Md_makeWaves_108 ?_
      refine lv_topi (fun x2_18 e_x2_18 => ?_)
      have h := letB_at e_x2_18 h
      refine lv_istore_n (lv' := [(2, .int x2_18), (0, .ref a_this), (1, .int x1)]) hx hb d_Md_makeWaves_109 rfl hl (by decide) rfl (fun ls hl => ?_)
      refine lv_goto (tgt := 42) hx hb d_Md_makeWaves_110 (by decide) ?_
      exact hrec x2_18 o_waves_17 h _ _ _ hP hD hS (lv_sub hl [1, 2, 0] rfl)
def m_Md_makeWaves (fu : Nat) (s_inside : Nat → Int32) (s_partOf : Nat → Int32) (s_pile : Nat → Int32) (s_values : Nat → Int32) (s_waves : Nat → Int32) : Option (Int32 × (Nat → Int32) × (Nat → Int32) × (Nat → Int32)) :=
  bn3 (m_Md_number fu s_pile s_inside s_partOf) (fun r_1 s_pile_2 s_partOf_3 => bn1 (loop2 (m_Md_makeWaves_k15 fu r_1 s_inside s_partOf_3 s_pile_2 s_values) fu (0 : Int32) s_waves) (fun o_waves_9 => bn1 (loop2 (m_Md_makeWaves_k42 fu r_1 s_inside s_partOf_3 s_pile_2 s_values) fu (1 : Int32) o_waves_9) (fun o_waves_19 => some (r_1, s_partOf_3, s_pile_2, o_waves_19))))
set_option maxHeartbeats 4000000 in
set_option maxRecDepth 100000 in
theorem c_Md_makeWaves {l : Launch} {D : va_G} {ar : Nat → ClassId} {fu : Nat} (a_this a_this_inside a_this_values a_this_partOf a_this_waves a_this_readInside a_this_readPart a_this_readValues a_this_stream a_this_zeros a_this_fed a_this_pile a_this_open a_this_sizes a_this_below : Nat) (s_code : Int32) (s_width : Int32) (s_height : Int32) (s_isRead : Int32) (s_readWide : Int32) (s_readHigh : Int32) (s_readPlanes : Int32) (s_streamBits : Int32) (s_fedMany : Int32) (s_mode : Int32) (s_limit : Int32) (s_count : Int32) (s_inside : Nat → Int32) (s_partOf : Nat → Int32) (s_pile : Nat → Int32) (s_values : Nat → Int32) (s_waves : Nat → Int32) {r_v : Int32} {r_partOf : Nat → Int32} {r_pile : Nat → Int32} {r_waves : Nat → Int32} (h : m_Md_makeWaves fu s_inside s_partOf s_pile s_values s_waves = some (r_v, r_partOf, r_pile, r_waves)) : StdI l y_Md_makeWaves ws_Md_makeWaves rm_Md_makeWaves D ar [.ref a_this] [(a_this, .inr (9, [.int s_code, .int s_width, .int s_height, .ref a_this_inside, .ref a_this_values, .ref a_this_partOf, .ref a_this_waves, .int s_isRead, .int s_readWide, .int s_readHigh, .int s_readPlanes, .ref a_this_readInside, .ref a_this_readPart, .ref a_this_readValues, .ref a_this_stream, .int s_streamBits, .ref a_this_zeros, .ref a_this_fed, .int s_fedMany, .ref a_this_pile, .int s_mode, .int s_limit, .int s_count, .ref a_this_open, .ref a_this_sizes, .ref a_this_below])), (a_this_inside, .inl (ar 1, 256, .inl s_inside)), (a_this_partOf, .inl (ar 0, 256, .inl s_partOf)), (a_this_pile, .inl (ar 0, 256, .inl s_pile)), (a_this_values, .inl (ar 0, 256, .inl s_values)), (a_this_waves, .inl (ar 0, 256, .inl s_waves))] [(a_this, .inr (9, [.int s_code, .int s_width, .int s_height, .ref a_this_inside, .ref a_this_values, .ref a_this_partOf, .ref a_this_waves, .int s_isRead, .int s_readWide, .int s_readHigh, .int s_readPlanes, .ref a_this_readInside, .ref a_this_readPart, .ref a_this_readValues, .ref a_this_stream, .int s_streamBits, .ref a_this_zeros, .ref a_this_fed, .int s_fedMany, .ref a_this_pile, .int s_mode, .int s_limit, .int s_count, .ref a_this_open, .ref a_this_sizes, .ref a_this_below])), (a_this_inside, .inl (ar 1, 256, .inl s_inside)), (a_this_partOf, .inl (ar 0, 256, .inl r_partOf)), (a_this_pile, .inl (ar 0, 256, .inl r_pile)), (a_this_values, .inl (ar 0, 256, .inl s_values)), (a_this_waves, .inl (ar 0, 256, .inl r_waves))] r_v := by
  refine sd_metI (cc := prog_12_method_10_code) (maxL := 4) (ret := (some .int)) (own := "FreeWaveletsModel") (by decide) rfl rfl (Nat.le_of_ble_eq_true rfl) ?_
  intro p e s m below meth c A ls C0 hP hD hl
  obtain ⟨hx, hb, hr, hml, hown, hts, hlocks, hA, hK, hZ⟩ := id C0
  have hS : va_S A s.heap s.heap [] := va_S.rf
  have hl : lv_has ls 4 [(0, .ref a_this)] := hl
  unfold m_Md_makeWaves at h
  refine lv_aload_n hx hb d_Md_makeWaves_0 rfl (lv_at hl 0 rfl) ?_
  refine lv_aload_n hx hb d_Md_makeWaves_1 rfl (lv_at hl 0 rfl) ?_
  refine va_get (D := D) (ci := 9) (v := .ref a_this_inside) (C := R_Md) (T := F_Md) (N := 26) hx hb hts in_Md hown hK hP 0 rfl rfl 3 (by decide) (hts _ k_772) (fun _ h9 => h9) rfl d_Md_makeWaves_2 ?_
  refine lv_aload_n hx hb d_Md_makeWaves_5 rfl (lv_at hl 0 rfl) ?_
  refine va_get (D := D) (ci := 9) (v := .ref a_this_partOf) (C := R_Md) (T := F_Md) (N := 26) hx hb hts in_Md hown hK hP 0 rfl rfl 5 (by decide) (hts _ k_774) (fun _ h9 => h9) rfl d_Md_makeWaves_6 ?_
  obtain ⟨r_1, s_pile_2, s_partOf_3, hcall, h⟩ := bn3_some h
  refine sd_i (wr := [(a_this_values, .inl (ar 0, 256, .inl s_values)), (a_this_waves, .inl (ar 0, 256, .inl s_waves))]) (va_runV (As := [.ref a_this_inside, .ref a_this_partOf]) (rest := []) ⟨hx, hb, hml, hown, hts⟩ (c_Md_number a_this a_this_inside a_this_partOf a_this_inside a_this_values a_this_partOf a_this_waves a_this_readInside a_this_readPart a_this_readValues a_this_stream a_this_zeros a_this_fed a_this_pile a_this_open a_this_sizes a_this_below s_code s_width s_height s_isRead s_readWide s_readHigh s_readPlanes s_streamBits s_fedMany s_mode s_limit s_count s_pile s_inside s_partOf hcall _) (cw_V 2 hts k_873 k_875 k_14 k_40 k_876 rfl rfl (by decide +kernel) ⟨Nat.le_of_ble_eq_true rfl, Nat.le_of_ble_eq_true rfl⟩) (sd_preV hK hP hD hS hA hZ [0, 3, 1, 2] (by decide) rfl (va_recv hK hP (ci := 9) (q0 := 0) rfl rfl)) rfl rfl hl.1 rfl (lv_room (Nat.le_of_ble_eq_true rfl)) d_Md_makeWaves_9 ⟨Nat.le_of_ble_eq_true rfl, Nat.le_of_ble_eq_true rfl⟩) hP hD hS hA [0, 3, 1, 2] [4, 5] rfl rfl (by decide) (by decide) (fun H locs hP hD hS => ?_)
  have hP : va_P D vwCl [(a_this_values, .inl (ar 0, 256, .inl s_values)), (a_this_waves, .inl (ar 0, 256, .inl s_waves)), (a_this, .inr (9, [.int s_code, .int s_width, .int s_height, .ref a_this_inside, .ref a_this_values, .ref a_this_partOf, .ref a_this_waves, .int s_isRead, .int s_readWide, .int s_readHigh, .int s_readPlanes, .ref a_this_readInside, .ref a_this_readPart, .ref a_this_readValues, .ref a_this_stream, .int s_streamBits, .ref a_this_zeros, .ref a_this_fed, .int s_fedMany, .ref a_this_pile, .int s_mode, .int s_limit, .int s_count, .ref a_this_open, .ref a_this_sizes, .ref a_this_below])), (a_this_pile, .inl (ar 0, 256, .inl s_pile_2)), (a_this_inside, .inl (ar 1, 256, .inl s_inside)), (a_this_partOf, .inl (ar 0, 256, .inl s_partOf_3))] H := hP
  have hD : va_D A [(a_this_values, .inl (ar 0, 256, .inl s_values)), (a_this_waves, .inl (ar 0, 256, .inl s_waves)), (a_this, .inr (9, [.int s_code, .int s_width, .int s_height, .ref a_this_inside, .ref a_this_values, .ref a_this_partOf, .ref a_this_waves, .int s_isRead, .int s_readWide, .int s_readHigh, .int s_readPlanes, .ref a_this_readInside, .ref a_this_readPart, .ref a_this_readValues, .ref a_this_stream, .int s_streamBits, .ref a_this_zeros, .ref a_this_fed, .int s_fedMany, .ref a_this_pile, .int s_mode, .int s_limit, .int s_count, .ref a_this_open, .ref a_this_sizes, .ref a_this_below])), (a_this_pile, .inl (ar 0, 256, .inl s_pile_2)), (a_this_inside, .inl (ar 1, 256, .inl s_inside)), (a_this_partOf, .inl (ar 0, 256, .inl s_partOf_3))] := hD
  refine lv_istore_n (lv' := [(1, .int r_1), (0, .ref a_this)]) hx hb d_Md_makeWaves_12 rfl hl (by decide) rfl (fun ls hl => ?_)
  refine lv_iconst (v := (0 : Int32)) hx hb d_Md_makeWaves_13 (by decide) ?_
  refine lv_istore_n (lv' := [(2, .int (0 : Int32)), (1, .int r_1), (0, .ref a_this)]) hx hb d_Md_makeWaves_14 rfl hl (by decide) rfl (fun ls hl => ?_)
  obtain ⟨o_waves_9, hloop, h⟩ := bn1_some h
  refine w_Md_makeWaves_l15 C0 r_1 s_inside s_partOf_3 s_pile_2 s_values fu (0 : Int32) s_waves _ hloop ?_ _ _ _ (hP.sub [2, 4, 5, 3, 0, 1] rfl) (hD.sub [2, 4, 5, 3, 0, 1] (by decide) rfl) hS (lv_sub hl [2, 1, 0] rfl)
  clear hP hD hS hl hloop
  intro H locs ls hP hD hS hl
  refine lv_iconst (v := (1 : Int32)) hx hb d_Md_makeWaves_40 (by decide) ?_
  refine lv_istore_n (lv' := [(2, .int (1 : Int32)), (0, .ref a_this), (1, .int r_1)]) hx hb d_Md_makeWaves_41 rfl hl (by decide) rfl (fun ls hl => ?_)
  obtain ⟨o_waves_19, hloop, h⟩ := bn1_some h
  refine w_Md_makeWaves_l42 C0 r_1 s_inside s_partOf_3 s_pile_2 s_values fu (1 : Int32) o_waves_9 _ hloop ?_ _ _ _ hP hD hS (lv_sub hl [1, 2, 0] rfl)
  clear hP hD hS hl hloop
  intro H locs ls hP hD hS hl
  refine lv_iload_n hx hb d_Md_makeWaves_113 rfl (lv_at hl 0 rfl) ?_
  cases h
  exact sd_iret hx hb hr hlocks hP hD hK hS d_Md_makeWaves_114
abbrev rm_Md_wave : Room := { frames := 3, cells := 0, slots := 0, locals := 82 }
def m_Md_wave_b52 (fu : Nat) (t0 : Int32) (s_code : Int32) (s_height : Int32) (s_width : Int32) (s_inside : Nat → Int32) (s_partOf : Nat → Int32) (s_pile : Nat → Int32) (s_values : Nat → Int32) (s_waves : Nat → Int32) : Option (Int32 × Int32 × (Nat → Int32) × (Nat → Int32) × (Nat → Int32)) :=
  some (t0, s_code, s_partOf, s_pile, s_waves)
set_option maxHeartbeats 4000000 in
set_option maxRecDepth 100000 in
theorem w_Md_wave_b52 {p : Program} {l : Launch} {e : Env} {s : State} {m : MethodId} {args : Array Value} {below : List Frame} {meth : Method} {c : Code} {D : va_G} {ar : Nat → ClassId} {A : Nat → Prop} {fu : Nat} {a_this a_this_inside a_this_values a_this_partOf a_this_waves a_this_readInside a_this_readPart a_this_readValues a_this_stream a_this_zeros a_this_fed a_this_pile a_this_open a_this_sizes a_this_below : Nat} {s_isRead : Int32} {s_readWide : Int32} {s_readHigh : Int32} {s_readPlanes : Int32} {s_streamBits : Int32} {s_fedMany : Int32} {s_mode : Int32} {s_limit : Int32} {s_count : Int32} {r_v : Int32} {r_code : Int32} {r_partOf : Nat → Int32} {r_pile : Nat → Int32} {r_waves : Nat → Int32} (C0 : CX p s m meth c args prog_12_method_12_code 4 (some .int) "FreeWaveletsModel" D ar A) (t0 : Int32) (s_code : Int32) (s_height : Int32) (s_width : Int32) (s_inside : Nat → Int32) (s_partOf : Nat → Int32) (s_pile : Nat → Int32) (s_values : Nat → Int32) (s_waves : Nat → Int32) (h : m_Md_wave_b52 fu t0 s_code s_height s_width s_inside s_partOf s_pile s_values s_waves = some (r_v, r_code, r_partOf, r_pile, r_waves)) : WA p l e rm_Md_wave s m args below meth c D A 4 (MQ below (QI D ar [(a_this, .inr (9, [.int r_code, .int s_width, .int s_height, .ref a_this_inside, .ref a_this_values, .ref a_this_partOf, .ref a_this_waves, .int s_isRead, .int s_readWide, .int s_readHigh, .int s_readPlanes, .ref a_this_readInside, .ref a_this_readPart, .ref a_this_readValues, .ref a_this_stream, .int s_streamBits, .ref a_this_zeros, .ref a_this_fed, .int s_fedMany, .ref a_this_pile, .int s_mode, .int s_limit, .int s_count, .ref a_this_open, .ref a_this_sizes, .ref a_this_below])), (a_this_inside, .inl (ar 1, 256, .inl s_inside)), (a_this_partOf, .inl (ar 0, 256, .inl r_partOf)), (a_this_pile, .inl (ar 0, 256, .inl r_pile)), (a_this_values, .inl (ar 0, 256, .inl s_values)), (a_this_waves, .inl (ar 0, 256, .inl r_waves))] r_v A) args s 0 0 A) 52 [(a_this, .inr (9, [.int s_code, .int s_width, .int s_height, .ref a_this_inside, .ref a_this_values, .ref a_this_partOf, .ref a_this_waves, .int s_isRead, .int s_readWide, .int s_readHigh, .int s_readPlanes, .ref a_this_readInside, .ref a_this_readPart, .ref a_this_readValues, .ref a_this_stream, .int s_streamBits, .ref a_this_zeros, .ref a_this_fed, .int s_fedMany, .ref a_this_pile, .int s_mode, .int s_limit, .int s_count, .ref a_this_open, .ref a_this_sizes, .ref a_this_below])), (a_this_inside, .inl (ar 1, 256, .inl s_inside)), (a_this_partOf, .inl (ar 0, 256, .inl s_partOf)), (a_this_pile, .inl (ar 0, 256, .inl s_pile)), (a_this_values, .inl (ar 0, 256, .inl s_values)), (a_this_waves, .inl (ar 0, 256, .inl s_waves))] [] [.int t0] := by
  intro H locs ls hP hD hS hl
  obtain ⟨hx, hb, hr, hml, hown, hts, hlocks, hA, hK, hZ⟩ := id C0
  unfold m_Md_wave_b52 at h
  cases h
  exact sd_iret hx hb hr hlocks hP hD hK hS d_Md_wave_52
def m_Md_wave_b39 (fu : Nat) (s_code : Int32) (s_height : Int32) (s_width : Int32) (s_inside : Nat → Int32) (s_partOf : Nat → Int32) (s_pile : Nat → Int32) (s_values : Nat → Int32) (s_waves : Nat → Int32) : Option (Int32 × Int32 × (Nat → Int32) × (Nat → Int32) × (Nat → Int32)) :=
  if s_code ≤ (0 : Int32) then (m_Md_wave_b52 fu (100000 : Int32) s_code s_height s_width s_inside s_partOf s_pile s_values s_waves) else (m_Md_wave_b52 fu (0 : Int32) s_code s_height s_width s_inside s_partOf s_pile s_values s_waves)
set_option maxHeartbeats 4000000 in
set_option maxRecDepth 100000 in
theorem w_Md_wave_b39 {p : Program} {l : Launch} {e : Env} {s : State} {m : MethodId} {args : Array Value} {below : List Frame} {meth : Method} {c : Code} {D : va_G} {ar : Nat → ClassId} {A : Nat → Prop} {fu : Nat} {a_this a_this_inside a_this_values a_this_partOf a_this_waves a_this_readInside a_this_readPart a_this_readValues a_this_stream a_this_zeros a_this_fed a_this_pile a_this_open a_this_sizes a_this_below : Nat} {s_isRead : Int32} {s_readWide : Int32} {s_readHigh : Int32} {s_readPlanes : Int32} {s_streamBits : Int32} {s_fedMany : Int32} {s_mode : Int32} {s_limit : Int32} {s_count : Int32} {r_v : Int32} {r_code : Int32} {r_partOf : Nat → Int32} {r_pile : Nat → Int32} {r_waves : Nat → Int32} (C0 : CX p s m meth c args prog_12_method_12_code 4 (some .int) "FreeWaveletsModel" D ar A) (s_code : Int32) (s_height : Int32) (s_width : Int32) (s_inside : Nat → Int32) (s_partOf : Nat → Int32) (s_pile : Nat → Int32) (s_values : Nat → Int32) (s_waves : Nat → Int32) (h : m_Md_wave_b39 fu s_code s_height s_width s_inside s_partOf s_pile s_values s_waves = some (r_v, r_code, r_partOf, r_pile, r_waves)) : WA p l e rm_Md_wave s m args below meth c D A 4 (MQ below (QI D ar [(a_this, .inr (9, [.int r_code, .int s_width, .int s_height, .ref a_this_inside, .ref a_this_values, .ref a_this_partOf, .ref a_this_waves, .int s_isRead, .int s_readWide, .int s_readHigh, .int s_readPlanes, .ref a_this_readInside, .ref a_this_readPart, .ref a_this_readValues, .ref a_this_stream, .int s_streamBits, .ref a_this_zeros, .ref a_this_fed, .int s_fedMany, .ref a_this_pile, .int s_mode, .int s_limit, .int s_count, .ref a_this_open, .ref a_this_sizes, .ref a_this_below])), (a_this_inside, .inl (ar 1, 256, .inl s_inside)), (a_this_partOf, .inl (ar 0, 256, .inl r_partOf)), (a_this_pile, .inl (ar 0, 256, .inl r_pile)), (a_this_values, .inl (ar 0, 256, .inl s_values)), (a_this_waves, .inl (ar 0, 256, .inl r_waves))] r_v A) args s 0 0 A) 39 [(a_this, .inr (9, [.int s_code, .int s_width, .int s_height, .ref a_this_inside, .ref a_this_values, .ref a_this_partOf, .ref a_this_waves, .int s_isRead, .int s_readWide, .int s_readHigh, .int s_readPlanes, .ref a_this_readInside, .ref a_this_readPart, .ref a_this_readValues, .ref a_this_stream, .int s_streamBits, .ref a_this_zeros, .ref a_this_fed, .int s_fedMany, .ref a_this_pile, .int s_mode, .int s_limit, .int s_count, .ref a_this_open, .ref a_this_sizes, .ref a_this_below])), (a_this_inside, .inl (ar 1, 256, .inl s_inside)), (a_this_partOf, .inl (ar 0, 256, .inl s_partOf)), (a_this_pile, .inl (ar 0, 256, .inl s_pile)), (a_this_values, .inl (ar 0, 256, .inl s_values)), (a_this_waves, .inl (ar 0, 256, .inl s_waves))] [(0, .ref a_this)] [] := by
  intro H locs ls hP hD hS hl
  obtain ⟨hx, hb, hr, hml, hown, hts, hlocks, hA, hK, hZ⟩ := id C0
  unfold m_Md_wave_b39 at h
  refine lv_aload_n hx hb d_Md_wave_39 rfl (lv_at hl 0 rfl) ?_
  refine va_get (D := D) (ci := 9) (v := .int s_code) (C := R_Md) (T := F_Md) (N := 26) hx hb hts in_Md hown hK hP 0 rfl rfl 0 (by decide) (hts _ k_769) (fun _ h9 => h9) rfl d_Md_wave_40 ?_
  refine lv_if_le (tgt := 50) hx hb d_Md_wave_43 (by decide) (fun c_4 => ?_) (fun c_4 => ?_)
  · have h := Eq.trans (if_pos c_4).symm h
    refine lv_ldc (v := (100000 : Int32)) hx hb hown (hts _ k_868) d_Md_wave_50 ?_
    exact w_Md_wave_b52 C0 (100000 : Int32) s_code s_height s_width s_inside s_partOf s_pile s_values s_waves h _ _ _ hP hD hS (lv_sub hl [] rfl)
  · have h := Eq.trans (if_neg c_4).symm h
    refine lv_iconst (v := (0 : Int32)) hx hb d_Md_wave_46 (by decide) ?_
    refine lv_goto (tgt := 52) hx hb d_Md_wave_47 (by decide) ?_
    exact w_Md_wave_b52 C0 (0 : Int32) s_code s_height s_width s_inside s_partOf s_pile s_values s_waves h _ _ _ hP hD hS (lv_sub hl [] rfl)
def m_Md_wave_b15 (fu : Nat) (x1 : Int32) (x2 : Int32) (t0 : Int32) (s_code : Int32) (s_height : Int32) (s_width : Int32) (s_inside : Nat → Int32) (s_partOf : Nat → Int32) (s_pile : Nat → Int32) (s_values : Nat → Int32) (s_waves : Nat → Int32) : Option (Int32 × Int32 × (Nat → Int32) × (Nat → Int32) × (Nat → Int32)) :=
  if (0 : Int32) < t0 then (m_Md_wave_b39 fu t0 s_height s_width s_inside s_partOf s_pile s_values s_waves) else (chk (((16 : Int32) * x2) + x1) 256 (if (s_inside (((16 : Int32) * x2) + x1).toNatClampNeg) = (0 : Int32) then (m_Md_wave_b39 fu t0 s_height s_width s_inside s_partOf s_pile s_values s_waves) else (bn4 (m_Md_makeWaves fu s_inside s_partOf s_pile s_values s_waves) (fun r_7 s_partOf_8 s_pile_9 s_waves_10 => chk (((16 : Int32) * x2) + x1) 256 (some (s_waves_10 (((16 : Int32) * x2) + x1).toNatClampNeg, t0, s_partOf_8, s_pile_9, s_waves_10))))))
set_option maxHeartbeats 4000000 in
set_option maxRecDepth 100000 in
theorem w_Md_wave_b15 {p : Program} {l : Launch} {e : Env} {s : State} {m : MethodId} {args : Array Value} {below : List Frame} {meth : Method} {c : Code} {D : va_G} {ar : Nat → ClassId} {A : Nat → Prop} {fu : Nat} {a_this a_this_inside a_this_values a_this_partOf a_this_waves a_this_readInside a_this_readPart a_this_readValues a_this_stream a_this_zeros a_this_fed a_this_pile a_this_open a_this_sizes a_this_below : Nat} {s_isRead : Int32} {s_readWide : Int32} {s_readHigh : Int32} {s_readPlanes : Int32} {s_streamBits : Int32} {s_fedMany : Int32} {s_mode : Int32} {s_limit : Int32} {s_count : Int32} {r_v : Int32} {r_code : Int32} {r_partOf : Nat → Int32} {r_pile : Nat → Int32} {r_waves : Nat → Int32} (C0 : CX p s m meth c args prog_12_method_12_code 4 (some .int) "FreeWaveletsModel" D ar A) (x1 : Int32) (x2 : Int32) (t0 : Int32) (s_code : Int32) (s_height : Int32) (s_width : Int32) (s_inside : Nat → Int32) (s_partOf : Nat → Int32) (s_pile : Nat → Int32) (s_values : Nat → Int32) (s_waves : Nat → Int32) (h : m_Md_wave_b15 fu x1 x2 t0 s_code s_height s_width s_inside s_partOf s_pile s_values s_waves = some (r_v, r_code, r_partOf, r_pile, r_waves)) : WA p l e rm_Md_wave s m args below meth c D A 4 (MQ below (QI D ar [(a_this, .inr (9, [.int r_code, .int s_width, .int s_height, .ref a_this_inside, .ref a_this_values, .ref a_this_partOf, .ref a_this_waves, .int s_isRead, .int s_readWide, .int s_readHigh, .int s_readPlanes, .ref a_this_readInside, .ref a_this_readPart, .ref a_this_readValues, .ref a_this_stream, .int s_streamBits, .ref a_this_zeros, .ref a_this_fed, .int s_fedMany, .ref a_this_pile, .int s_mode, .int s_limit, .int s_count, .ref a_this_open, .ref a_this_sizes, .ref a_this_below])), (a_this_inside, .inl (ar 1, 256, .inl s_inside)), (a_this_partOf, .inl (ar 0, 256, .inl r_partOf)), (a_this_pile, .inl (ar 0, 256, .inl r_pile)), (a_this_values, .inl (ar 0, 256, .inl s_values)), (a_this_waves, .inl (ar 0, 256, .inl r_waves))] r_v A) args s 0 0 A) 15 [(a_this, .inr (9, [.int s_code, .int s_width, .int s_height, .ref a_this_inside, .ref a_this_values, .ref a_this_partOf, .ref a_this_waves, .int s_isRead, .int s_readWide, .int s_readHigh, .int s_readPlanes, .ref a_this_readInside, .ref a_this_readPart, .ref a_this_readValues, .ref a_this_stream, .int s_streamBits, .ref a_this_zeros, .ref a_this_fed, .int s_fedMany, .ref a_this_pile, .int s_mode, .int s_limit, .int s_count, .ref a_this_open, .ref a_this_sizes, .ref a_this_below])), (a_this_inside, .inl (ar 1, 256, .inl s_inside)), (a_this_partOf, .inl (ar 0, 256, .inl s_partOf)), (a_this_pile, .inl (ar 0, 256, .inl s_pile)), (a_this_values, .inl (ar 0, 256, .inl s_values)), (a_this_waves, .inl (ar 0, 256, .inl s_waves))] [(0, .ref a_this), (1, .int x1), (2, .int x2)] [.int t0, .ref a_this] := by
  intro H locs ls hP hD hS hl
  obtain ⟨hx, hb, hr, hml, hown, hts, hlocks, hA, hK, hZ⟩ := id C0
  unfold m_Md_wave_b15 at h
  refine va_put (D := D) (ci := 9) (v := .int t0) (ty := .int) (C := R_Md) (T := F_Md) (N := 26) hx hb hts in_Md t_Md t_Md_ok n_Md hown hK hP hD hS 0 rfl rfl 0 (by decide) (hts _ k_769) (fun _ h9 => h9) rfl (by decide +kernel) rfl rfl (Nat.le_of_ble_eq_true rfl) d_Md_wave_15 (fun H locs hP hD hS => ?_)
  have hP : va_P D vwCl [(a_this, .inr (9, [.int t0, .int s_width, .int s_height, .ref a_this_inside, .ref a_this_values, .ref a_this_partOf, .ref a_this_waves, .int s_isRead, .int s_readWide, .int s_readHigh, .int s_readPlanes, .ref a_this_readInside, .ref a_this_readPart, .ref a_this_readValues, .ref a_this_stream, .int s_streamBits, .ref a_this_zeros, .ref a_this_fed, .int s_fedMany, .ref a_this_pile, .int s_mode, .int s_limit, .int s_count, .ref a_this_open, .ref a_this_sizes, .ref a_this_below])), (a_this_inside, .inl (ar 1, 256, .inl s_inside)), (a_this_partOf, .inl (ar 0, 256, .inl s_partOf)), (a_this_pile, .inl (ar 0, 256, .inl s_pile)), (a_this_values, .inl (ar 0, 256, .inl s_values)), (a_this_waves, .inl (ar 0, 256, .inl s_waves))] H := hP
  have hD : va_D A [(a_this, .inr (9, [.int t0, .int s_width, .int s_height, .ref a_this_inside, .ref a_this_values, .ref a_this_partOf, .ref a_this_waves, .int s_isRead, .int s_readWide, .int s_readHigh, .int s_readPlanes, .ref a_this_readInside, .ref a_this_readPart, .ref a_this_readValues, .ref a_this_stream, .int s_streamBits, .ref a_this_zeros, .ref a_this_fed, .int s_fedMany, .ref a_this_pile, .int s_mode, .int s_limit, .int s_count, .ref a_this_open, .ref a_this_sizes, .ref a_this_below])), (a_this_inside, .inl (ar 1, 256, .inl s_inside)), (a_this_partOf, .inl (ar 0, 256, .inl s_partOf)), (a_this_pile, .inl (ar 0, 256, .inl s_pile)), (a_this_values, .inl (ar 0, 256, .inl s_values)), (a_this_waves, .inl (ar 0, 256, .inl s_waves))] := hD
  refine lv_aload_n hx hb d_Md_wave_18 rfl (lv_at hl 0 rfl) ?_
  refine va_get (D := D) (ci := 9) (v := .int t0) (C := R_Md) (T := F_Md) (N := 26) hx hb hts in_Md hown hK hP 0 rfl rfl 0 (by decide) (hts _ k_769) (fun _ h9 => h9) rfl d_Md_wave_19 ?_
  refine lv_if_gt (tgt := 39) hx hb d_Md_wave_22 (by decide) (fun c_3 => ?_) (fun c_3 => ?_)
  · have h := Eq.trans (if_pos c_3).symm h
    exact w_Md_wave_b39 C0 t0 s_height s_width s_inside s_partOf s_pile s_values s_waves h _ _ _ hP hD hS (lv_sub hl [0] rfl)
  · have h := Eq.trans (if_neg c_3).symm h
    refine lv_aload_n hx hb d_Md_wave_25 rfl (lv_at hl 0 rfl) ?_
    refine va_get (D := D) (ci := 9) (v := .ref a_this_inside) (C := R_Md) (T := F_Md) (N := 26) hx hb hts in_Md hown hK hP 0 rfl rfl 3 (by decide) (hts _ k_772) (fun _ h9 => h9) rfl d_Md_wave_26 ?_
    refine lv_bipush (v := (16 : Int32)) hx hb d_Md_wave_29 (by decide) ?_
    refine lv_iload_n hx hb d_Md_wave_31 rfl (lv_at hl 2 rfl) ?_
    refine lv_imul hx hb d_Md_wave_32 ?_
    refine lv_iload_n hx hb d_Md_wave_33 rfl (lv_at hl 1 rfl) ?_
    refine lv_iadd hx hb d_Md_wave_34 ?_
    obtain ⟨b_5, h⟩ := chk_some h
    refine va_zald hx hb hK hP 1 1 rfl rfl b_5 d_Md_wave_35 ?_
    refine lv_if_ne (tgt := 53) hx hb d_Md_wave_36 (by decide) (fun c_6 => ?_) (fun c_6 => ?_)
    · have h := Eq.trans (if_neg c_6).symm h
      refine lv_aload_n hx hb d_Md_wave_53 rfl (lv_at hl 0 rfl) ?_
      obtain ⟨r_7, s_partOf_8, s_pile_9, s_waves_10, hcall, h⟩ := bn4_some h
      refine sd_i (wr := []) (va_runV (As := []) (rest := []) ⟨hx, hb, hml, hown, hts⟩ (c_Md_makeWaves a_this a_this_inside a_this_values a_this_partOf a_this_waves a_this_readInside a_this_readPart a_this_readValues a_this_stream a_this_zeros a_this_fed a_this_pile a_this_open a_this_sizes a_this_below t0 s_width s_height s_isRead s_readWide s_readHigh s_readPlanes s_streamBits s_fedMany s_mode s_limit s_count s_inside s_partOf s_pile s_values s_waves hcall _) (cw_V 0 hts k_869 k_871 k_13 k_40 k_872 rfl rfl (by decide +kernel) ⟨Nat.le_of_ble_eq_true rfl, Nat.le_of_ble_eq_true rfl⟩) (sd_preV hK hP hD hS hA hZ [0, 1, 2, 3, 4, 5] (by decide) rfl (va_recv hK hP (ci := 9) (q0 := 0) rfl rfl)) rfl rfl hl.1 rfl (lv_room (Nat.le_of_ble_eq_true rfl)) d_Md_wave_54 ⟨Nat.le_of_ble_eq_true rfl, Nat.le_of_ble_eq_true rfl⟩) hP hD hS hA [0, 1, 2, 3, 4, 5] [] rfl rfl (by decide) (by decide) (fun H locs hP hD hS => ?_)
      have hP : va_P D vwCl [(a_this, .inr (9, [.int t0, .int s_width, .int s_height, .ref a_this_inside, .ref a_this_values, .ref a_this_partOf, .ref a_this_waves, .int s_isRead, .int s_readWide, .int s_readHigh, .int s_readPlanes, .ref a_this_readInside, .ref a_this_readPart, .ref a_this_readValues, .ref a_this_stream, .int s_streamBits, .ref a_this_zeros, .ref a_this_fed, .int s_fedMany, .ref a_this_pile, .int s_mode, .int s_limit, .int s_count, .ref a_this_open, .ref a_this_sizes, .ref a_this_below])), (a_this_inside, .inl (ar 1, 256, .inl s_inside)), (a_this_partOf, .inl (ar 0, 256, .inl s_partOf_8)), (a_this_pile, .inl (ar 0, 256, .inl s_pile_9)), (a_this_values, .inl (ar 0, 256, .inl s_values)), (a_this_waves, .inl (ar 0, 256, .inl s_waves_10))] H := hP
      have hD : va_D A [(a_this, .inr (9, [.int t0, .int s_width, .int s_height, .ref a_this_inside, .ref a_this_values, .ref a_this_partOf, .ref a_this_waves, .int s_isRead, .int s_readWide, .int s_readHigh, .int s_readPlanes, .ref a_this_readInside, .ref a_this_readPart, .ref a_this_readValues, .ref a_this_stream, .int s_streamBits, .ref a_this_zeros, .ref a_this_fed, .int s_fedMany, .ref a_this_pile, .int s_mode, .int s_limit, .int s_count, .ref a_this_open, .ref a_this_sizes, .ref a_this_below])), (a_this_inside, .inl (ar 1, 256, .inl s_inside)), (a_this_partOf, .inl (ar 0, 256, .inl s_partOf_8)), (a_this_pile, .inl (ar 0, 256, .inl s_pile_9)), (a_this_values, .inl (ar 0, 256, .inl s_values)), (a_this_waves, .inl (ar 0, 256, .inl s_waves_10))] := hD
      refine lv_istore_n (lv' := [(3, .int r_7), (0, .ref a_this), (1, .int x1), (2, .int x2)]) hx hb d_Md_wave_57 rfl hl (by decide) rfl (fun ls hl => ?_)
      refine lv_aload_n hx hb d_Md_wave_58 rfl (lv_at hl 1 rfl) ?_
      refine va_get (D := D) (ci := 9) (v := .ref a_this_waves) (C := R_Md) (T := F_Md) (N := 26) hx hb hts in_Md hown hK hP 0 rfl rfl 6 (by decide) (hts _ k_775) (fun _ h9 => h9) rfl d_Md_wave_59 ?_
      refine lv_bipush (v := (16 : Int32)) hx hb d_Md_wave_62 (by decide) ?_
      refine lv_iload_n hx hb d_Md_wave_64 rfl (lv_at hl 3 rfl) ?_
      refine lv_imul hx hb d_Md_wave_65 ?_
      refine lv_iload_n hx hb d_Md_wave_66 rfl (lv_at hl 2 rfl) ?_
      refine lv_iadd hx hb d_Md_wave_67 ?_
      obtain ⟨b_11, h⟩ := chk_some h
      refine va_iald hx hb hK hP 5 0 rfl rfl b_11 d_Md_wave_68 ?_
      cases h
      exact sd_iret hx hb hr hlocks hP hD hK hS d_Md_wave_69
    · have h := Eq.trans (if_pos c_6).symm h
      exact w_Md_wave_b39 C0 t0 s_height s_width s_inside s_partOf s_pile s_values s_waves h _ _ _ hP hD hS (lv_sub hl [0] rfl)
def m_Md_wave (fu : Nat) (x1 : Int32) (x2 : Int32) (s_code : Int32) (s_height : Int32) (s_width : Int32) (s_inside : Nat → Int32) (s_partOf : Nat → Int32) (s_pile : Nat → Int32) (s_values : Nat → Int32) (s_waves : Nat → Int32) : Option (Int32 × Int32 × (Nat → Int32) × (Nat → Int32) × (Nat → Int32)) :=
  bn1 (m_Md_isSample fu x1 x2 s_height s_width) (fun r_1 => if r_1 = (0 : Int32) then (m_Md_wave_b15 fu x1 x2 (1 : Int32) s_code s_height s_width s_inside s_partOf s_pile s_values s_waves) else (m_Md_wave_b15 fu x1 x2 (0 : Int32) s_code s_height s_width s_inside s_partOf s_pile s_values s_waves))
set_option maxHeartbeats 4000000 in
set_option maxRecDepth 100000 in
theorem c_Md_wave {l : Launch} {D : va_G} {ar : Nat → ClassId} {fu : Nat} (a_this a_this_inside a_this_values a_this_partOf a_this_waves a_this_readInside a_this_readPart a_this_readValues a_this_stream a_this_zeros a_this_fed a_this_pile a_this_open a_this_sizes a_this_below : Nat) (s_isRead : Int32) (s_readWide : Int32) (s_readHigh : Int32) (s_readPlanes : Int32) (s_streamBits : Int32) (s_fedMany : Int32) (s_mode : Int32) (s_limit : Int32) (s_count : Int32) (x1 : Int32) (x2 : Int32) (s_code : Int32) (s_height : Int32) (s_width : Int32) (s_inside : Nat → Int32) (s_partOf : Nat → Int32) (s_pile : Nat → Int32) (s_values : Nat → Int32) (s_waves : Nat → Int32) {r_v : Int32} {r_code : Int32} {r_partOf : Nat → Int32} {r_pile : Nat → Int32} {r_waves : Nat → Int32} (h : m_Md_wave fu x1 x2 s_code s_height s_width s_inside s_partOf s_pile s_values s_waves = some (r_v, r_code, r_partOf, r_pile, r_waves)) : StdI l y_Md_wave ws_Md_wave rm_Md_wave D ar [.ref a_this, .int x1, .int x2] [(a_this, .inr (9, [.int s_code, .int s_width, .int s_height, .ref a_this_inside, .ref a_this_values, .ref a_this_partOf, .ref a_this_waves, .int s_isRead, .int s_readWide, .int s_readHigh, .int s_readPlanes, .ref a_this_readInside, .ref a_this_readPart, .ref a_this_readValues, .ref a_this_stream, .int s_streamBits, .ref a_this_zeros, .ref a_this_fed, .int s_fedMany, .ref a_this_pile, .int s_mode, .int s_limit, .int s_count, .ref a_this_open, .ref a_this_sizes, .ref a_this_below])), (a_this_inside, .inl (ar 1, 256, .inl s_inside)), (a_this_partOf, .inl (ar 0, 256, .inl s_partOf)), (a_this_pile, .inl (ar 0, 256, .inl s_pile)), (a_this_values, .inl (ar 0, 256, .inl s_values)), (a_this_waves, .inl (ar 0, 256, .inl s_waves))] [(a_this, .inr (9, [.int r_code, .int s_width, .int s_height, .ref a_this_inside, .ref a_this_values, .ref a_this_partOf, .ref a_this_waves, .int s_isRead, .int s_readWide, .int s_readHigh, .int s_readPlanes, .ref a_this_readInside, .ref a_this_readPart, .ref a_this_readValues, .ref a_this_stream, .int s_streamBits, .ref a_this_zeros, .ref a_this_fed, .int s_fedMany, .ref a_this_pile, .int s_mode, .int s_limit, .int s_count, .ref a_this_open, .ref a_this_sizes, .ref a_this_below])), (a_this_inside, .inl (ar 1, 256, .inl s_inside)), (a_this_partOf, .inl (ar 0, 256, .inl r_partOf)), (a_this_pile, .inl (ar 0, 256, .inl r_pile)), (a_this_values, .inl (ar 0, 256, .inl s_values)), (a_this_waves, .inl (ar 0, 256, .inl r_waves))] r_v := by
  refine sd_metI (cc := prog_12_method_12_code) (maxL := 4) (ret := (some .int)) (own := "FreeWaveletsModel") (by decide) rfl rfl (Nat.le_of_ble_eq_true rfl) ?_
  intro p e s m below meth c A ls C0 hP hD hl
  obtain ⟨hx, hb, hr, hml, hown, hts, hlocks, hA, hK, hZ⟩ := id C0
  have hS : va_S A s.heap s.heap [] := va_S.rf
  have hl : lv_has ls 4 [(0, .ref a_this), (1, .int x1), (2, .int x2)] := hl
  unfold m_Md_wave at h
  refine lv_aload_n hx hb d_Md_wave_0 rfl (lv_at hl 0 rfl) ?_
  refine lv_aload_n hx hb d_Md_wave_1 rfl (lv_at hl 0 rfl) ?_
  refine lv_iload_n hx hb d_Md_wave_2 rfl (lv_at hl 1 rfl) ?_
  refine lv_iload_n hx hb d_Md_wave_3 rfl (lv_at hl 2 rfl) ?_
  obtain ⟨r_1, hcall, h⟩ := bn1_some h
  refine sd_i (wr := [(a_this_inside, .inl (ar 1, 256, .inl s_inside)), (a_this_partOf, .inl (ar 0, 256, .inl s_partOf)), (a_this_pile, .inl (ar 0, 256, .inl s_pile)), (a_this_values, .inl (ar 0, 256, .inl s_values)), (a_this_waves, .inl (ar 0, 256, .inl s_waves))]) (va_runV (As := [.int x1, .int x2]) (rest := [.ref a_this]) ⟨hx, hb, hml, hown, hts⟩ (c_Md_isSample a_this a_this_inside a_this_values a_this_partOf a_this_waves a_this_readInside a_this_readPart a_this_readValues a_this_stream a_this_zeros a_this_fed a_this_pile a_this_open a_this_sizes a_this_below s_code s_isRead s_readWide s_readHigh s_readPlanes s_streamBits s_fedMany s_mode s_limit s_count x1 x2 s_height s_width hcall _) (cw_V 2 hts k_856 k_858 k_12 k_40 k_859 rfl rfl (by decide +kernel) ⟨Nat.le_of_ble_eq_true rfl, Nat.le_of_ble_eq_true rfl⟩) (sd_preV hK hP hD hS hA hZ [0] (by decide) rfl (va_recv hK hP (ci := 9) (q0 := 0) rfl rfl)) rfl rfl hl.1 rfl (lv_room (Nat.le_of_ble_eq_true rfl)) d_Md_wave_4 ⟨Nat.le_of_ble_eq_true rfl, Nat.le_of_ble_eq_true rfl⟩) hP hD hS hA [0] [1, 2, 3, 4, 5] rfl rfl (by decide) (by decide) (fun H locs hP hD hS => ?_)
  have hP : va_P D vwCl [(a_this_inside, .inl (ar 1, 256, .inl s_inside)), (a_this_partOf, .inl (ar 0, 256, .inl s_partOf)), (a_this_pile, .inl (ar 0, 256, .inl s_pile)), (a_this_values, .inl (ar 0, 256, .inl s_values)), (a_this_waves, .inl (ar 0, 256, .inl s_waves)), (a_this, .inr (9, [.int s_code, .int s_width, .int s_height, .ref a_this_inside, .ref a_this_values, .ref a_this_partOf, .ref a_this_waves, .int s_isRead, .int s_readWide, .int s_readHigh, .int s_readPlanes, .ref a_this_readInside, .ref a_this_readPart, .ref a_this_readValues, .ref a_this_stream, .int s_streamBits, .ref a_this_zeros, .ref a_this_fed, .int s_fedMany, .ref a_this_pile, .int s_mode, .int s_limit, .int s_count, .ref a_this_open, .ref a_this_sizes, .ref a_this_below]))] H := hP
  have hD : va_D A [(a_this_inside, .inl (ar 1, 256, .inl s_inside)), (a_this_partOf, .inl (ar 0, 256, .inl s_partOf)), (a_this_pile, .inl (ar 0, 256, .inl s_pile)), (a_this_values, .inl (ar 0, 256, .inl s_values)), (a_this_waves, .inl (ar 0, 256, .inl s_waves)), (a_this, .inr (9, [.int s_code, .int s_width, .int s_height, .ref a_this_inside, .ref a_this_values, .ref a_this_partOf, .ref a_this_waves, .int s_isRead, .int s_readWide, .int s_readHigh, .int s_readPlanes, .ref a_this_readInside, .ref a_this_readPart, .ref a_this_readValues, .ref a_this_stream, .int s_streamBits, .ref a_this_zeros, .ref a_this_fed, .int s_fedMany, .ref a_this_pile, .int s_mode, .int s_limit, .int s_count, .ref a_this_open, .ref a_this_sizes, .ref a_this_below]))] := hD
  refine lv_if_eq (tgt := 14) hx hb d_Md_wave_7 (by decide) (fun c_2 => ?_) (fun c_2 => ?_)
  · have h := Eq.trans (if_pos c_2).symm h
    refine lv_iconst (v := (1 : Int32)) hx hb d_Md_wave_14 (by decide) ?_
    exact w_Md_wave_b15 C0 x1 x2 (1 : Int32) s_code s_height s_width s_inside s_partOf s_pile s_values s_waves h _ _ _ (hP.sub [5, 0, 1, 2, 3, 4] rfl) (hD.sub [5, 0, 1, 2, 3, 4] (by decide) rfl) hS hl
  · have h := Eq.trans (if_neg c_2).symm h
    refine lv_iconst (v := (0 : Int32)) hx hb d_Md_wave_10 (by decide) ?_
    refine lv_goto (tgt := 15) hx hb d_Md_wave_11 (by decide) ?_
    exact w_Md_wave_b15 C0 x1 x2 (0 : Int32) s_code s_height s_width s_inside s_partOf s_pile s_values s_waves h _ _ _ (hP.sub [5, 0, 1, 2, 3, 4] rfl) (hD.sub [5, 0, 1, 2, 3, 4] (by decide) rfl) hS hl
