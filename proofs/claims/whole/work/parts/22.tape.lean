abbrev rm_Bytes_has : Room := { frames := 0, cells := 0, slots := 0, locals := 0 }
def m_Bytes_has_b17 (fu : Nat) (t0 : Int32) (s_count : Int32) : Option (Int32) :=
  chkB t0 (some t0)
set_option maxHeartbeats 4000000 in
set_option maxRecDepth 100000 in
theorem w_Bytes_has_b17 {p : Program} {l : Launch} {e : Env} {s : State} {m : MethodId} {args : Array Value} {below : List Frame} {meth : Method} {c : Code} {D : va_G} {ar : Nat → ClassId} {A : Nat → Prop} {fu : Nat} {a_this a_this_row : Nat} {r_v : Int32} (C0 : CX p s m meth c args prog_2_method_2_code 2 (some .boolean) "FreeWavelets$Bytes" D ar A) (t0 : Int32) (s_count : Int32) (h : m_Bytes_has_b17 fu t0 s_count = some r_v) : WA p l e rm_Bytes_has s m args below meth c D A 2 (MQ below (QI D ar [(a_this, .inr (1, [.int s_count, .ref a_this_row]))] r_v A) args s 0 0 A) 17 [(a_this, .inr (1, [.int s_count, .ref a_this_row]))] [] [.int t0] := by
  intro H locs ls hP hD hS hl
  obtain ⟨hx, hb, hr, hml, hown, hts, hlocks, hA, hK, hZ⟩ := id C0
  unfold m_Bytes_has_b17 at h
  obtain ⟨b_2, h⟩ := chkB_some h
  cases h
  exact sd_zret (nar_z b_2) hx hb hr hlocks hP hD hK hS d_Bytes_has_17
def m_Bytes_has_b16 (fu : Nat) (s_count : Int32) : Option (Int32) :=
  m_Bytes_has_b17 fu (0 : Int32) s_count
set_option maxHeartbeats 4000000 in
set_option maxRecDepth 100000 in
theorem w_Bytes_has_b16 {p : Program} {l : Launch} {e : Env} {s : State} {m : MethodId} {args : Array Value} {below : List Frame} {meth : Method} {c : Code} {D : va_G} {ar : Nat → ClassId} {A : Nat → Prop} {fu : Nat} {a_this a_this_row : Nat} {r_v : Int32} (C0 : CX p s m meth c args prog_2_method_2_code 2 (some .boolean) "FreeWavelets$Bytes" D ar A) (s_count : Int32) (h : m_Bytes_has_b16 fu s_count = some r_v) : WA p l e rm_Bytes_has s m args below meth c D A 2 (MQ below (QI D ar [(a_this, .inr (1, [.int s_count, .ref a_this_row]))] r_v A) args s 0 0 A) 16 [(a_this, .inr (1, [.int s_count, .ref a_this_row]))] [] [] := by
  intro H locs ls hP hD hS hl
  obtain ⟨hx, hb, hr, hml, hown, hts, hlocks, hA, hK, hZ⟩ := id C0
  unfold m_Bytes_has_b16 at h
  refine lv_iconst (v := (0 : Int32)) hx hb d_Bytes_has_16 (by decide) ?_
  exact w_Bytes_has_b17 C0 (0 : Int32) s_count h _ _ _ hP hD hS hl
def m_Bytes_has (fu : Nat) (x1 : Int32) (s_count : Int32) : Option (Int32) :=
  if x1 < (0 : Int32) then (m_Bytes_has_b16 fu s_count) else (if s_count ≤ x1 then (m_Bytes_has_b16 fu s_count) else (m_Bytes_has_b17 fu (1 : Int32) s_count))
set_option maxHeartbeats 4000000 in
set_option maxRecDepth 100000 in
theorem c_Bytes_has {l : Launch} {D : va_G} {ar : Nat → ClassId} {fu : Nat} (a_this a_this_row : Nat) (x1 : Int32) (s_count : Int32) {r_v : Int32} (h : m_Bytes_has fu x1 s_count = some r_v) : StdI l y_Bytes_has ws_Bytes_has rm_Bytes_has D ar [.ref a_this, .int x1] [(a_this, .inr (1, [.int s_count, .ref a_this_row]))] [(a_this, .inr (1, [.int s_count, .ref a_this_row]))] r_v := by
  refine sd_metI (cc := prog_2_method_2_code) (maxL := 2) (ret := (some .boolean)) (own := "FreeWavelets$Bytes") (by decide) rfl rfl (Nat.le_of_ble_eq_true rfl) ?_
  intro p e s m below meth c A ls C0 hP hD hl
  obtain ⟨hx, hb, hr, hml, hown, hts, hlocks, hA, hK, hZ⟩ := id C0
  have hS : va_S A s.heap s.heap [] := va_S.rf
  have hl : lv_has ls 2 [(0, .ref a_this), (1, .int x1)] := hl
  unfold m_Bytes_has at h
  refine lv_iload_n hx hb d_Bytes_has_0 rfl (lv_at hl 1 rfl) ?_
  refine lv_if_lt (tgt := 16) hx hb d_Bytes_has_1 (by decide) (fun c_1 => ?_) (fun c_1 => ?_)
  · have h := Eq.trans (if_pos c_1).symm h
    exact w_Bytes_has_b16 C0 s_count h _ _ _ hP hD hS (lv_sub hl [] rfl)
  · have h := Eq.trans (if_neg c_1).symm h
    refine lv_iload_n hx hb d_Bytes_has_4 rfl (lv_at hl 1 rfl) ?_
    refine lv_aload_n hx hb d_Bytes_has_5 rfl (lv_at hl 0 rfl) ?_
    refine va_get (D := D) (ci := 1) (v := .int s_count) (C := R_Bytes) (T := F_Bytes) (N := 2) hx hb hts in_Bytes hown hK hP 0 rfl rfl 0 (by decide) (hts _ k_164) (fun _ h9 => h9) rfl d_Bytes_has_6 ?_
    refine lv_icmp_ge (tgt := 16) hx hb d_Bytes_has_9 (by decide) (fun c_3 => ?_) (fun c_3 => ?_)
    · have h := Eq.trans (if_pos c_3).symm h
      exact w_Bytes_has_b16 C0 s_count h _ _ _ hP hD hS (lv_sub hl [] rfl)
    · have h := Eq.trans (if_neg c_3).symm h
      refine lv_iconst (v := (1 : Int32)) hx hb d_Bytes_has_12 (by decide) ?_
      refine lv_goto (tgt := 17) hx hb d_Bytes_has_13 (by decide) ?_
      exact w_Bytes_has_b17 C0 (1 : Int32) s_count h _ _ _ hP hD hS (lv_sub hl [] rfl)
abbrev rm_Bytes_get : Room := { frames := 0, cells := 0, slots := 0, locals := 0 }
def m_Bytes_get_b25 (fu : Nat) (t0 : Int32) (s_row : Nat → Int32) : Option (Int32) :=
  some t0
set_option maxHeartbeats 4000000 in
set_option maxRecDepth 100000 in
theorem w_Bytes_get_b25 {p : Program} {l : Launch} {e : Env} {s : State} {m : MethodId} {args : Array Value} {below : List Frame} {meth : Method} {c : Code} {D : va_G} {ar : Nat → ClassId} {A : Nat → Prop} {fu : Nat} {a_this a_this_row : Nat} {s_count : Int32} {r_v : Int32} (C0 : CX p s m meth c args prog_2_method_3_code 2 (some .int) "FreeWavelets$Bytes" D ar A) (t0 : Int32) (s_row : Nat → Int32) (h : m_Bytes_get_b25 fu t0 s_row = some r_v) : WA p l e rm_Bytes_get s m args below meth c D A 2 (MQ below (QI D ar [(a_this, .inr (1, [.int s_count, .ref a_this_row])), (a_this_row, .inl (ar 2, 2400, .inl s_row))] r_v A) args s 0 0 A) 25 [(a_this, .inr (1, [.int s_count, .ref a_this_row])), (a_this_row, .inl (ar 2, 2400, .inl s_row))] [] [.int t0] := by
  intro H locs ls hP hD hS hl
  obtain ⟨hx, hb, hr, hml, hown, hts, hlocks, hA, hK, hZ⟩ := id C0
  unfold m_Bytes_get_b25 at h
  cases h
  exact sd_iret hx hb hr hlocks hP hD hK hS d_Bytes_get_25
def m_Bytes_get_b24 (fu : Nat) (s_row : Nat → Int32) : Option (Int32) :=
  m_Bytes_get_b25 fu (0 : Int32) s_row
set_option maxHeartbeats 4000000 in
set_option maxRecDepth 100000 in
theorem w_Bytes_get_b24 {p : Program} {l : Launch} {e : Env} {s : State} {m : MethodId} {args : Array Value} {below : List Frame} {meth : Method} {c : Code} {D : va_G} {ar : Nat → ClassId} {A : Nat → Prop} {fu : Nat} {a_this a_this_row : Nat} {s_count : Int32} {r_v : Int32} (C0 : CX p s m meth c args prog_2_method_3_code 2 (some .int) "FreeWavelets$Bytes" D ar A) (s_row : Nat → Int32) (h : m_Bytes_get_b24 fu s_row = some r_v) : WA p l e rm_Bytes_get s m args below meth c D A 2 (MQ below (QI D ar [(a_this, .inr (1, [.int s_count, .ref a_this_row])), (a_this_row, .inl (ar 2, 2400, .inl s_row))] r_v A) args s 0 0 A) 24 [(a_this, .inr (1, [.int s_count, .ref a_this_row])), (a_this_row, .inl (ar 2, 2400, .inl s_row))] [] [] := by
  intro H locs ls hP hD hS hl
  obtain ⟨hx, hb, hr, hml, hown, hts, hlocks, hA, hK, hZ⟩ := id C0
  unfold m_Bytes_get_b24 at h
  refine lv_iconst (v := (0 : Int32)) hx hb d_Bytes_get_24 (by decide) ?_
  exact w_Bytes_get_b25 C0 (0 : Int32) s_row h _ _ _ hP hD hS hl
def m_Bytes_get (fu : Nat) (x1 : Int32) (s_row : Nat → Int32) : Option (Int32) :=
  if x1 < (0 : Int32) then (m_Bytes_get_b24 fu s_row) else (if (2400 : Int32) ≤ x1 then (m_Bytes_get_b24 fu s_row) else (chk x1 2400 (m_Bytes_get_b25 fu ((s_row (x1).toNatClampNeg) &&& (255 : Int32)) s_row)))
set_option maxHeartbeats 4000000 in
set_option maxRecDepth 100000 in
theorem c_Bytes_get {l : Launch} {D : va_G} {ar : Nat → ClassId} {fu : Nat} (a_this a_this_row : Nat) (s_count : Int32) (x1 : Int32) (s_row : Nat → Int32) {r_v : Int32} (h : m_Bytes_get fu x1 s_row = some r_v) : StdI l y_Bytes_get ws_Bytes_get rm_Bytes_get D ar [.ref a_this, .int x1] [(a_this, .inr (1, [.int s_count, .ref a_this_row])), (a_this_row, .inl (ar 2, 2400, .inl s_row))] [(a_this, .inr (1, [.int s_count, .ref a_this_row])), (a_this_row, .inl (ar 2, 2400, .inl s_row))] r_v := by
  refine sd_metI (cc := prog_2_method_3_code) (maxL := 2) (ret := (some .int)) (own := "FreeWavelets$Bytes") (by decide) rfl rfl (Nat.le_of_ble_eq_true rfl) ?_
  intro p e s m below meth c A ls C0 hP hD hl
  obtain ⟨hx, hb, hr, hml, hown, hts, hlocks, hA, hK, hZ⟩ := id C0
  have hS : va_S A s.heap s.heap [] := va_S.rf
  have hl : lv_has ls 2 [(0, .ref a_this), (1, .int x1)] := hl
  unfold m_Bytes_get at h
  refine lv_iload_n hx hb d_Bytes_get_0 rfl (lv_at hl 1 rfl) ?_
  refine lv_if_lt (tgt := 24) hx hb d_Bytes_get_1 (by decide) (fun c_1 => ?_) (fun c_1 => ?_)
  · have h := Eq.trans (if_pos c_1).symm h
    exact w_Bytes_get_b24 C0 s_row h _ _ _ hP hD hS (lv_sub hl [] rfl)
  · have h := Eq.trans (if_neg c_1).symm h
    refine lv_iload_n hx hb d_Bytes_get_4 rfl (lv_at hl 1 rfl) ?_
    refine lv_sipush (v := (2400 : Int32)) hx hb d_Bytes_get_5 (by decide) ?_
    refine lv_icmp_ge (tgt := 24) hx hb d_Bytes_get_8 (by decide) (fun c_2 => ?_) (fun c_2 => ?_)
    · have h := Eq.trans (if_pos c_2).symm h
      exact w_Bytes_get_b24 C0 s_row h _ _ _ hP hD hS (lv_sub hl [] rfl)
    · have h := Eq.trans (if_neg c_2).symm h
      refine lv_aload_n hx hb d_Bytes_get_11 rfl (lv_at hl 0 rfl) ?_
      refine va_get (D := D) (ci := 1) (v := .ref a_this_row) (C := R_Bytes) (T := F_Bytes) (N := 2) hx hb hts in_Bytes hown hK hP 0 rfl rfl 1 (by decide) (hts _ k_168) (fun _ h9 => h9) rfl d_Bytes_get_12 ?_
      refine lv_iload_n hx hb d_Bytes_get_15 rfl (lv_at hl 1 rfl) ?_
      obtain ⟨b_3, h⟩ := chk_some h
      refine va_bald hx hb hK hP 1 2 rfl rfl b_3 d_Bytes_get_16 ?_
      refine lv_sipush (v := (255 : Int32)) hx hb d_Bytes_get_17 (by decide) ?_
      refine lv_iand hx hb d_Bytes_get_20 ?_
      refine lv_goto (tgt := 25) hx hb d_Bytes_get_21 (by decide) ?_
      exact w_Bytes_get_b25 C0 ((s_row (x1).toNatClampNeg) &&& (255 : Int32)) s_row h _ _ _ hP hD hS (lv_sub hl [] rfl)
abbrev rm_Bytes_set : Room := { frames := 0, cells := 0, slots := 0, locals := 0 }
def m_Bytes_set_b19 (fu : Nat) (s_row : Nat → Int32) : Option ((Nat → Int32)) :=
  some s_row
set_option maxHeartbeats 4000000 in
set_option maxRecDepth 100000 in
theorem w_Bytes_set_b19 {p : Program} {l : Launch} {e : Env} {s : State} {m : MethodId} {args : Array Value} {below : List Frame} {meth : Method} {c : Code} {D : va_G} {ar : Nat → ClassId} {A : Nat → Prop} {fu : Nat} {a_this a_this_row : Nat} {s_count : Int32} {r_row : Nat → Int32} (C0 : CX p s m meth c args prog_2_method_4_code 3 none "FreeWavelets$Bytes" D ar A) (s_row : Nat → Int32) (h : m_Bytes_set_b19 fu s_row = some r_row) : WA p l e rm_Bytes_set s m args below meth c D A 3 (MQ below (QV D ar [(a_this, .inr (1, [.int s_count, .ref a_this_row])), (a_this_row, .inl (ar 2, 2400, .inl r_row))] A) args s 0 0 A) 19 [(a_this, .inr (1, [.int s_count, .ref a_this_row])), (a_this_row, .inl (ar 2, 2400, .inl s_row))] [] [] := by
  intro H locs ls hP hD hS hl
  obtain ⟨hx, hb, hr, hml, hown, hts, hlocks, hA, hK, hZ⟩ := id C0
  unfold m_Bytes_set_b19 at h
  cases h
  exact sd_vret hx hb hr hlocks hP hD hK hS d_Bytes_set_19
def m_Bytes_set (fu : Nat) (x1 : Int32) (x2 : Int32) (s_row : Nat → Int32) : Option ((Nat → Int32)) :=
  if x1 < (0 : Int32) then (m_Bytes_set_b19 fu s_row) else (if (2400 : Int32) ≤ x1 then (m_Bytes_set_b19 fu s_row) else (chk x1 2400 (m_Bytes_set_b19 fu (upd s_row (x1).toNatClampNeg (vp_nar .byte x2.toInt8.toInt32)))))
set_option maxHeartbeats 4000000 in
set_option maxRecDepth 100000 in
theorem c_Bytes_set {l : Launch} {D : va_G} {ar : Nat → ClassId} {fu : Nat} (a_this a_this_row : Nat) (s_count : Int32) (x1 : Int32) (x2 : Int32) (s_row : Nat → Int32) {r_row : Nat → Int32} (h : m_Bytes_set fu x1 x2 s_row = some r_row) : StdV l y_Bytes_set ws_Bytes_set rm_Bytes_set D ar [.ref a_this, .int x1, .int x2] [(a_this, .inr (1, [.int s_count, .ref a_this_row])), (a_this_row, .inl (ar 2, 2400, .inl s_row))] [(a_this, .inr (1, [.int s_count, .ref a_this_row])), (a_this_row, .inl (ar 2, 2400, .inl r_row))] := by
  refine sd_metV (cc := prog_2_method_4_code) (maxL := 3) (ret := none) (own := "FreeWavelets$Bytes") (by decide) rfl rfl (Nat.le_of_ble_eq_true rfl) ?_
  intro p e s m below meth c A ls C0 hP hD hl
  obtain ⟨hx, hb, hr, hml, hown, hts, hlocks, hA, hK, hZ⟩ := id C0
  have hS : va_S A s.heap s.heap [] := va_S.rf
  have hl : lv_has ls 3 [(0, .ref a_this), (1, .int x1), (2, .int x2)] := hl
  unfold m_Bytes_set at h
  refine lv_iload_n hx hb d_Bytes_set_0 rfl (lv_at hl 1 rfl) ?_
  refine lv_if_lt (tgt := 19) hx hb d_Bytes_set_1 (by decide) (fun c_1 => ?_) (fun c_1 => ?_)
  · have h := Eq.trans (if_pos c_1).symm h
    exact w_Bytes_set_b19 C0 s_row h _ _ _ hP hD hS (lv_sub hl [] rfl)
  · have h := Eq.trans (if_neg c_1).symm h
    refine lv_iload_n hx hb d_Bytes_set_4 rfl (lv_at hl 1 rfl) ?_
    refine lv_sipush (v := (2400 : Int32)) hx hb d_Bytes_set_5 (by decide) ?_
    refine lv_icmp_ge (tgt := 19) hx hb d_Bytes_set_8 (by decide) (fun c_2 => ?_) (fun c_2 => ?_)
    · have h := Eq.trans (if_pos c_2).symm h
      exact w_Bytes_set_b19 C0 s_row h _ _ _ hP hD hS (lv_sub hl [] rfl)
    · have h := Eq.trans (if_neg c_2).symm h
      refine lv_aload_n hx hb d_Bytes_set_11 rfl (lv_at hl 0 rfl) ?_
      refine va_get (D := D) (ci := 1) (v := .ref a_this_row) (C := R_Bytes) (T := F_Bytes) (N := 2) hx hb hts in_Bytes hown hK hP 0 rfl rfl 1 (by decide) (hts _ k_168) (fun _ h9 => h9) rfl d_Bytes_set_12 ?_
      refine lv_iload_n hx hb d_Bytes_set_15 rfl (lv_at hl 1 rfl) ?_
      refine lv_iload_n hx hb d_Bytes_set_16 rfl (lv_at hl 2 rfl) ?_
      refine lv_i2b hx hb d_Bytes_set_17 rfl ?_
      obtain ⟨b_3, h⟩ := chk_some h
      refine va_bast hx hb hK hP hD hS 1 2 rfl rfl b_3 d_Bytes_set_18 (fun H locs hP hD hS => ?_)
      have hP : va_P D vwCl [(a_this, .inr (1, [.int s_count, .ref a_this_row])), (a_this_row, .inl (ar 2, 2400, .inl (upd s_row (x1).toNatClampNeg (vp_nar .byte x2.toInt8.toInt32))))] H := hP
      have hD : va_D A [(a_this, .inr (1, [.int s_count, .ref a_this_row])), (a_this_row, .inl (ar 2, 2400, .inl (upd s_row (x1).toNatClampNeg (vp_nar .byte x2.toInt8.toInt32))))] := hD
      exact w_Bytes_set_b19 C0 (upd s_row (x1).toNatClampNeg (vp_nar .byte x2.toInt8.toInt32)) h _ _ _ hP hD hS (lv_sub hl [] rfl)
abbrev rm_Bytes_add : Room := { frames := 0, cells := 0, slots := 0, locals := 0 }
def m_Bytes_add_b38 (fu : Nat) (s_count : Int32) (s_row : Nat → Int32) : Option (Int32 × (Nat → Int32)) :=
  some (s_count, s_row)
set_option maxHeartbeats 4000000 in
set_option maxRecDepth 100000 in
theorem w_Bytes_add_b38 {p : Program} {l : Launch} {e : Env} {s : State} {m : MethodId} {args : Array Value} {below : List Frame} {meth : Method} {c : Code} {D : va_G} {ar : Nat → ClassId} {A : Nat → Prop} {fu : Nat} {a_this a_this_row : Nat} {r_count : Int32} {r_row : Nat → Int32} (C0 : CX p s m meth c args prog_2_method_5_code 2 none "FreeWavelets$Bytes" D ar A) (s_count : Int32) (s_row : Nat → Int32) (h : m_Bytes_add_b38 fu s_count s_row = some (r_count, r_row)) : WA p l e rm_Bytes_add s m args below meth c D A 2 (MQ below (QV D ar [(a_this, .inr (1, [.int r_count, .ref a_this_row])), (a_this_row, .inl (ar 2, 2400, .inl r_row))] A) args s 0 0 A) 38 [(a_this, .inr (1, [.int s_count, .ref a_this_row])), (a_this_row, .inl (ar 2, 2400, .inl s_row))] [] [] := by
  intro H locs ls hP hD hS hl
  obtain ⟨hx, hb, hr, hml, hown, hts, hlocks, hA, hK, hZ⟩ := id C0
  unfold m_Bytes_add_b38 at h
  cases h
  exact sd_vret hx hb hr hlocks hP hD hK hS d_Bytes_add_38
def m_Bytes_add (fu : Nat) (x1 : Int32) (s_count : Int32) (s_row : Nat → Int32) : Option (Int32 × (Nat → Int32)) :=
  if s_count < (0 : Int32) then (m_Bytes_add_b38 fu s_count s_row) else (if (2400 : Int32) ≤ s_count then (m_Bytes_add_b38 fu s_count s_row) else (chk s_count 2400 (letB (s_count + (1 : Int32)) (fun f_4 => m_Bytes_add_b38 fu f_4 (upd s_row (s_count).toNatClampNeg (vp_nar .byte x1.toInt8.toInt32))))))
set_option maxHeartbeats 4000000 in
set_option maxRecDepth 100000 in
theorem c_Bytes_add {l : Launch} {D : va_G} {ar : Nat → ClassId} {fu : Nat} (a_this a_this_row : Nat) (x1 : Int32) (s_count : Int32) (s_row : Nat → Int32) {r_count : Int32} {r_row : Nat → Int32} (h : m_Bytes_add fu x1 s_count s_row = some (r_count, r_row)) : StdV l y_Bytes_add ws_Bytes_add rm_Bytes_add D ar [.ref a_this, .int x1] [(a_this, .inr (1, [.int s_count, .ref a_this_row])), (a_this_row, .inl (ar 2, 2400, .inl s_row))] [(a_this, .inr (1, [.int r_count, .ref a_this_row])), (a_this_row, .inl (ar 2, 2400, .inl r_row))] := by
  refine sd_metV (cc := prog_2_method_5_code) (maxL := 2) (ret := none) (own := "FreeWavelets$Bytes") (by decide) rfl rfl (Nat.le_of_ble_eq_true rfl) ?_
  intro p e s m below meth c A ls C0 hP hD hl
  obtain ⟨hx, hb, hr, hml, hown, hts, hlocks, hA, hK, hZ⟩ := id C0
  have hS : va_S A s.heap s.heap [] := va_S.rf
  have hl : lv_has ls 2 [(0, .ref a_this), (1, .int x1)] := hl
  unfold m_Bytes_add at h
  refine lv_aload_n hx hb d_Bytes_add_0 rfl (lv_at hl 0 rfl) ?_
  refine va_get (D := D) (ci := 1) (v := .int s_count) (C := R_Bytes) (T := F_Bytes) (N := 2) hx hb hts in_Bytes hown hK hP 0 rfl rfl 0 (by decide) (hts _ k_164) (fun _ h9 => h9) rfl d_Bytes_add_1 ?_
  refine lv_if_lt (tgt := 38) hx hb d_Bytes_add_4 (by decide) (fun c_1 => ?_) (fun c_1 => ?_)
  · have h := Eq.trans (if_pos c_1).symm h
    exact w_Bytes_add_b38 C0 s_count s_row h _ _ _ hP hD hS (lv_sub hl [] rfl)
  · have h := Eq.trans (if_neg c_1).symm h
    refine lv_aload_n hx hb d_Bytes_add_7 rfl (lv_at hl 0 rfl) ?_
    refine va_get (D := D) (ci := 1) (v := .int s_count) (C := R_Bytes) (T := F_Bytes) (N := 2) hx hb hts in_Bytes hown hK hP 0 rfl rfl 0 (by decide) (hts _ k_164) (fun _ h9 => h9) rfl d_Bytes_add_8 ?_
    refine lv_sipush (v := (2400 : Int32)) hx hb d_Bytes_add_11 (by decide) ?_
    refine lv_icmp_ge (tgt := 38) hx hb d_Bytes_add_14 (by decide) (fun c_2 => ?_) (fun c_2 => ?_)
    · have h := Eq.trans (if_pos c_2).symm h
      exact w_Bytes_add_b38 C0 s_count s_row h _ _ _ hP hD hS (lv_sub hl [] rfl)
    · have h := Eq.trans (if_neg c_2).symm h
      refine lv_aload_n hx hb d_Bytes_add_17 rfl (lv_at hl 0 rfl) ?_
      refine va_get (D := D) (ci := 1) (v := .ref a_this_row) (C := R_Bytes) (T := F_Bytes) (N := 2) hx hb hts in_Bytes hown hK hP 0 rfl rfl 1 (by decide) (hts _ k_168) (fun _ h9 => h9) rfl d_Bytes_add_18 ?_
      refine lv_aload_n hx hb d_Bytes_add_21 rfl (lv_at hl 0 rfl) ?_
      refine va_get (D := D) (ci := 1) (v := .int s_count) (C := R_Bytes) (T := F_Bytes) (N := 2) hx hb hts in_Bytes hown hK hP 0 rfl rfl 0 (by decide) (hts _ k_164) (fun _ h9 => h9) rfl d_Bytes_add_22 ?_
      refine lv_iload_n hx hb d_Bytes_add_25 rfl (lv_at hl 1 rfl) ?_
      refine lv_i2b hx hb d_Bytes_add_26 rfl ?_
      obtain ⟨b_3, h⟩ := chk_some h
      refine va_bast hx hb hK hP hD hS 1 2 rfl rfl b_3 d_Bytes_add_27 (fun H locs hP hD hS => ?_)
      have hP : va_P D vwCl [(a_this, .inr (1, [.int s_count, .ref a_this_row])), (a_this_row, .inl (ar 2, 2400, .inl (upd s_row (s_count).toNatClampNeg (vp_nar .byte x1.toInt8.toInt32))))] H := hP
      have hD : va_D A [(a_this, .inr (1, [.int s_count, .ref a_this_row])), (a_this_row, .inl (ar 2, 2400, .inl (upd s_row (s_count).toNatClampNeg (vp_nar .byte x1.toInt8.toInt32))))] := hD
      refine lv_aload_n hx hb d_Bytes_add_28 rfl (lv_at hl 0 rfl) ?_
      refine lv_dup hx hb d_Bytes_add_29 rfl ?_
      refine va_get (D := D) (ci := 1) (v := .int s_count) (C := R_Bytes) (T := F_Bytes) (N := 2) hx hb hts in_Bytes hown hK hP 0 rfl rfl 0 (by decide) (hts _ k_164) (fun _ h9 => h9) rfl d_Bytes_add_30 ?_
      refine lv_iconst (v := (1 : Int32)) hx hb d_Bytes_add_33 (by decide) ?_
      refine lv_iadd hx hb d_Bytes_add_34 ?_
      refine lv_topi (fun f_4 e_f_4 => ?_)
      have h := letB_at e_f_4 h
      refine va_put (D := D) (ci := 1) (v := .int f_4) (ty := .int) (C := R_Bytes) (T := F_Bytes) (N := 2) hx hb hts in_Bytes t_Bytes t_Bytes_ok n_Bytes hown hK hP hD hS 0 rfl rfl 0 (by decide) (hts _ k_164) (fun _ h9 => h9) rfl (by decide +kernel) rfl rfl (Nat.le_of_ble_eq_true rfl) d_Bytes_add_35 (fun H locs hP hD hS => ?_)
      have hP : va_P D vwCl [(a_this, .inr (1, [.int f_4, .ref a_this_row])), (a_this_row, .inl (ar 2, 2400, .inl (upd s_row (s_count).toNatClampNeg (vp_nar .byte x1.toInt8.toInt32))))] H := hP
      have hD : va_D A [(a_this, .inr (1, [.int f_4, .ref a_this_row])), (a_this_row, .inl (ar 2, 2400, .inl (upd s_row (s_count).toNatClampNeg (vp_nar .byte x1.toInt8.toInt32))))] := hD
      exact w_Bytes_add_b38 C0 f_4 (upd s_row (s_count).toNatClampNeg (vp_nar .byte x1.toInt8.toInt32)) h _ _ _ hP hD hS (lv_sub hl [] rfl)
abbrev rm_Pen_pick_Pen : Room := { frames := 1, cells := 0, slots := 0, locals := 22 }
def m_Pen_pick_Pen_b26 (fu : Nat) (x1 : Int32) (x2 : Int32) (s_place : Int32) (s_bytes_count : Int32) (s_bytes_row : Nat → Int32) : Option (Int32 × Int32 × (Nat → Int32)) :=
  bn1 (m_Bytes_get fu x2 s_bytes_row) (fun r_3 => bn1 (m_Bytes_set fu x2 (r_3 ||| (x1 <<< (((7 : Int32) - (s_place &&& (7 : Int32))) &&& 31))) s_bytes_row) (fun s_bytes_row_4 => some (x1, s_bytes_count, s_bytes_row_4)))
set_option maxHeartbeats 4000000 in
set_option maxRecDepth 100000 in
theorem w_Pen_pick_Pen_b26 {p : Program} {l : Launch} {e : Env} {s : State} {m : MethodId} {args : Array Value} {below : List Frame} {meth : Method} {c : Code} {D : va_G} {ar : Nat → ClassId} {A : Nat → Prop} {fu : Nat} {a_this a_this_bytes a_this_bytes_row : Nat} {s_ended : Int32} {s_limit : Int32} {r_v : Int32} {r_bytes_count : Int32} {r_bytes_row : Nat → Int32} (C0 : CX p s m meth c args prog_6_method_3_code 3 (some .int) "FreeWavelets$Pen" D ar A) (x1 : Int32) (x2 : Int32) (s_place : Int32) (s_bytes_count : Int32) (s_bytes_row : Nat → Int32) (h : m_Pen_pick_Pen_b26 fu x1 x2 s_place s_bytes_count s_bytes_row = some (r_v, r_bytes_count, r_bytes_row)) : WA p l e rm_Pen_pick_Pen s m args below meth c D A 3 (MQ below (QI D ar [(a_this, .inr (3, [.int s_place, .int s_ended, .int s_limit, .ref a_this_bytes])), (a_this_bytes, .inr (1, [.int r_bytes_count, .ref a_this_bytes_row])), (a_this_bytes_row, .inl (ar 2, 2400, .inl r_bytes_row))] r_v A) args s 0 0 A) 26 [(a_this, .inr (3, [.int s_place, .int s_ended, .int s_limit, .ref a_this_bytes])), (a_this_bytes, .inr (1, [.int s_bytes_count, .ref a_this_bytes_row])), (a_this_bytes_row, .inl (ar 2, 2400, .inl s_bytes_row))] [(0, .ref a_this), (1, .int x1), (2, .int x2)] [] := by
  intro H locs ls hP hD hS hl
  obtain ⟨hx, hb, hr, hml, hown, hts, hlocks, hA, hK, hZ⟩ := id C0
  unfold m_Pen_pick_Pen_b26 at h
  refine lv_aload_n hx hb d_Pen_pick_26 rfl (lv_at hl 0 rfl) ?_
  refine va_get (D := D) (ci := 3) (v := .ref a_this_bytes) (C := R_Pen) (T := F_Pen) (N := 4) hx hb hts in_Pen hown hK hP 0 rfl rfl 3 (by decide) (hts _ k_184) (fun _ h9 => h9) rfl d_Pen_pick_27 ?_
  refine lv_iload_n hx hb d_Pen_pick_30 rfl (lv_at hl 2 rfl) ?_
  refine lv_aload_n hx hb d_Pen_pick_31 rfl (lv_at hl 0 rfl) ?_
  refine va_get (D := D) (ci := 3) (v := .ref a_this_bytes) (C := R_Pen) (T := F_Pen) (N := 4) hx hb hts in_Pen hown hK hP 0 rfl rfl 3 (by decide) (hts _ k_184) (fun _ h9 => h9) rfl d_Pen_pick_32 ?_
  refine lv_iload_n hx hb d_Pen_pick_35 rfl (lv_at hl 2 rfl) ?_
  obtain ⟨r_3, hcall, h⟩ := bn1_some h
  refine sd_i (wr := [(a_this, .inr (3, [.int s_place, .int s_ended, .int s_limit, .ref a_this_bytes]))]) (va_runV (As := [.int x2]) (rest := [.int x2, .ref a_this_bytes]) ⟨hx, hb, hml, hown, hts⟩ (c_Bytes_get a_this_bytes a_this_bytes_row s_bytes_count x2 s_bytes_row hcall _) (cw_V 1 hts k_421 k_411 k_412 k_33 k_413 rfl rfl (by decide +kernel) ⟨Nat.le_of_ble_eq_true rfl, Nat.le_of_ble_eq_true rfl⟩) (sd_preV hK hP hD hS hA hZ [1, 2] (by decide) rfl (va_recv hK hP (ci := 1) (q0 := 1) rfl rfl)) rfl rfl hl.1 rfl (lv_room (Nat.le_of_ble_eq_true rfl)) d_Pen_pick_36 ⟨Nat.le_of_ble_eq_true rfl, Nat.le_of_ble_eq_true rfl⟩) hP hD hS hA [1, 2] [0] rfl rfl (by decide) (by decide) (fun H locs hP hD hS => ?_)
  have hP : va_P D vwCl [(a_this, .inr (3, [.int s_place, .int s_ended, .int s_limit, .ref a_this_bytes])), (a_this_bytes, .inr (1, [.int s_bytes_count, .ref a_this_bytes_row])), (a_this_bytes_row, .inl (ar 2, 2400, .inl s_bytes_row))] H := hP
  have hD : va_D A [(a_this, .inr (3, [.int s_place, .int s_ended, .int s_limit, .ref a_this_bytes])), (a_this_bytes, .inr (1, [.int s_bytes_count, .ref a_this_bytes_row])), (a_this_bytes_row, .inl (ar 2, 2400, .inl s_bytes_row))] := hD
  refine lv_iload_n hx hb d_Pen_pick_39 rfl (lv_at hl 1 rfl) ?_
  refine lv_bipush (v := (7 : Int32)) hx hb d_Pen_pick_40 (by decide) ?_
  refine lv_aload_n hx hb d_Pen_pick_42 rfl (lv_at hl 0 rfl) ?_
  refine va_get (D := D) (ci := 3) (v := .int s_place) (C := R_Pen) (T := F_Pen) (N := 4) hx hb hts in_Pen hown hK hP 0 rfl rfl 0 (by decide) (hts _ k_186) (fun x9 h9 => u_same (hts _ k_187) x9 h9) rfl d_Pen_pick_43 ?_
  refine lv_bipush (v := (7 : Int32)) hx hb d_Pen_pick_46 (by decide) ?_
  refine lv_iand hx hb d_Pen_pick_48 ?_
  refine lv_isub hx hb d_Pen_pick_49 ?_
  refine lv_ishl hx hb d_Pen_pick_50 ?_
  refine lv_ior hx hb d_Pen_pick_51 ?_
  obtain ⟨s_bytes_row_4, hcall, h⟩ := bn1_some h
  refine sd_v (wr := [(a_this, .inr (3, [.int s_place, .int s_ended, .int s_limit, .ref a_this_bytes]))]) (va_runV (As := [.int x2, .int (r_3 ||| (x1 <<< (((7 : Int32) - (s_place &&& (7 : Int32))) &&& 31)))]) (rest := []) ⟨hx, hb, hml, hown, hts⟩ (c_Bytes_set a_this_bytes a_this_bytes_row s_bytes_count x2 (r_3 ||| (x1 <<< (((7 : Int32) - (s_place &&& (7 : Int32))) &&& 31))) s_bytes_row hcall _) (cw_V 2 hts k_422 k_423 k_424 k_33 k_425 rfl rfl (by decide +kernel) ⟨Nat.le_of_ble_eq_true rfl, Nat.le_of_ble_eq_true rfl⟩) (sd_preV hK hP hD hS hA hZ [1, 2] (by decide) rfl (va_recv hK hP (ci := 1) (q0 := 1) rfl rfl)) rfl rfl hl.1 rfl (lv_room (Nat.le_of_ble_eq_true rfl)) d_Pen_pick_52 ⟨Nat.le_of_ble_eq_true rfl, Nat.le_of_ble_eq_true rfl⟩) hP hD hS hA [1, 2] [0] rfl rfl (by decide) (by decide) (fun H locs hP hD hS => ?_)
  have hP : va_P D vwCl [(a_this, .inr (3, [.int s_place, .int s_ended, .int s_limit, .ref a_this_bytes])), (a_this_bytes, .inr (1, [.int s_bytes_count, .ref a_this_bytes_row])), (a_this_bytes_row, .inl (ar 2, 2400, .inl s_bytes_row_4))] H := hP
  have hD : va_D A [(a_this, .inr (3, [.int s_place, .int s_ended, .int s_limit, .ref a_this_bytes])), (a_this_bytes, .inr (1, [.int s_bytes_count, .ref a_this_bytes_row])), (a_this_bytes_row, .inl (ar 2, 2400, .inl s_bytes_row_4))] := hD
  refine lv_iload_n hx hb d_Pen_pick_55 rfl (lv_at hl 1 rfl) ?_
  cases h
  exact sd_iret hx hb hr hlocks hP hD hK hS d_Pen_pick_56
def m_Pen_pick_Pen (fu : Nat) (x1 : Int32) (s_place : Int32) (s_bytes_count : Int32) (s_bytes_row : Nat → Int32) : Option (Int32 × Int32 × (Nat → Int32)) :=
  letB (s_place >>> ((3 : Int32) &&& 31)) (fun x2_1 => if x2_1 = s_bytes_count then (bn2 (m_Bytes_add fu (0 : Int32) s_bytes_count s_bytes_row) (fun s_bytes_count_5 s_bytes_row_6 => m_Pen_pick_Pen_b26 fu x1 x2_1 s_place s_bytes_count_5 s_bytes_row_6)) else (m_Pen_pick_Pen_b26 fu x1 x2_1 s_place s_bytes_count s_bytes_row))
set_option maxHeartbeats 4000000 in
set_option maxRecDepth 100000 in
theorem c_Pen_pick_Pen {l : Launch} {D : va_G} {ar : Nat → ClassId} {fu : Nat} (a_this a_this_bytes a_this_bytes_row : Nat) (s_ended : Int32) (s_limit : Int32) (x1 : Int32) (s_place : Int32) (s_bytes_count : Int32) (s_bytes_row : Nat → Int32) {r_v : Int32} {r_bytes_count : Int32} {r_bytes_row : Nat → Int32} (h : m_Pen_pick_Pen fu x1 s_place s_bytes_count s_bytes_row = some (r_v, r_bytes_count, r_bytes_row)) : StdI l y_Pen_pick ws_Pen_pick rm_Pen_pick_Pen D ar [.ref a_this, .int x1] [(a_this, .inr (3, [.int s_place, .int s_ended, .int s_limit, .ref a_this_bytes])), (a_this_bytes, .inr (1, [.int s_bytes_count, .ref a_this_bytes_row])), (a_this_bytes_row, .inl (ar 2, 2400, .inl s_bytes_row))] [(a_this, .inr (3, [.int s_place, .int s_ended, .int s_limit, .ref a_this_bytes])), (a_this_bytes, .inr (1, [.int r_bytes_count, .ref a_this_bytes_row])), (a_this_bytes_row, .inl (ar 2, 2400, .inl r_bytes_row))] r_v := by
  refine sd_metI (cc := prog_6_method_3_code) (maxL := 3) (ret := (some .int)) (own := "FreeWavelets$Pen") (by decide) rfl rfl (Nat.le_of_ble_eq_true rfl) ?_
  intro p e s m below meth c A ls C0 hP hD hl
  obtain ⟨hx, hb, hr, hml, hown, hts, hlocks, hA, hK, hZ⟩ := id C0
  have hS : va_S A s.heap s.heap [] := va_S.rf
  have hl : lv_has ls 3 [(0, .ref a_this), (1, .int x1)] := hl
  unfold m_Pen_pick_Pen at h
  refine lv_aload_n hx hb d_Pen_pick_0 rfl (lv_at hl 0 rfl) ?_
  refine va_get (D := D) (ci := 3) (v := .int s_place) (C := R_Pen) (T := F_Pen) (N := 4) hx hb hts in_Pen hown hK hP 0 rfl rfl 0 (by decide) (hts _ k_186) (fun x9 h9 => u_same (hts _ k_187) x9 h9) rfl d_Pen_pick_1 ?_
  refine lv_iconst (v := (3 : Int32)) hx hb d_Pen_pick_4 (by decide) ?_
  refine lv_ishr hx hb d_Pen_pick_5 ?_
  refine lv_topi (fun x2_1 e_x2_1 => ?_)
  have h := letB_at e_x2_1 h
  refine lv_istore_n (lv' := [(2, .int x2_1), (0, .ref a_this), (1, .int x1)]) hx hb d_Pen_pick_6 rfl hl (by decide) rfl (fun ls hl => ?_)
  refine lv_iload_n hx hb d_Pen_pick_7 rfl (lv_at hl 0 rfl) ?_
  refine lv_aload_n hx hb d_Pen_pick_8 rfl (lv_at hl 1 rfl) ?_
  refine va_get (D := D) (ci := 3) (v := .ref a_this_bytes) (C := R_Pen) (T := F_Pen) (N := 4) hx hb hts in_Pen hown hK hP 0 rfl rfl 3 (by decide) (hts _ k_184) (fun _ h9 => h9) rfl d_Pen_pick_9 ?_
  refine va_get (D := D) (ci := 1) (v := .int s_bytes_count) (C := R_Bytes) (T := F_Bytes) (N := 2) hx hb hts in_Bytes hown hK hP 1 rfl rfl 0 (by decide) (hts _ k_166) (fun _ h9 => h9) rfl d_Pen_pick_12 ?_
  refine lv_icmp_ne (tgt := 26) hx hb d_Pen_pick_15 (by decide) (fun c_2 => ?_) (fun c_2 => ?_)
  · have h := Eq.trans (if_neg c_2).symm h
    exact w_Pen_pick_Pen_b26 C0 x1 x2_1 s_place s_bytes_count s_bytes_row h _ _ _ hP hD hS (lv_sub hl [1, 2, 0] rfl)
  · have h := Eq.trans (if_pos c_2).symm h
    refine lv_aload_n hx hb d_Pen_pick_18 rfl (lv_at hl 1 rfl) ?_
    refine va_get (D := D) (ci := 3) (v := .ref a_this_bytes) (C := R_Pen) (T := F_Pen) (N := 4) hx hb hts in_Pen hown hK hP 0 rfl rfl 3 (by decide) (hts _ k_184) (fun _ h9 => h9) rfl d_Pen_pick_19 ?_
    refine lv_iconst (v := (0 : Int32)) hx hb d_Pen_pick_22 (by decide) ?_
    obtain ⟨s_bytes_count_5, s_bytes_row_6, hcall, h⟩ := bn2_some h
    refine sd_v (wr := [(a_this, .inr (3, [.int s_place, .int s_ended, .int s_limit, .ref a_this_bytes]))]) (va_runV (As := [.int (0 : Int32)]) (rest := []) ⟨hx, hb, hml, hown, hts⟩ (c_Bytes_add a_this_bytes a_this_bytes_row (0 : Int32) s_bytes_count s_bytes_row hcall _) (cw_V 1 hts k_417 k_418 k_419 k_33 k_420 rfl rfl (by decide +kernel) ⟨Nat.le_of_ble_eq_true rfl, Nat.le_of_ble_eq_true rfl⟩) (sd_preV hK hP hD hS hA hZ [1, 2] (by decide) rfl (va_recv hK hP (ci := 1) (q0 := 1) rfl rfl)) rfl rfl hl.1 rfl (lv_room (Nat.le_of_ble_eq_true rfl)) d_Pen_pick_23 ⟨Nat.le_of_ble_eq_true rfl, Nat.le_of_ble_eq_true rfl⟩) hP hD hS hA [1, 2] [0] rfl rfl (by decide) (by decide) (fun H locs hP hD hS => ?_)
    have hP : va_P D vwCl [(a_this, .inr (3, [.int s_place, .int s_ended, .int s_limit, .ref a_this_bytes])), (a_this_bytes, .inr (1, [.int s_bytes_count_5, .ref a_this_bytes_row])), (a_this_bytes_row, .inl (ar 2, 2400, .inl s_bytes_row_6))] H := hP
    have hD : va_D A [(a_this, .inr (3, [.int s_place, .int s_ended, .int s_limit, .ref a_this_bytes])), (a_this_bytes, .inr (1, [.int s_bytes_count_5, .ref a_this_bytes_row])), (a_this_bytes_row, .inl (ar 2, 2400, .inl s_bytes_row_6))] := hD
    exact w_Pen_pick_Pen_b26 C0 x1 x2_1 s_place s_bytes_count_5 s_bytes_row_6 h _ _ _ hP hD hS (lv_sub hl [1, 2, 0] rfl)
abbrev rm_Tape_next_Pen : Room := { frames := 2, cells := 0, slots := 0, locals := 44 }
def m_Tape_next_Pen (fu : Nat) (x1 : Int32) (s_ended : Int32) (s_limit : Int32) (s_place : Int32) (s_bytes_count : Int32) (s_bytes_row : Nat → Int32) : Option (Int32 × Int32 × Int32 × Int32 × (Nat → Int32)) :=
  if s_place < s_limit then (bn3 (m_Pen_pick_Pen fu x1 s_place s_bytes_count s_bytes_row) (fun r_2 s_bytes_count_3 s_bytes_row_4 => letB (s_place + (1 : Int32)) (fun f_5 => some (r_2, s_ended, f_5, s_bytes_count_3, s_bytes_row_4)))) else (some ((-1 : Int32), (1 : Int32), s_place, s_bytes_count, s_bytes_row))
set_option maxHeartbeats 4000000 in
set_option maxRecDepth 100000 in
theorem c_Tape_next_Pen {l : Launch} {D : va_G} {ar : Nat → ClassId} {fu : Nat} (a_this a_this_bytes a_this_bytes_row : Nat) (x1 : Int32) (s_ended : Int32) (s_limit : Int32) (s_place : Int32) (s_bytes_count : Int32) (s_bytes_row : Nat → Int32) {r_v : Int32} {r_ended : Int32} {r_place : Int32} {r_bytes_count : Int32} {r_bytes_row : Nat → Int32} (h : m_Tape_next_Pen fu x1 s_ended s_limit s_place s_bytes_count s_bytes_row = some (r_v, r_ended, r_place, r_bytes_count, r_bytes_row)) : StdI l y_Tape_next ws_Tape_next rm_Tape_next_Pen D ar [.ref a_this, .int x1] [(a_this, .inr (3, [.int s_place, .int s_ended, .int s_limit, .ref a_this_bytes])), (a_this_bytes, .inr (1, [.int s_bytes_count, .ref a_this_bytes_row])), (a_this_bytes_row, .inl (ar 2, 2400, .inl s_bytes_row))] [(a_this, .inr (3, [.int r_place, .int r_ended, .int s_limit, .ref a_this_bytes])), (a_this_bytes, .inr (1, [.int r_bytes_count, .ref a_this_bytes_row])), (a_this_bytes_row, .inl (ar 2, 2400, .inl r_bytes_row))] r_v := by
  refine sd_metI (cc := prog_9_method_3_code) (maxL := 3) (ret := (some .int)) (own := "FreeWavelets$Tape") (by decide) rfl rfl (Nat.le_of_ble_eq_true rfl) ?_
  intro p e s m below meth c A ls C0 hP hD hl
  obtain ⟨hx, hb, hr, hml, hown, hts, hlocks, hA, hK, hZ⟩ := id C0
  have hS : va_S A s.heap s.heap [] := va_S.rf
  have hl : lv_has ls 3 [(0, .ref a_this), (1, .int x1)] := hl
  unfold m_Tape_next_Pen at h
  refine lv_aload_n hx hb d_Tape_next_0 rfl (lv_at hl 0 rfl) ?_
  refine va_get (D := D) (ci := 3) (v := .int s_place) (C := R_Pen) (T := F_Pen) (N := 4) hx hb hts in_Pen hown hK hP 0 rfl rfl 0 (by decide) (hts _ k_185) (fun _ h9 => h9) rfl d_Tape_next_1 ?_
  refine lv_aload_n hx hb d_Tape_next_4 rfl (lv_at hl 0 rfl) ?_
  refine va_get (D := D) (ci := 3) (v := .int s_limit) (C := R_Pen) (T := F_Pen) (N := 4) hx hb hts in_Pen hown hK hP 0 rfl rfl 2 (by decide) (hts _ k_195) (fun _ h9 => h9) rfl d_Tape_next_5 ?_
  refine lv_icmp_lt (tgt := 18) hx hb d_Tape_next_8 (by decide) (fun c_1 => ?_) (fun c_1 => ?_)
  · have h := Eq.trans (if_pos c_1).symm h
    refine lv_aload_n hx hb d_Tape_next_18 rfl (lv_at hl 0 rfl) ?_
    refine lv_iload_n hx hb d_Tape_next_19 rfl (lv_at hl 1 rfl) ?_
    obtain ⟨r_2, s_bytes_count_3, s_bytes_row_4, hcall, h⟩ := bn3_some h
    refine sd_i (wr := []) (va_runU (As := [.int x1]) (rest := []) ⟨hx, hb, hml, hown, hts⟩ (c_Pen_pick_Pen a_this a_this_bytes a_this_bytes_row s_ended s_limit x1 s_place s_bytes_count s_bytes_row hcall _) (cw_O (owner := "FreeWavelets$Tape") 1 hts k_403 k_406 k_404 k_414 k_415 k_35 k_416 rfl rfl k_426 (by decide +kernel) ⟨Nat.le_of_ble_eq_true rfl, Nat.le_of_ble_eq_true rfl⟩) (sd_preV hK hP hD hS hA hZ [0, 1, 2] (by decide) rfl (va_recv hK hP (ci := 3) (q0 := 0) rfl rfl)) rfl rfl hl.1 rfl (lv_room (Nat.le_of_ble_eq_true rfl)) d_Tape_next_20 ⟨Nat.le_of_ble_eq_true rfl, Nat.le_of_ble_eq_true rfl⟩) hP hD hS hA [0, 1, 2] [] rfl rfl (by decide) (by decide) (fun H locs hP hD hS => ?_)
    have hP : va_P D vwCl [(a_this, .inr (3, [.int s_place, .int s_ended, .int s_limit, .ref a_this_bytes])), (a_this_bytes, .inr (1, [.int s_bytes_count_3, .ref a_this_bytes_row])), (a_this_bytes_row, .inl (ar 2, 2400, .inl s_bytes_row_4))] H := hP
    have hD : va_D A [(a_this, .inr (3, [.int s_place, .int s_ended, .int s_limit, .ref a_this_bytes])), (a_this_bytes, .inr (1, [.int s_bytes_count_3, .ref a_this_bytes_row])), (a_this_bytes_row, .inl (ar 2, 2400, .inl s_bytes_row_4))] := hD
    refine lv_istore_n (lv' := [(2, .int r_2), (0, .ref a_this), (1, .int x1)]) hx hb d_Tape_next_23 rfl hl (by decide) rfl (fun ls hl => ?_)
    refine lv_aload_n hx hb d_Tape_next_24 rfl (lv_at hl 1 rfl) ?_
    refine lv_dup hx hb d_Tape_next_25 rfl ?_
    refine va_get (D := D) (ci := 3) (v := .int s_place) (C := R_Pen) (T := F_Pen) (N := 4) hx hb hts in_Pen hown hK hP 0 rfl rfl 0 (by decide) (hts _ k_185) (fun _ h9 => h9) rfl d_Tape_next_26 ?_
    refine lv_iconst (v := (1 : Int32)) hx hb d_Tape_next_29 (by decide) ?_
    refine lv_iadd hx hb d_Tape_next_30 ?_
    refine lv_topi (fun f_5 e_f_5 => ?_)
    have h := letB_at e_f_5 h
    refine va_put (D := D) (ci := 3) (v := .int f_5) (ty := .int) (C := R_Pen) (T := F_Pen) (N := 4) hx hb hts in_Pen t_Pen t_Pen_ok n_Pen hown hK hP hD hS 0 rfl rfl 0 (by decide) (hts _ k_185) (fun _ h9 => h9) rfl (by decide +kernel) rfl rfl (Nat.le_of_ble_eq_true rfl) d_Tape_next_31 (fun H locs hP hD hS => ?_)
    have hP : va_P D vwCl [(a_this, .inr (3, [.int f_5, .int s_ended, .int s_limit, .ref a_this_bytes])), (a_this_bytes, .inr (1, [.int s_bytes_count_3, .ref a_this_bytes_row])), (a_this_bytes_row, .inl (ar 2, 2400, .inl s_bytes_row_4))] H := hP
    have hD : va_D A [(a_this, .inr (3, [.int f_5, .int s_ended, .int s_limit, .ref a_this_bytes])), (a_this_bytes, .inr (1, [.int s_bytes_count_3, .ref a_this_bytes_row])), (a_this_bytes_row, .inl (ar 2, 2400, .inl s_bytes_row_4))] := hD
    refine lv_iload_n hx hb d_Tape_next_34 rfl (lv_at hl 0 rfl) ?_
    cases h
    exact sd_iret hx hb hr hlocks hP hD hK hS d_Tape_next_35
  · have h := Eq.trans (if_neg c_1).symm h
    refine lv_aload_n hx hb d_Tape_next_11 rfl (lv_at hl 0 rfl) ?_
    refine lv_iconst (v := (1 : Int32)) hx hb d_Tape_next_12 (by decide) ?_
    refine va_put (D := D) (ci := 3) (v := .int (1 : Int32)) (ty := .boolean) (C := R_Pen) (T := F_Pen) (N := 4) hx hb hts in_Pen t_Pen t_Pen_ok n_Pen hown hK hP hD hS 0 rfl rfl 1 (by decide) (hts _ k_193) (fun _ h9 => h9) rfl (by decide +kernel) rfl rfl (Nat.le_of_ble_eq_true rfl) d_Tape_next_13 (fun H locs hP hD hS => ?_)
    have hP : va_P D vwCl [(a_this, .inr (3, [.int s_place, .int (1 : Int32), .int s_limit, .ref a_this_bytes])), (a_this_bytes, .inr (1, [.int s_bytes_count, .ref a_this_bytes_row])), (a_this_bytes_row, .inl (ar 2, 2400, .inl s_bytes_row))] H := hP
    have hD : va_D A [(a_this, .inr (3, [.int s_place, .int (1 : Int32), .int s_limit, .ref a_this_bytes])), (a_this_bytes, .inr (1, [.int s_bytes_count, .ref a_this_bytes_row])), (a_this_bytes_row, .inl (ar 2, 2400, .inl s_bytes_row))] := hD
    refine lv_iconst (v := (-1 : Int32)) hx hb d_Tape_next_16 (by decide) ?_
    cases h
    exact sd_iret hx hb hr hlocks hP hD hK hS d_Tape_next_17
abbrev rm_Tape_say_Pen : Room := { frames := 3, cells := 0, slots := 0, locals := 66 }
def m_Tape_say_Pen_k4 (fu : Nat) (x1 : Int32) (s_limit : Int32) (rec : Int32 → Int32 → Int32 → Int32 → (Nat → Int32) → Option ((Int32 × Int32 × Int32 × (Nat → Int32)))) (x3 : Int32) (s_ended : Int32) (s_place : Int32) (s_bytes_count : Int32) (s_bytes_row : Nat → Int32) : Option ((Int32 × Int32 × Int32 × (Nat → Int32))) :=
  if x3 < (0 : Int32) then (some (s_ended, s_place, s_bytes_count, s_bytes_row)) else (bn5 (m_Tape_next_Pen fu ((x1 >>> (x3 &&& 31)) &&& (1 : Int32)) s_ended s_limit s_place s_bytes_count s_bytes_row) (fun r_3 s_ended_4 s_place_5 s_bytes_count_6 s_bytes_row_7 => letB (x3 + (-1 : Int32)) (fun x3_8 => rec x3_8 s_ended_4 s_place_5 s_bytes_count_6 s_bytes_row_7)))
set_option maxHeartbeats 4000000 in
set_option maxRecDepth 100000 in
theorem w_Tape_say_Pen_l4 {p : Program} {l : Launch} {e : Env} {s : State} {m : MethodId} {args : Array Value} {below : List Frame} {meth : Method} {c : Code} {D : va_G} {ar : Nat → ClassId} {A : Nat → Prop} {Q : State → Prop} {fu : Nat} {a_this a_this_bytes a_this_bytes_row : Nat} (C0 : CX p s m meth c args prog_9_method_5_code 4 none "FreeWavelets$Tape" D ar A) (x1 : Int32) (s_limit : Int32) : ∀ (n : Nat) (x3 : Int32) (s_ended : Int32) (s_place : Int32) (s_bytes_count : Int32) (s_bytes_row : Nat → Int32) (o_ended : Int32) (o_place : Int32) (o_bytes_count : Int32) (o_bytes_row : Nat → Int32), loop5 (m_Tape_say_Pen_k4 fu x1 s_limit) n x3 s_ended s_place s_bytes_count s_bytes_row = some (o_ended, o_place, o_bytes_count, o_bytes_row) → (WA p l e rm_Tape_say_Pen s m args below meth c D A 4 Q 24 [(a_this, .inr (3, [.int o_place, .int o_ended, .int s_limit, .ref a_this_bytes])), (a_this_bytes, .inr (1, [.int o_bytes_count, .ref a_this_bytes_row])), (a_this_bytes_row, .inl (ar 2, 2400, .inl o_bytes_row))] [] []) → WA p l e rm_Tape_say_Pen s m args below meth c D A 4 Q 4 [(a_this, .inr (3, [.int s_place, .int s_ended, .int s_limit, .ref a_this_bytes])), (a_this_bytes, .inr (1, [.int s_bytes_count, .ref a_this_bytes_row])), (a_this_bytes_row, .inl (ar 2, 2400, .inl s_bytes_row))] [(0, .ref a_this), (1, .int x1), (3, .int x3)] [] := by
  intro n
  induction n with
  | zero => intro x3 s_ended s_place s_bytes_count s_bytes_row o_ended o_place o_bytes_count o_bytes_row h; exact (no0 h).elim
  | succ n ih =>
    intro x3 s_ended s_place s_bytes_count s_bytes_row o_ended o_place o_bytes_count o_bytes_row h K1
    have hrec : ∀ (x3 : Int32) (s_ended : Int32) (s_place : Int32) (s_bytes_count : Int32) (s_bytes_row : Nat → Int32), loop5 (m_Tape_say_Pen_k4 fu x1 s_limit) n x3 s_ended s_place s_bytes_count s_bytes_row = some (o_ended, o_place, o_bytes_count, o_bytes_row) → WA p l e rm_Tape_say_Pen s m args below meth c D A 4 Q 4 [(a_this, .inr (3, [.int s_place, .int s_ended, .int s_limit, .ref a_this_bytes])), (a_this_bytes, .inr (1, [.int s_bytes_count, .ref a_this_bytes_row])), (a_this_bytes_row, .inl (ar 2, 2400, .inl s_bytes_row))] [(0, .ref a_this), (1, .int x1), (3, .int x3)] [] := fun x3 s_ended s_place s_bytes_count s_bytes_row h => ih x3 s_ended s_place s_bytes_count s_bytes_row o_ended o_place o_bytes_count o_bytes_row h K1
    clear ih
    intro H locs ls hP hD hS hl
    obtain ⟨hx, hb, hr, hml, hown, hts, hlocks, hA, hK, hZ⟩ := id C0
    have h : m_Tape_say_Pen_k4 fu x1 s_limit (loop5 (m_Tape_say_Pen_k4 fu x1 s_limit) n) x3 s_ended s_place s_bytes_count s_bytes_row = some (o_ended, o_place, o_bytes_count, o_bytes_row) := h
    unfold m_Tape_say_Pen_k4 at h
    refine lv_iload_n hx hb d_Tape_say_4 rfl (lv_at hl 2 rfl) ?_
    refine lv_if_lt (tgt := 24) hx hb d_Tape_say_5 (by decide) (fun c_2 => ?_) (fun c_2 => ?_)
    · have h := Eq.trans (if_pos c_2).symm h
      cases h
      exact K1 _ _ _ hP hD hS (lv_sub hl [] rfl)
    · have h := Eq.trans (if_neg c_2).symm h
      refine lv_aload_n hx hb d_Tape_say_8 rfl (lv_at hl 0 rfl) ?_
      refine lv_iload_n hx hb d_Tape_say_9 rfl (lv_at hl 1 rfl) ?_
      refine lv_iload_n hx hb d_Tape_say_10 rfl (lv_at hl 2 rfl) ?_
      refine lv_ishr hx hb d_Tape_say_11 ?_
      refine lv_iconst (v := (1 : Int32)) hx hb d_Tape_say_12 (by decide) ?_
      refine lv_iand hx hb d_Tape_say_13 ?_
      obtain ⟨r_3, s_ended_4, s_place_5, s_bytes_count_6, s_bytes_row_7, hcall, h⟩ := bn5_some h
      refine sd_i (wr := []) (va_runU (As := [.int ((x1 >>> (x3 &&& 31)) &&& (1 : Int32))]) (rest := []) ⟨hx, hb, hml, hown, hts⟩ (c_Tape_next_Pen a_this a_this_bytes a_this_bytes_row ((x1 >>> (x3 &&& 31)) &&& (1 : Int32)) s_ended s_limit s_place s_bytes_count s_bytes_row hcall _) (cw_U (owner := "FreeWavelets$Tape") 1 hts k_396 k_399 k_401 k_397 k_34 k_402 rfl rfl rfl (by decide +kernel) ⟨Nat.le_of_ble_eq_true rfl, Nat.le_of_ble_eq_true rfl⟩) (sd_preV hK hP hD hS hA hZ [0, 1, 2] (by decide) rfl (va_recv hK hP (ci := 3) (q0 := 0) rfl rfl)) rfl rfl hl.1 rfl (lv_room (Nat.le_of_ble_eq_true rfl)) d_Tape_say_14 ⟨Nat.le_of_ble_eq_true rfl, Nat.le_of_ble_eq_true rfl⟩) hP hD hS hA [0, 1, 2] [] rfl rfl (by decide) (by decide) (fun H locs hP hD hS => ?_)
      have hP : va_P D vwCl [(a_this, .inr (3, [.int s_place_5, .int s_ended_4, .int s_limit, .ref a_this_bytes])), (a_this_bytes, .inr (1, [.int s_bytes_count_6, .ref a_this_bytes_row])), (a_this_bytes_row, .inl (ar 2, 2400, .inl s_bytes_row_7))] H := hP
      have hD : va_D A [(a_this, .inr (3, [.int s_place_5, .int s_ended_4, .int s_limit, .ref a_this_bytes])), (a_this_bytes, .inr (1, [.int s_bytes_count_6, .ref a_this_bytes_row])), (a_this_bytes_row, .inl (ar 2, 2400, .inl s_bytes_row_7))] := hD
      refine lv_pop hx hb d_Tape_say_17 rfl ?_
      obtain ⟨x3_8, e_x3_8⟩ : ∃ y : Int32, y = x3 + (-1 : Int32) := ⟨_, rfl⟩
      have h := letB_at e_x3_8 h
      refine lv_iinc (v := x3_8) (lv' := [(3, .int x3_8), (0, .ref a_this), (1, .int x1)]) hx hb d_Tape_say_18 hl (k := 2) rfl (by rw [e_x3_8]; rfl) (by decide) rfl (fun ls hl => ?_)
      refine lv_goto (tgt := 4) hx hb d_Tape_say_21 (by decide) ?_
      exact hrec x3_8 s_ended_4 s_place_5 s_bytes_count_6 s_bytes_row_7 h _ _ _ hP hD hS (lv_sub hl [1, 2, 0] rfl)
def m_Tape_say_Pen (fu : Nat) (x1 : Int32) (x2 : Int32) (s_ended : Int32) (s_limit : Int32) (s_place : Int32) (s_bytes_count : Int32) (s_bytes_row : Nat → Int32) : Option (Int32 × Int32 × Int32 × (Nat → Int32)) :=
  letB (x2 - (1 : Int32)) (fun x3_1 => bn4 (loop5 (m_Tape_say_Pen_k4 fu x1 s_limit) fu x3_1 s_ended s_place s_bytes_count s_bytes_row) (fun o_ended_9 o_place_10 o_bytes_count_11 o_bytes_row_12 => some (o_ended_9, o_place_10, o_bytes_count_11, o_bytes_row_12)))
set_option maxHeartbeats 4000000 in
set_option maxRecDepth 100000 in
theorem c_Tape_say_Pen {l : Launch} {D : va_G} {ar : Nat → ClassId} {fu : Nat} (a_this a_this_bytes a_this_bytes_row : Nat) (x1 : Int32) (x2 : Int32) (s_ended : Int32) (s_limit : Int32) (s_place : Int32) (s_bytes_count : Int32) (s_bytes_row : Nat → Int32) {r_ended : Int32} {r_place : Int32} {r_bytes_count : Int32} {r_bytes_row : Nat → Int32} (h : m_Tape_say_Pen fu x1 x2 s_ended s_limit s_place s_bytes_count s_bytes_row = some (r_ended, r_place, r_bytes_count, r_bytes_row)) : StdV l y_Tape_say ws_Tape_say rm_Tape_say_Pen D ar [.ref a_this, .int x1, .int x2] [(a_this, .inr (3, [.int s_place, .int s_ended, .int s_limit, .ref a_this_bytes])), (a_this_bytes, .inr (1, [.int s_bytes_count, .ref a_this_bytes_row])), (a_this_bytes_row, .inl (ar 2, 2400, .inl s_bytes_row))] [(a_this, .inr (3, [.int r_place, .int r_ended, .int s_limit, .ref a_this_bytes])), (a_this_bytes, .inr (1, [.int r_bytes_count, .ref a_this_bytes_row])), (a_this_bytes_row, .inl (ar 2, 2400, .inl r_bytes_row))] := by
  refine sd_metV (cc := prog_9_method_5_code) (maxL := 4) (ret := none) (own := "FreeWavelets$Tape") (by decide) rfl rfl (Nat.le_of_ble_eq_true rfl) ?_
  intro p e s m below meth c A ls C0 hP hD hl
  obtain ⟨hx, hb, hr, hml, hown, hts, hlocks, hA, hK, hZ⟩ := id C0
  have hS : va_S A s.heap s.heap [] := va_S.rf
  have hl : lv_has ls 4 [(0, .ref a_this), (1, .int x1), (2, .int x2)] := hl
  unfold m_Tape_say_Pen at h
  refine lv_iload_n hx hb d_Tape_say_0 rfl (lv_at hl 2 rfl) ?_
  refine lv_iconst (v := (1 : Int32)) hx hb d_Tape_say_1 (by decide) ?_
  refine lv_isub hx hb d_Tape_say_2 ?_
  refine lv_topi (fun x3_1 e_x3_1 => ?_)
  have h := letB_at e_x3_1 h
  refine lv_istore_n (lv' := [(3, .int x3_1), (0, .ref a_this), (1, .int x1), (2, .int x2)]) hx hb d_Tape_say_3 rfl hl (by decide) rfl (fun ls hl => ?_)
  obtain ⟨o_ended_9, o_place_10, o_bytes_count_11, o_bytes_row_12, hloop, h⟩ := bn4_some h
  refine w_Tape_say_Pen_l4 C0 x1 s_limit fu x3_1 s_ended s_place s_bytes_count s_bytes_row _ _ _ _ hloop ?_ _ _ _ hP hD hS (lv_sub hl [1, 2, 0] rfl)
  clear hP hD hS hl hloop
  intro H locs ls hP hD hS hl
  cases h
  exact sd_vret hx hb hr hlocks hP hD hK hS d_Tape_say_24
abbrev rm_Head_writeRun_Pen : Room := { frames := 4, cells := 0, slots := 0, locals := 89 }
def m_Head_writeRun_Pen (fu : Nat) (x1 : Int32) (s_tape_ended : Int32) (s_tape_limit : Int32) (s_tape_place : Int32) (s_tape_bytes_count : Int32) (s_tape_bytes_row : Nat → Int32) : Option (Int32 × Int32 × Int32 × (Nat → Int32)) :=
  bn1 (m_FW_bitsOf fu (x1 + (1 : Int32))) (fun r_1 => bn4 (m_Tape_say_Pen fu (0 : Int32) (r_1 - (1 : Int32)) s_tape_ended s_tape_limit s_tape_place s_tape_bytes_count s_tape_bytes_row) (fun s_tape_ended_2 s_tape_place_3 s_tape_bytes_count_4 s_tape_bytes_row_5 => bn4 (m_Tape_say_Pen fu (x1 + (1 : Int32)) r_1 s_tape_ended_2 s_tape_limit s_tape_place_3 s_tape_bytes_count_4 s_tape_bytes_row_5) (fun s_tape_ended_6 s_tape_place_7 s_tape_bytes_count_8 s_tape_bytes_row_9 => some (s_tape_ended_6, s_tape_place_7, s_tape_bytes_count_8, s_tape_bytes_row_9))))
set_option maxHeartbeats 4000000 in
set_option maxRecDepth 100000 in
theorem c_Head_writeRun_Pen {l : Launch} {D : va_G} {ar : Nat → ClassId} {fu : Nat} (a_tape a_tape_bytes a_tape_bytes_row : Nat) (x1 : Int32) (s_tape_ended : Int32) (s_tape_limit : Int32) (s_tape_place : Int32) (s_tape_bytes_count : Int32) (s_tape_bytes_row : Nat → Int32) {r_tape_ended : Int32} {r_tape_place : Int32} {r_tape_bytes_count : Int32} {r_tape_bytes_row : Nat → Int32} (h : m_Head_writeRun_Pen fu x1 s_tape_ended s_tape_limit s_tape_place s_tape_bytes_count s_tape_bytes_row = some (r_tape_ended, r_tape_place, r_tape_bytes_count, r_tape_bytes_row)) : StdV l y_Head_writeRun ws_Head_writeRun rm_Head_writeRun_Pen D ar [.ref a_tape, .int x1] [(a_tape, .inr (3, [.int s_tape_place, .int s_tape_ended, .int s_tape_limit, .ref a_tape_bytes])), (a_tape_bytes, .inr (1, [.int s_tape_bytes_count, .ref a_tape_bytes_row])), (a_tape_bytes_row, .inl (ar 2, 2400, .inl s_tape_bytes_row))] [(a_tape, .inr (3, [.int r_tape_place, .int r_tape_ended, .int s_tape_limit, .ref a_tape_bytes])), (a_tape_bytes, .inr (1, [.int r_tape_bytes_count, .ref a_tape_bytes_row])), (a_tape_bytes_row, .inl (ar 2, 2400, .inl r_tape_bytes_row))] := by
  refine sd_metV (cc := prog_4_method_4_code) (maxL := 3) (ret := none) (own := "FreeWavelets$Head") (by decide) rfl rfl (Nat.le_of_ble_eq_true rfl) ?_
  intro p e s m below meth c A ls C0 hP hD hl
  obtain ⟨hx, hb, hr, hml, hown, hts, hlocks, hA, hK, hZ⟩ := id C0
  have hS : va_S A s.heap s.heap [] := va_S.rf
  have hl : lv_has ls 3 [(0, .ref a_tape), (1, .int x1)] := hl
  unfold m_Head_writeRun_Pen at h
  refine lv_iload_n hx hb d_Head_writeRun_0 rfl (lv_at hl 1 rfl) ?_
  refine lv_iconst (v := (1 : Int32)) hx hb d_Head_writeRun_1 (by decide) ?_
  refine lv_iadd hx hb d_Head_writeRun_2 ?_
  obtain ⟨r_1, hcall, h⟩ := bn1_some h
  refine sd_i (wr := [(a_tape, .inr (3, [.int s_tape_place, .int s_tape_ended, .int s_tape_limit, .ref a_tape_bytes])), (a_tape_bytes, .inr (1, [.int s_tape_bytes_count, .ref a_tape_bytes_row])), (a_tape_bytes_row, .inl (ar 2, 2400, .inl s_tape_bytes_row))]) (va_runSN (As := [.int (x1 + (1 : Int32))]) (rest := []) ⟨hx, hb, hml, hown, hts⟩ (c_FW_bitsOf 0 (x1 + (1 : Int32)) hcall _) (cw_SN 1 hts (hZ.nw k_431 rfl) k_364 k_29 k_365 rfl rfl (by decide +kernel) ⟨Nat.le_of_ble_eq_true rfl, Nat.le_of_ble_eq_true rfl⟩) (sd_preS hK hP hD hS hA hZ [] (by decide) rfl) rfl rfl hl.1 rfl (lv_room (Nat.le_of_ble_eq_true rfl)) d_Head_writeRun_3 ⟨Nat.le_of_ble_eq_true rfl, Nat.le_of_ble_eq_true rfl⟩) hP hD hS hA [] [0, 1, 2] rfl rfl (by decide) (by decide) (fun H locs hP hD hS => ?_)
  have hP : va_P D vwCl [(a_tape, .inr (3, [.int s_tape_place, .int s_tape_ended, .int s_tape_limit, .ref a_tape_bytes])), (a_tape_bytes, .inr (1, [.int s_tape_bytes_count, .ref a_tape_bytes_row])), (a_tape_bytes_row, .inl (ar 2, 2400, .inl s_tape_bytes_row))] H := hP
  have hD : va_D A [(a_tape, .inr (3, [.int s_tape_place, .int s_tape_ended, .int s_tape_limit, .ref a_tape_bytes])), (a_tape_bytes, .inr (1, [.int s_tape_bytes_count, .ref a_tape_bytes_row])), (a_tape_bytes_row, .inl (ar 2, 2400, .inl s_tape_bytes_row))] := hD
  refine lv_istore_n (lv' := [(2, .int r_1), (0, .ref a_tape), (1, .int x1)]) hx hb d_Head_writeRun_6 rfl hl (by decide) rfl (fun ls hl => ?_)
  refine lv_aload_n hx hb d_Head_writeRun_7 rfl (lv_at hl 1 rfl) ?_
  refine lv_iconst (v := (0 : Int32)) hx hb d_Head_writeRun_8 (by decide) ?_
  refine lv_iload_n hx hb d_Head_writeRun_9 rfl (lv_at hl 0 rfl) ?_
  refine lv_iconst (v := (1 : Int32)) hx hb d_Head_writeRun_10 (by decide) ?_
  refine lv_isub hx hb d_Head_writeRun_11 ?_
  obtain ⟨s_tape_ended_2, s_tape_place_3, s_tape_bytes_count_4, s_tape_bytes_row_5, hcall, h⟩ := bn4_some h
  refine sd_v (wr := []) (va_runU (As := [.int (0 : Int32), .int (r_1 - (1 : Int32))]) (rest := []) ⟨hx, hb, hml, hown, hts⟩ (c_Tape_say_Pen a_tape a_tape_bytes a_tape_bytes_row (0 : Int32) (r_1 - (1 : Int32)) s_tape_ended s_tape_limit s_tape_place s_tape_bytes_count s_tape_bytes_row hcall _) (cw_U (owner := "FreeWavelets$Tape") 2 hts k_389 k_392 k_394 k_390 k_34 k_395 rfl rfl rfl (by decide +kernel) ⟨Nat.le_of_ble_eq_true rfl, Nat.le_of_ble_eq_true rfl⟩) (sd_preV hK hP hD hS hA hZ [0, 1, 2] (by decide) rfl (va_recv hK hP (ci := 3) (q0 := 0) rfl rfl)) rfl rfl hl.1 rfl (lv_room (Nat.le_of_ble_eq_true rfl)) d_Head_writeRun_12 ⟨Nat.le_of_ble_eq_true rfl, Nat.le_of_ble_eq_true rfl⟩) hP hD hS hA [0, 1, 2] [] rfl rfl (by decide) (by decide) (fun H locs hP hD hS => ?_)
  have hP : va_P D vwCl [(a_tape, .inr (3, [.int s_tape_place_3, .int s_tape_ended_2, .int s_tape_limit, .ref a_tape_bytes])), (a_tape_bytes, .inr (1, [.int s_tape_bytes_count_4, .ref a_tape_bytes_row])), (a_tape_bytes_row, .inl (ar 2, 2400, .inl s_tape_bytes_row_5))] H := hP
  have hD : va_D A [(a_tape, .inr (3, [.int s_tape_place_3, .int s_tape_ended_2, .int s_tape_limit, .ref a_tape_bytes])), (a_tape_bytes, .inr (1, [.int s_tape_bytes_count_4, .ref a_tape_bytes_row])), (a_tape_bytes_row, .inl (ar 2, 2400, .inl s_tape_bytes_row_5))] := hD
  refine lv_aload_n hx hb d_Head_writeRun_15 rfl (lv_at hl 1 rfl) ?_
  refine lv_iload_n hx hb d_Head_writeRun_16 rfl (lv_at hl 2 rfl) ?_
  refine lv_iconst (v := (1 : Int32)) hx hb d_Head_writeRun_17 (by decide) ?_
  refine lv_iadd hx hb d_Head_writeRun_18 ?_
  refine lv_iload_n hx hb d_Head_writeRun_19 rfl (lv_at hl 0 rfl) ?_
  obtain ⟨s_tape_ended_6, s_tape_place_7, s_tape_bytes_count_8, s_tape_bytes_row_9, hcall, h⟩ := bn4_some h
  refine sd_v (wr := []) (va_runU (As := [.int (x1 + (1 : Int32)), .int r_1]) (rest := []) ⟨hx, hb, hml, hown, hts⟩ (c_Tape_say_Pen a_tape a_tape_bytes a_tape_bytes_row (x1 + (1 : Int32)) r_1 s_tape_ended_2 s_tape_limit s_tape_place_3 s_tape_bytes_count_4 s_tape_bytes_row_5 hcall _) (cw_U (owner := "FreeWavelets$Tape") 2 hts k_389 k_392 k_394 k_390 k_34 k_395 rfl rfl rfl (by decide +kernel) ⟨Nat.le_of_ble_eq_true rfl, Nat.le_of_ble_eq_true rfl⟩) (sd_preV hK hP hD hS hA hZ [0, 1, 2] (by decide) rfl (va_recv hK hP (ci := 3) (q0 := 0) rfl rfl)) rfl rfl hl.1 rfl (lv_room (Nat.le_of_ble_eq_true rfl)) d_Head_writeRun_20 ⟨Nat.le_of_ble_eq_true rfl, Nat.le_of_ble_eq_true rfl⟩) hP hD hS hA [0, 1, 2] [] rfl rfl (by decide) (by decide) (fun H locs hP hD hS => ?_)
  have hP : va_P D vwCl [(a_tape, .inr (3, [.int s_tape_place_7, .int s_tape_ended_6, .int s_tape_limit, .ref a_tape_bytes])), (a_tape_bytes, .inr (1, [.int s_tape_bytes_count_8, .ref a_tape_bytes_row])), (a_tape_bytes_row, .inl (ar 2, 2400, .inl s_tape_bytes_row_9))] H := hP
  have hD : va_D A [(a_tape, .inr (3, [.int s_tape_place_7, .int s_tape_ended_6, .int s_tape_limit, .ref a_tape_bytes])), (a_tape_bytes, .inr (1, [.int s_tape_bytes_count_8, .ref a_tape_bytes_row])), (a_tape_bytes_row, .inl (ar 2, 2400, .inl s_tape_bytes_row_9))] := hD
  cases h
  exact sd_vret hx hb hr hlocks hP hD hK hS d_Head_writeRun_23
abbrev rm_Head_write_Pen : Room := { frames := 5, cells := 0, slots := 0, locals := 111 }
def m_Head_write_Pen_b100 (fu : Nat) (rec : Int32 → Int32 → Int32 → Int32 → Int32 → Int32 → (Nat → Int32) → Option ((Int32 × Int32 × Int32 × Int32 × Int32 × (Nat → Int32)))) (x3 : Int32) (x4 : Int32) (x5 : Int32) (x6 : Int32) (s_picture_planes : Int32) (s_picture_shape_height : Int32) (s_picture_shape_width : Int32) (s_picture_shape_inside : Nat → Int32) (s_tape_ended : Int32) (s_tape_limit : Int32) (s_tape_place : Int32) (s_tape_bytes_count : Int32) (s_tape_bytes_row : Nat → Int32) : Option ((Int32 × Int32 × Int32 × Int32 × Int32 × (Nat → Int32))) :=
  letB (x4 + (1 : Int32)) (fun x4_18 => letB (x6 + (1 : Int32)) (fun x6_19 => rec x3 x4_18 x6_19 s_tape_ended s_tape_place s_tape_bytes_count s_tape_bytes_row))
set_option maxHeartbeats 4000000 in
set_option maxRecDepth 100000 in
theorem w_Head_write_Pen_b100 {p : Program} {l : Launch} {e : Env} {s : State} {m : MethodId} {args : Array Value} {below : List Frame} {meth : Method} {c : Code} {D : va_G} {ar : Nat → ClassId} {A : Nat → Prop} {Q : State → Prop} {fu : Nat} {a_tape a_picture a_tape_bytes a_tape_bytes_row a_picture_shape a_picture_samples a_picture_waves a_picture_lifting a_picture_shape_inside a_picture_shape_partOf a_picture_shape_sizeOf a_picture_shape_firstOf a_picture_shape_queue : Nat} {s_picture_stale : Int32} {s_picture_shape_parts : Int32} {s_picture_shape_count : Int32} {o_x3 : Int32} {o_x4 : Int32} {o_tape_ended : Int32} {o_tape_place : Int32} {o_tape_bytes_count : Int32} {o_tape_bytes_row : Nat → Int32} (C0 : CX p s m meth c args prog_4_method_2_code 7 none "FreeWavelets$Head" D ar A) (x3 : Int32) (x4 : Int32) (x5 : Int32) (x6 : Int32) (s_picture_planes : Int32) (s_picture_shape_height : Int32) (s_picture_shape_width : Int32) (s_picture_shape_inside : Nat → Int32) (s_tape_ended : Int32) (s_tape_limit : Int32) (s_tape_place : Int32) (s_tape_bytes_count : Int32) (s_tape_bytes_row : Nat → Int32) (rec : Int32 → Int32 → Int32 → Int32 → Int32 → Int32 → (Nat → Int32) → Option ((Int32 × Int32 × Int32 × Int32 × Int32 × (Nat → Int32)))) (hrec : ∀ (x3 : Int32) (x4 : Int32) (x6 : Int32) (s_tape_ended : Int32) (s_tape_place : Int32) (s_tape_bytes_count : Int32) (s_tape_bytes_row : Nat → Int32), rec x3 x4 x6 s_tape_ended s_tape_place s_tape_bytes_count s_tape_bytes_row = some (o_x3, o_x4, o_tape_ended, o_tape_place, o_tape_bytes_count, o_tape_bytes_row) → WA p l e rm_Head_write_Pen s m args below meth c D A 7 Q 56 [(a_tape, .inr (3, [.int s_tape_place, .int s_tape_ended, .int s_tape_limit, .ref a_tape_bytes])), (a_tape_bytes, .inr (1, [.int s_tape_bytes_count, .ref a_tape_bytes_row])), (a_tape_bytes_row, .inl (ar 2, 2400, .inl s_tape_bytes_row)), (a_picture, .inr (6, [.ref a_picture_shape, .ref a_picture_samples, .ref a_picture_waves, .int s_picture_planes, .ref a_picture_lifting, .int s_picture_stale])), (a_picture_shape, .inr (7, [.ref a_picture_shape_inside, .ref a_picture_shape_partOf, .ref a_picture_shape_sizeOf, .ref a_picture_shape_firstOf, .int s_picture_shape_width, .int s_picture_shape_height, .int s_picture_shape_parts, .int s_picture_shape_count, .ref a_picture_shape_queue])), (a_picture_shape_inside, .inl (ar 1, 256, .inl s_picture_shape_inside))] [(0, .ref a_tape), (2, .ref a_picture_shape), (3, .int x3), (4, .int x4), (5, .int x5), (6, .int x6)] []) (K1 : WA p l e rm_Head_write_Pen s m args below meth c D A 7 Q 109 [(a_tape, .inr (3, [.int o_tape_place, .int o_tape_ended, .int s_tape_limit, .ref a_tape_bytes])), (a_tape_bytes, .inr (1, [.int o_tape_bytes_count, .ref a_tape_bytes_row])), (a_tape_bytes_row, .inl (ar 2, 2400, .inl o_tape_bytes_row)), (a_picture, .inr (6, [.ref a_picture_shape, .ref a_picture_samples, .ref a_picture_waves, .int s_picture_planes, .ref a_picture_lifting, .int s_picture_stale])), (a_picture_shape, .inr (7, [.ref a_picture_shape_inside, .ref a_picture_shape_partOf, .ref a_picture_shape_sizeOf, .ref a_picture_shape_firstOf, .int s_picture_shape_width, .int s_picture_shape_height, .int s_picture_shape_parts, .int s_picture_shape_count, .ref a_picture_shape_queue])), (a_picture_shape_inside, .inl (ar 1, 256, .inl s_picture_shape_inside))] [(0, .ref a_tape), (2, .ref a_picture_shape), (3, .int o_x3), (4, .int o_x4), (5, .int x5)] []) (h : m_Head_write_Pen_b100 fu rec x3 x4 x5 x6 s_picture_planes s_picture_shape_height s_picture_shape_width s_picture_shape_inside s_tape_ended s_tape_limit s_tape_place s_tape_bytes_count s_tape_bytes_row = some (o_x3, o_x4, o_tape_ended, o_tape_place, o_tape_bytes_count, o_tape_bytes_row)) : WA p l e rm_Head_write_Pen s m args below meth c D A 7 Q 100 [(a_tape, .inr (3, [.int s_tape_place, .int s_tape_ended, .int s_tape_limit, .ref a_tape_bytes])), (a_tape_bytes, .inr (1, [.int s_tape_bytes_count, .ref a_tape_bytes_row])), (a_tape_bytes_row, .inl (ar 2, 2400, .inl s_tape_bytes_row)), (a_picture, .inr (6, [.ref a_picture_shape, .ref a_picture_samples, .ref a_picture_waves, .int s_picture_planes, .ref a_picture_lifting, .int s_picture_stale])), (a_picture_shape, .inr (7, [.ref a_picture_shape_inside, .ref a_picture_shape_partOf, .ref a_picture_shape_sizeOf, .ref a_picture_shape_firstOf, .int s_picture_shape_width, .int s_picture_shape_height, .int s_picture_shape_parts, .int s_picture_shape_count, .ref a_picture_shape_queue])), (a_picture_shape_inside, .inl (ar 1, 256, .inl s_picture_shape_inside))] [(0, .ref a_tape), (2, .ref a_picture_shape), (3, .int x3), (4, .int x4), (5, .int x5), (6, .int x6)] [] := by
  intro H locs ls hP hD hS hl
  obtain ⟨hx, hb, hr, hml, hown, hts, hlocks, hA, hK, hZ⟩ := id C0
  unfold m_Head_write_Pen_b100 at h
  obtain ⟨x4_18, e_x4_18⟩ : ∃ y : Int32, y = x4 + (1 : Int32) := ⟨_, rfl⟩
  have h := letB_at e_x4_18 h
  refine lv_iinc (v := x4_18) (lv' := [(4, .int x4_18), (0, .ref a_tape), (2, .ref a_picture_shape), (3, .int x3), (5, .int x5), (6, .int x6)]) hx hb d_Head_write_100 hl (k := 3) rfl (by rw [e_x4_18]; rfl) (by decide) rfl (fun ls hl => ?_)
  obtain ⟨x6_19, e_x6_19⟩ : ∃ y : Int32, y = x6 + (1 : Int32) := ⟨_, rfl⟩
  have h := letB_at e_x6_19 h
  refine lv_iinc (v := x6_19) (lv' := [(6, .int x6_19), (4, .int x4_18), (0, .ref a_tape), (2, .ref a_picture_shape), (3, .int x3), (5, .int x5)]) hx hb d_Head_write_103 hl (k := 5) rfl (by rw [e_x6_19]; rfl) (by decide) rfl (fun ls hl => ?_)
  refine lv_goto (tgt := 56) hx hb d_Head_write_106 (by decide) ?_
  exact hrec x3 x4_18 x6_19 s_tape_ended s_tape_place s_tape_bytes_count s_tape_bytes_row h _ _ _ hP hD hS (lv_sub hl [2, 3, 4, 1, 5, 0] rfl)
def m_Head_write_Pen_b96 (fu : Nat) (rec : Int32 → Int32 → Int32 → Int32 → Int32 → Int32 → (Nat → Int32) → Option ((Int32 × Int32 × Int32 × Int32 × Int32 × (Nat → Int32)))) (x5 : Int32) (x6 : Int32) (t0 : Int32) (s_picture_planes : Int32) (s_picture_shape_height : Int32) (s_picture_shape_width : Int32) (s_picture_shape_inside : Nat → Int32) (s_tape_ended : Int32) (s_tape_limit : Int32) (s_tape_place : Int32) (s_tape_bytes_count : Int32) (s_tape_bytes_row : Nat → Int32) : Option ((Int32 × Int32 × Int32 × Int32 × Int32 × (Nat → Int32))) :=
  m_Head_write_Pen_b100 fu rec t0 (0 : Int32) x5 x6 s_picture_planes s_picture_shape_height s_picture_shape_width s_picture_shape_inside s_tape_ended s_tape_limit s_tape_place s_tape_bytes_count s_tape_bytes_row
set_option maxHeartbeats 4000000 in
set_option maxRecDepth 100000 in
theorem w_Head_write_Pen_b96 {p : Program} {l : Launch} {e : Env} {s : State} {m : MethodId} {args : Array Value} {below : List Frame} {meth : Method} {c : Code} {D : va_G} {ar : Nat → ClassId} {A : Nat → Prop} {Q : State → Prop} {fu : Nat} {a_tape a_picture a_tape_bytes a_tape_bytes_row a_picture_shape a_picture_samples a_picture_waves a_picture_lifting a_picture_shape_inside a_picture_shape_partOf a_picture_shape_sizeOf a_picture_shape_firstOf a_picture_shape_queue : Nat} {s_picture_stale : Int32} {s_picture_shape_parts : Int32} {s_picture_shape_count : Int32} {o_x3 : Int32} {o_x4 : Int32} {o_tape_ended : Int32} {o_tape_place : Int32} {o_tape_bytes_count : Int32} {o_tape_bytes_row : Nat → Int32} (C0 : CX p s m meth c args prog_4_method_2_code 7 none "FreeWavelets$Head" D ar A) (x5 : Int32) (x6 : Int32) (t0 : Int32) (s_picture_planes : Int32) (s_picture_shape_height : Int32) (s_picture_shape_width : Int32) (s_picture_shape_inside : Nat → Int32) (s_tape_ended : Int32) (s_tape_limit : Int32) (s_tape_place : Int32) (s_tape_bytes_count : Int32) (s_tape_bytes_row : Nat → Int32) (rec : Int32 → Int32 → Int32 → Int32 → Int32 → Int32 → (Nat → Int32) → Option ((Int32 × Int32 × Int32 × Int32 × Int32 × (Nat → Int32)))) (hrec : ∀ (x3 : Int32) (x4 : Int32) (x6 : Int32) (s_tape_ended : Int32) (s_tape_place : Int32) (s_tape_bytes_count : Int32) (s_tape_bytes_row : Nat → Int32), rec x3 x4 x6 s_tape_ended s_tape_place s_tape_bytes_count s_tape_bytes_row = some (o_x3, o_x4, o_tape_ended, o_tape_place, o_tape_bytes_count, o_tape_bytes_row) → WA p l e rm_Head_write_Pen s m args below meth c D A 7 Q 56 [(a_tape, .inr (3, [.int s_tape_place, .int s_tape_ended, .int s_tape_limit, .ref a_tape_bytes])), (a_tape_bytes, .inr (1, [.int s_tape_bytes_count, .ref a_tape_bytes_row])), (a_tape_bytes_row, .inl (ar 2, 2400, .inl s_tape_bytes_row)), (a_picture, .inr (6, [.ref a_picture_shape, .ref a_picture_samples, .ref a_picture_waves, .int s_picture_planes, .ref a_picture_lifting, .int s_picture_stale])), (a_picture_shape, .inr (7, [.ref a_picture_shape_inside, .ref a_picture_shape_partOf, .ref a_picture_shape_sizeOf, .ref a_picture_shape_firstOf, .int s_picture_shape_width, .int s_picture_shape_height, .int s_picture_shape_parts, .int s_picture_shape_count, .ref a_picture_shape_queue])), (a_picture_shape_inside, .inl (ar 1, 256, .inl s_picture_shape_inside))] [(0, .ref a_tape), (2, .ref a_picture_shape), (3, .int x3), (4, .int x4), (5, .int x5), (6, .int x6)] []) (K1 : WA p l e rm_Head_write_Pen s m args below meth c D A 7 Q 109 [(a_tape, .inr (3, [.int o_tape_place, .int o_tape_ended, .int s_tape_limit, .ref a_tape_bytes])), (a_tape_bytes, .inr (1, [.int o_tape_bytes_count, .ref a_tape_bytes_row])), (a_tape_bytes_row, .inl (ar 2, 2400, .inl o_tape_bytes_row)), (a_picture, .inr (6, [.ref a_picture_shape, .ref a_picture_samples, .ref a_picture_waves, .int s_picture_planes, .ref a_picture_lifting, .int s_picture_stale])), (a_picture_shape, .inr (7, [.ref a_picture_shape_inside, .ref a_picture_shape_partOf, .ref a_picture_shape_sizeOf, .ref a_picture_shape_firstOf, .int s_picture_shape_width, .int s_picture_shape_height, .int s_picture_shape_parts, .int s_picture_shape_count, .ref a_picture_shape_queue])), (a_picture_shape_inside, .inl (ar 1, 256, .inl s_picture_shape_inside))] [(0, .ref a_tape), (2, .ref a_picture_shape), (3, .int o_x3), (4, .int o_x4), (5, .int x5)] []) (h : m_Head_write_Pen_b96 fu rec x5 x6 t0 s_picture_planes s_picture_shape_height s_picture_shape_width s_picture_shape_inside s_tape_ended s_tape_limit s_tape_place s_tape_bytes_count s_tape_bytes_row = some (o_x3, o_x4, o_tape_ended, o_tape_place, o_tape_bytes_count, o_tape_bytes_row)) : WA p l e rm_Head_write_Pen s m args below meth c D A 7 Q 96 [(a_tape, .inr (3, [.int s_tape_place, .int s_tape_ended, .int s_tape_limit, .ref a_tape_bytes])), (a_tape_bytes, .inr (1, [.int s_tape_bytes_count, .ref a_tape_bytes_row])), (a_tape_bytes_row, .inl (ar 2, 2400, .inl s_tape_bytes_row)), (a_picture, .inr (6, [.ref a_picture_shape, .ref a_picture_samples, .ref a_picture_waves, .int s_picture_planes, .ref a_picture_lifting, .int s_picture_stale])), (a_picture_shape, .inr (7, [.ref a_picture_shape_inside, .ref a_picture_shape_partOf, .ref a_picture_shape_sizeOf, .ref a_picture_shape_firstOf, .int s_picture_shape_width, .int s_picture_shape_height, .int s_picture_shape_parts, .int s_picture_shape_count, .ref a_picture_shape_queue])), (a_picture_shape_inside, .inl (ar 1, 256, .inl s_picture_shape_inside))] [(0, .ref a_tape), (2, .ref a_picture_shape), (5, .int x5), (6, .int x6)] [.int t0] := by
  intro H locs ls hP hD hS hl
  obtain ⟨hx, hb, hr, hml, hown, hts, hlocks, hA, hK, hZ⟩ := id C0
  unfold m_Head_write_Pen_b96 at h
  refine lv_istore_n (lv' := [(3, .int t0), (0, .ref a_tape), (2, .ref a_picture_shape), (5, .int x5), (6, .int x6)]) hx hb d_Head_write_96 rfl hl (by decide) rfl (fun ls hl => ?_)
  refine lv_iconst (v := (0 : Int32)) hx hb d_Head_write_97 (by decide) ?_
  refine lv_istore (lv' := [(4, .int (0 : Int32)), (3, .int t0), (0, .ref a_tape), (2, .ref a_picture_shape), (5, .int x5), (6, .int x6)]) hx hb d_Head_write_98 hl (by decide) rfl (fun ls hl => ?_)
  exact w_Head_write_Pen_b100 C0 t0 (0 : Int32) x5 x6 s_picture_planes s_picture_shape_height s_picture_shape_width s_picture_shape_inside s_tape_ended s_tape_limit s_tape_place s_tape_bytes_count s_tape_bytes_row _ hrec K1 h _ _ _ hP hD hS (lv_sub hl [2, 3, 1, 0, 4, 5] rfl)
def m_Head_write_Pen_k56 (fu : Nat) (x5 : Int32) (s_picture_planes : Int32) (s_picture_shape_height : Int32) (s_picture_shape_width : Int32) (s_picture_shape_inside : Nat → Int32) (s_tape_limit : Int32) (rec : Int32 → Int32 → Int32 → Int32 → Int32 → Int32 → (Nat → Int32) → Option ((Int32 × Int32 × Int32 × Int32 × Int32 × (Nat → Int32)))) (x3 : Int32) (x4 : Int32) (x6 : Int32) (s_tape_ended : Int32) (s_tape_place : Int32) (s_tape_bytes_count : Int32) (s_tape_bytes_row : Nat → Int32) : Option ((Int32 × Int32 × Int32 × Int32 × Int32 × (Nat → Int32))) :=
  if s_picture_shape_width ≤ x6 then (some (x3, x4, s_tape_ended, s_tape_place, s_tape_bytes_count, s_tape_bytes_row)) else (bn1 (m_FW_sampleOf fu x6 x5) (fun r_15 => chk r_15 256 (if (s_picture_shape_inside (r_15).toNatClampNeg) = x3 then (m_Head_write_Pen_b100 fu rec x3 x4 x5 x6 s_picture_planes s_picture_shape_height s_picture_shape_width s_picture_shape_inside s_tape_ended s_tape_limit s_tape_place s_tape_bytes_count s_tape_bytes_row) else (bn4 (m_Head_writeRun_Pen fu x4 s_tape_ended s_tape_limit s_tape_place s_tape_bytes_count s_tape_bytes_row) (fun s_tape_ended_20 s_tape_place_21 s_tape_bytes_count_22 s_tape_bytes_row_23 => if x3 = (0 : Int32) then (m_Head_write_Pen_b96 fu rec x5 x6 (1 : Int32) s_picture_planes s_picture_shape_height s_picture_shape_width s_picture_shape_inside s_tape_ended_20 s_tape_limit s_tape_place_21 s_tape_bytes_count_22 s_tape_bytes_row_23) else (m_Head_write_Pen_b96 fu rec x5 x6 (0 : Int32) s_picture_planes s_picture_shape_height s_picture_shape_width s_picture_shape_inside s_tape_ended_20 s_tape_limit s_tape_place_21 s_tape_bytes_count_22 s_tape_bytes_row_23))))))
set_option maxHeartbeats 4000000 in
set_option maxRecDepth 100000 in
theorem w_Head_write_Pen_l56 {p : Program} {l : Launch} {e : Env} {s : State} {m : MethodId} {args : Array Value} {below : List Frame} {meth : Method} {c : Code} {D : va_G} {ar : Nat → ClassId} {A : Nat → Prop} {Q : State → Prop} {fu : Nat} {a_tape a_picture a_tape_bytes a_tape_bytes_row a_picture_shape a_picture_samples a_picture_waves a_picture_lifting a_picture_shape_inside a_picture_shape_partOf a_picture_shape_sizeOf a_picture_shape_firstOf a_picture_shape_queue : Nat} {s_picture_stale : Int32} {s_picture_shape_parts : Int32} {s_picture_shape_count : Int32} (C0 : CX p s m meth c args prog_4_method_2_code 7 none "FreeWavelets$Head" D ar A) (x5 : Int32) (s_picture_planes : Int32) (s_picture_shape_height : Int32) (s_picture_shape_width : Int32) (s_picture_shape_inside : Nat → Int32) (s_tape_limit : Int32) : ∀ (n : Nat) (x3 : Int32) (x4 : Int32) (x6 : Int32) (s_tape_ended : Int32) (s_tape_place : Int32) (s_tape_bytes_count : Int32) (s_tape_bytes_row : Nat → Int32) (o_x3 : Int32) (o_x4 : Int32) (o_tape_ended : Int32) (o_tape_place : Int32) (o_tape_bytes_count : Int32) (o_tape_bytes_row : Nat → Int32), loop7 (m_Head_write_Pen_k56 fu x5 s_picture_planes s_picture_shape_height s_picture_shape_width s_picture_shape_inside s_tape_limit) n x3 x4 x6 s_tape_ended s_tape_place s_tape_bytes_count s_tape_bytes_row = some (o_x3, o_x4, o_tape_ended, o_tape_place, o_tape_bytes_count, o_tape_bytes_row) → (WA p l e rm_Head_write_Pen s m args below meth c D A 7 Q 109 [(a_tape, .inr (3, [.int o_tape_place, .int o_tape_ended, .int s_tape_limit, .ref a_tape_bytes])), (a_tape_bytes, .inr (1, [.int o_tape_bytes_count, .ref a_tape_bytes_row])), (a_tape_bytes_row, .inl (ar 2, 2400, .inl o_tape_bytes_row)), (a_picture, .inr (6, [.ref a_picture_shape, .ref a_picture_samples, .ref a_picture_waves, .int s_picture_planes, .ref a_picture_lifting, .int s_picture_stale])), (a_picture_shape, .inr (7, [.ref a_picture_shape_inside, .ref a_picture_shape_partOf, .ref a_picture_shape_sizeOf, .ref a_picture_shape_firstOf, .int s_picture_shape_width, .int s_picture_shape_height, .int s_picture_shape_parts, .int s_picture_shape_count, .ref a_picture_shape_queue])), (a_picture_shape_inside, .inl (ar 1, 256, .inl s_picture_shape_inside))] [(0, .ref a_tape), (2, .ref a_picture_shape), (3, .int o_x3), (4, .int o_x4), (5, .int x5)] []) → WA p l e rm_Head_write_Pen s m args below meth c D A 7 Q 56 [(a_tape, .inr (3, [.int s_tape_place, .int s_tape_ended, .int s_tape_limit, .ref a_tape_bytes])), (a_tape_bytes, .inr (1, [.int s_tape_bytes_count, .ref a_tape_bytes_row])), (a_tape_bytes_row, .inl (ar 2, 2400, .inl s_tape_bytes_row)), (a_picture, .inr (6, [.ref a_picture_shape, .ref a_picture_samples, .ref a_picture_waves, .int s_picture_planes, .ref a_picture_lifting, .int s_picture_stale])), (a_picture_shape, .inr (7, [.ref a_picture_shape_inside, .ref a_picture_shape_partOf, .ref a_picture_shape_sizeOf, .ref a_picture_shape_firstOf, .int s_picture_shape_width, .int s_picture_shape_height, .int s_picture_shape_parts, .int s_picture_shape_count, .ref a_picture_shape_queue])), (a_picture_shape_inside, .inl (ar 1, 256, .inl s_picture_shape_inside))] [(0, .ref a_tape), (2, .ref a_picture_shape), (3, .int x3), (4, .int x4), (5, .int x5), (6, .int x6)] [] := by
  intro n
  induction n with
  | zero => intro x3 x4 x6 s_tape_ended s_tape_place s_tape_bytes_count s_tape_bytes_row o_x3 o_x4 o_tape_ended o_tape_place o_tape_bytes_count o_tape_bytes_row h; exact (no0 h).elim
  | succ n ih =>
    intro x3 x4 x6 s_tape_ended s_tape_place s_tape_bytes_count s_tape_bytes_row o_x3 o_x4 o_tape_ended o_tape_place o_tape_bytes_count o_tape_bytes_row h K1
    have hrec : ∀ (x3 : Int32) (x4 : Int32) (x6 : Int32) (s_tape_ended : Int32) (s_tape_place : Int32) (s_tape_bytes_count : Int32) (s_tape_bytes_row : Nat → Int32), loop7 (m_Head_write_Pen_k56 fu x5 s_picture_planes s_picture_shape_height s_picture_shape_width s_picture_shape_inside s_tape_limit) n x3 x4 x6 s_tape_ended s_tape_place s_tape_bytes_count s_tape_bytes_row = some (o_x3, o_x4, o_tape_ended, o_tape_place, o_tape_bytes_count, o_tape_bytes_row) → WA p l e rm_Head_write_Pen s m args below meth c D A 7 Q 56 [(a_tape, .inr (3, [.int s_tape_place, .int s_tape_ended, .int s_tape_limit, .ref a_tape_bytes])), (a_tape_bytes, .inr (1, [.int s_tape_bytes_count, .ref a_tape_bytes_row])), (a_tape_bytes_row, .inl (ar 2, 2400, .inl s_tape_bytes_row)), (a_picture, .inr (6, [.ref a_picture_shape, .ref a_picture_samples, .ref a_picture_waves, .int s_picture_planes, .ref a_picture_lifting, .int s_picture_stale])), (a_picture_shape, .inr (7, [.ref a_picture_shape_inside, .ref a_picture_shape_partOf, .ref a_picture_shape_sizeOf, .ref a_picture_shape_firstOf, .int s_picture_shape_width, .int s_picture_shape_height, .int s_picture_shape_parts, .int s_picture_shape_count, .ref a_picture_shape_queue])), (a_picture_shape_inside, .inl (ar 1, 256, .inl s_picture_shape_inside))] [(0, .ref a_tape), (2, .ref a_picture_shape), (3, .int x3), (4, .int x4), (5, .int x5), (6, .int x6)] [] := fun x3 x4 x6 s_tape_ended s_tape_place s_tape_bytes_count s_tape_bytes_row h => ih x3 x4 x6 s_tape_ended s_tape_place s_tape_bytes_count s_tape_bytes_row o_x3 o_x4 o_tape_ended o_tape_place o_tape_bytes_count o_tape_bytes_row h K1
    clear ih
    intro H locs ls hP hD hS hl
    obtain ⟨hx, hb, hr, hml, hown, hts, hlocks, hA, hK, hZ⟩ := id C0
    have h : m_Head_write_Pen_k56 fu x5 s_picture_planes s_picture_shape_height s_picture_shape_width s_picture_shape_inside s_tape_limit (loop7 (m_Head_write_Pen_k56 fu x5 s_picture_planes s_picture_shape_height s_picture_shape_width s_picture_shape_inside s_tape_limit) n) x3 x4 x6 s_tape_ended s_tape_place s_tape_bytes_count s_tape_bytes_row = some (o_x3, o_x4, o_tape_ended, o_tape_place, o_tape_bytes_count, o_tape_bytes_row) := h
    unfold m_Head_write_Pen_k56 at h
    refine lv_iload hx hb d_Head_write_56 (lv_at hl 5 rfl) ?_
    refine lv_aload_n hx hb d_Head_write_58 rfl (lv_at hl 1 rfl) ?_
    refine va_get (D := D) (ci := 7) (v := .int s_picture_shape_width) (C := R_Shape) (T := F_Shape) (N := 9) hx hb hts in_Shape hown hK hP 4 rfl rfl 4 (by decide) (hts _ k_83) (fun _ h9 => h9) rfl d_Head_write_59 ?_
    refine lv_icmp_ge (tgt := 109) hx hb d_Head_write_62 (by decide) (fun c_14 => ?_) (fun c_14 => ?_)
    · have h := Eq.trans (if_pos c_14).symm h
      cases h
      exact K1 _ _ _ hP hD hS (lv_sub hl [0, 1, 2, 3, 4] rfl)
    · have h := Eq.trans (if_neg c_14).symm h
      refine lv_aload_n hx hb d_Head_write_65 rfl (lv_at hl 1 rfl) ?_
      refine va_get (D := D) (ci := 7) (v := .ref a_picture_shape_inside) (C := R_Shape) (T := F_Shape) (N := 9) hx hb hts in_Shape hown hK hP 4 rfl rfl 0 (by decide) (hts _ k_72) (fun _ h9 => h9) rfl d_Head_write_66 ?_
      refine lv_iload hx hb d_Head_write_69 (lv_at hl 5 rfl) ?_
      refine lv_iload hx hb d_Head_write_71 (lv_at hl 4 rfl) ?_
      obtain ⟨r_15, hcall, h⟩ := bn1_some h
      refine sd_i (wr := [(a_tape, .inr (3, [.int s_tape_place, .int s_tape_ended, .int s_tape_limit, .ref a_tape_bytes])), (a_tape_bytes, .inr (1, [.int s_tape_bytes_count, .ref a_tape_bytes_row])), (a_tape_bytes_row, .inl (ar 2, 2400, .inl s_tape_bytes_row)), (a_picture, .inr (6, [.ref a_picture_shape, .ref a_picture_samples, .ref a_picture_waves, .int s_picture_planes, .ref a_picture_lifting, .int s_picture_stale])), (a_picture_shape, .inr (7, [.ref a_picture_shape_inside, .ref a_picture_shape_partOf, .ref a_picture_shape_sizeOf, .ref a_picture_shape_firstOf, .int s_picture_shape_width, .int s_picture_shape_height, .int s_picture_shape_parts, .int s_picture_shape_count, .ref a_picture_shape_queue])), (a_picture_shape_inside, .inl (ar 1, 256, .inl s_picture_shape_inside))]) (va_runSN (As := [.int x6, .int x5]) (rest := [.ref a_picture_shape_inside]) ⟨hx, hb, hml, hown, hts⟩ (c_FW_sampleOf 0 x6 x5 hcall _) (cw_SN 2 hts (hZ.nw k_427 rfl) k_276 k_29 k_277 rfl rfl (by decide +kernel) ⟨Nat.le_of_ble_eq_true rfl, Nat.le_of_ble_eq_true rfl⟩) (sd_preS hK hP hD hS hA hZ [] (by decide) rfl) rfl rfl hl.1 rfl (lv_room (Nat.le_of_ble_eq_true rfl)) d_Head_write_73 ⟨Nat.le_of_ble_eq_true rfl, Nat.le_of_ble_eq_true rfl⟩) hP hD hS hA [] [0, 1, 2, 3, 4, 5] rfl rfl (by decide) (by decide) (fun H locs hP hD hS => ?_)
      have hP : va_P D vwCl [(a_tape, .inr (3, [.int s_tape_place, .int s_tape_ended, .int s_tape_limit, .ref a_tape_bytes])), (a_tape_bytes, .inr (1, [.int s_tape_bytes_count, .ref a_tape_bytes_row])), (a_tape_bytes_row, .inl (ar 2, 2400, .inl s_tape_bytes_row)), (a_picture, .inr (6, [.ref a_picture_shape, .ref a_picture_samples, .ref a_picture_waves, .int s_picture_planes, .ref a_picture_lifting, .int s_picture_stale])), (a_picture_shape, .inr (7, [.ref a_picture_shape_inside, .ref a_picture_shape_partOf, .ref a_picture_shape_sizeOf, .ref a_picture_shape_firstOf, .int s_picture_shape_width, .int s_picture_shape_height, .int s_picture_shape_parts, .int s_picture_shape_count, .ref a_picture_shape_queue])), (a_picture_shape_inside, .inl (ar 1, 256, .inl s_picture_shape_inside))] H := hP
      have hD : va_D A [(a_tape, .inr (3, [.int s_tape_place, .int s_tape_ended, .int s_tape_limit, .ref a_tape_bytes])), (a_tape_bytes, .inr (1, [.int s_tape_bytes_count, .ref a_tape_bytes_row])), (a_tape_bytes_row, .inl (ar 2, 2400, .inl s_tape_bytes_row)), (a_picture, .inr (6, [.ref a_picture_shape, .ref a_picture_samples, .ref a_picture_waves, .int s_picture_planes, .ref a_picture_lifting, .int s_picture_stale])), (a_picture_shape, .inr (7, [.ref a_picture_shape_inside, .ref a_picture_shape_partOf, .ref a_picture_shape_sizeOf, .ref a_picture_shape_firstOf, .int s_picture_shape_width, .int s_picture_shape_height, .int s_picture_shape_parts, .int s_picture_shape_count, .ref a_picture_shape_queue])), (a_picture_shape_inside, .inl (ar 1, 256, .inl s_picture_shape_inside))] := hD
      obtain ⟨b_16, h⟩ := chk_some h
      refine va_zald hx hb hK hP 5 1 rfl rfl b_16 d_Head_write_76 ?_
      refine lv_iload_n hx hb d_Head_write_77 rfl (lv_at hl 2 rfl) ?_
      refine lv_icmp_eq (tgt := 100) hx hb d_Head_write_78 (by decide) (fun c_17 => ?_) (fun c_17 => ?_)
      · have h := Eq.trans (if_pos c_17).symm h
        exact w_Head_write_Pen_b100 C0 x3 x4 x5 x6 s_picture_planes s_picture_shape_height s_picture_shape_width s_picture_shape_inside s_tape_ended s_tape_limit s_tape_place s_tape_bytes_count s_tape_bytes_row _ hrec K1 h _ _ _ hP hD hS hl
      · have h := Eq.trans (if_neg c_17).symm h
        refine lv_aload_n hx hb d_Head_write_81 rfl (lv_at hl 0 rfl) ?_
        refine lv_iload hx hb d_Head_write_82 (lv_at hl 3 rfl) ?_
        obtain ⟨s_tape_ended_20, s_tape_place_21, s_tape_bytes_count_22, s_tape_bytes_row_23, hcall, h⟩ := bn4_some h
        refine sd_v (wr := [(a_picture, .inr (6, [.ref a_picture_shape, .ref a_picture_samples, .ref a_picture_waves, .int s_picture_planes, .ref a_picture_lifting, .int s_picture_stale])), (a_picture_shape, .inr (7, [.ref a_picture_shape_inside, .ref a_picture_shape_partOf, .ref a_picture_shape_sizeOf, .ref a_picture_shape_firstOf, .int s_picture_shape_width, .int s_picture_shape_height, .int s_picture_shape_parts, .int s_picture_shape_count, .ref a_picture_shape_queue])), (a_picture_shape_inside, .inl (ar 1, 256, .inl s_picture_shape_inside))]) (va_runS (As := [.ref a_tape, .int x4]) (rest := []) ⟨hx, hb, hml, hown, hts⟩ (c_Head_writeRun_Pen a_tape a_tape_bytes a_tape_bytes_row x4 s_tape_ended s_tape_limit s_tape_place s_tape_bytes_count s_tape_bytes_row hcall _) (cw_S 2 hts k_428 k_429 k_47 k_430 rfl rfl (by decide +kernel) ⟨Nat.le_of_ble_eq_true rfl, Nat.le_of_ble_eq_true rfl⟩) (sd_preS hK hP hD hS hA hZ [0, 1, 2] (by decide) rfl) rfl rfl hl.1 rfl (lv_room (Nat.le_of_ble_eq_true rfl)) d_Head_write_84 ⟨Nat.le_of_ble_eq_true rfl, Nat.le_of_ble_eq_true rfl⟩) hP hD hS hA [0, 1, 2] [3, 4, 5] rfl rfl (by decide) (by decide) (fun H locs hP hD hS => ?_)
        have hP : va_P D vwCl [(a_picture, .inr (6, [.ref a_picture_shape, .ref a_picture_samples, .ref a_picture_waves, .int s_picture_planes, .ref a_picture_lifting, .int s_picture_stale])), (a_picture_shape, .inr (7, [.ref a_picture_shape_inside, .ref a_picture_shape_partOf, .ref a_picture_shape_sizeOf, .ref a_picture_shape_firstOf, .int s_picture_shape_width, .int s_picture_shape_height, .int s_picture_shape_parts, .int s_picture_shape_count, .ref a_picture_shape_queue])), (a_picture_shape_inside, .inl (ar 1, 256, .inl s_picture_shape_inside)), (a_tape, .inr (3, [.int s_tape_place_21, .int s_tape_ended_20, .int s_tape_limit, .ref a_tape_bytes])), (a_tape_bytes, .inr (1, [.int s_tape_bytes_count_22, .ref a_tape_bytes_row])), (a_tape_bytes_row, .inl (ar 2, 2400, .inl s_tape_bytes_row_23))] H := hP
        have hD : va_D A [(a_picture, .inr (6, [.ref a_picture_shape, .ref a_picture_samples, .ref a_picture_waves, .int s_picture_planes, .ref a_picture_lifting, .int s_picture_stale])), (a_picture_shape, .inr (7, [.ref a_picture_shape_inside, .ref a_picture_shape_partOf, .ref a_picture_shape_sizeOf, .ref a_picture_shape_firstOf, .int s_picture_shape_width, .int s_picture_shape_height, .int s_picture_shape_parts, .int s_picture_shape_count, .ref a_picture_shape_queue])), (a_picture_shape_inside, .inl (ar 1, 256, .inl s_picture_shape_inside)), (a_tape, .inr (3, [.int s_tape_place_21, .int s_tape_ended_20, .int s_tape_limit, .ref a_tape_bytes])), (a_tape_bytes, .inr (1, [.int s_tape_bytes_count_22, .ref a_tape_bytes_row])), (a_tape_bytes_row, .inl (ar 2, 2400, .inl s_tape_bytes_row_23))] := hD
        refine lv_iload_n hx hb d_Head_write_87 rfl (lv_at hl 2 rfl) ?_
        refine lv_if_ne (tgt := 95) hx hb d_Head_write_88 (by decide) (fun c_24 => ?_) (fun c_24 => ?_)
        · have h := Eq.trans (if_neg c_24).symm h
          refine lv_iconst (v := (0 : Int32)) hx hb d_Head_write_95 (by decide) ?_
          exact w_Head_write_Pen_b96 C0 x5 x6 (0 : Int32) s_picture_planes s_picture_shape_height s_picture_shape_width s_picture_shape_inside s_tape_ended_20 s_tape_limit s_tape_place_21 s_tape_bytes_count_22 s_tape_bytes_row_23 _ hrec K1 h _ _ _ (hP.sub [3, 4, 5, 0, 1, 2] rfl) (hD.sub [3, 4, 5, 0, 1, 2] (by decide) rfl) hS (lv_sub hl [0, 1, 4, 5] rfl)
        · have h := Eq.trans (if_pos c_24).symm h
          refine lv_iconst (v := (1 : Int32)) hx hb d_Head_write_91 (by decide) ?_
          refine lv_goto (tgt := 96) hx hb d_Head_write_92 (by decide) ?_
          exact w_Head_write_Pen_b96 C0 x5 x6 (1 : Int32) s_picture_planes s_picture_shape_height s_picture_shape_width s_picture_shape_inside s_tape_ended_20 s_tape_limit s_tape_place_21 s_tape_bytes_count_22 s_tape_bytes_row_23 _ hrec K1 h _ _ _ (hP.sub [3, 4, 5, 0, 1, 2] rfl) (hD.sub [3, 4, 5, 0, 1, 2] (by decide) rfl) hS (lv_sub hl [0, 1, 4, 5] rfl)
def m_Head_write_Pen_k44 (fu : Nat) (s_picture_planes : Int32) (s_picture_shape_height : Int32) (s_picture_shape_width : Int32) (s_picture_shape_inside : Nat → Int32) (s_tape_limit : Int32) (rec : Int32 → Int32 → Int32 → Int32 → Int32 → Int32 → (Nat → Int32) → Option ((Int32 × Int32 × Int32 × Int32 × (Nat → Int32)))) (x3 : Int32) (x4 : Int32) (x5 : Int32) (s_tape_ended : Int32) (s_tape_place : Int32) (s_tape_bytes_count : Int32) (s_tape_bytes_row : Nat → Int32) : Option ((Int32 × Int32 × Int32 × Int32 × (Nat → Int32))) :=
  if s_picture_shape_height ≤ x5 then (some (x4, s_tape_ended, s_tape_place, s_tape_bytes_count, s_tape_bytes_row)) else (bn6 (loop7 (m_Head_write_Pen_k56 fu x5 s_picture_planes s_picture_shape_height s_picture_shape_width s_picture_shape_inside s_tape_limit) fu x3 x4 (0 : Int32) s_tape_ended s_tape_place s_tape_bytes_count s_tape_bytes_row) (fun o_x3_25 o_x4_26 o_tape_ended_27 o_tape_place_28 o_tape_bytes_count_29 o_tape_bytes_row_30 => letB (x5 + (1 : Int32)) (fun x5_31 => rec o_x3_25 o_x4_26 x5_31 o_tape_ended_27 o_tape_place_28 o_tape_bytes_count_29 o_tape_bytes_row_30)))
set_option maxHeartbeats 4000000 in
set_option maxRecDepth 100000 in
theorem w_Head_write_Pen_l44 {p : Program} {l : Launch} {e : Env} {s : State} {m : MethodId} {args : Array Value} {below : List Frame} {meth : Method} {c : Code} {D : va_G} {ar : Nat → ClassId} {A : Nat → Prop} {Q : State → Prop} {fu : Nat} {a_tape a_picture a_tape_bytes a_tape_bytes_row a_picture_shape a_picture_samples a_picture_waves a_picture_lifting a_picture_shape_inside a_picture_shape_partOf a_picture_shape_sizeOf a_picture_shape_firstOf a_picture_shape_queue : Nat} {s_picture_stale : Int32} {s_picture_shape_parts : Int32} {s_picture_shape_count : Int32} (C0 : CX p s m meth c args prog_4_method_2_code 7 none "FreeWavelets$Head" D ar A) (s_picture_planes : Int32) (s_picture_shape_height : Int32) (s_picture_shape_width : Int32) (s_picture_shape_inside : Nat → Int32) (s_tape_limit : Int32) : ∀ (n : Nat) (x3 : Int32) (x4 : Int32) (x5 : Int32) (s_tape_ended : Int32) (s_tape_place : Int32) (s_tape_bytes_count : Int32) (s_tape_bytes_row : Nat → Int32) (o_x4 : Int32) (o_tape_ended : Int32) (o_tape_place : Int32) (o_tape_bytes_count : Int32) (o_tape_bytes_row : Nat → Int32), loop7 (m_Head_write_Pen_k44 fu s_picture_planes s_picture_shape_height s_picture_shape_width s_picture_shape_inside s_tape_limit) n x3 x4 x5 s_tape_ended s_tape_place s_tape_bytes_count s_tape_bytes_row = some (o_x4, o_tape_ended, o_tape_place, o_tape_bytes_count, o_tape_bytes_row) → (WA p l e rm_Head_write_Pen s m args below meth c D A 7 Q 115 [(a_tape, .inr (3, [.int o_tape_place, .int o_tape_ended, .int s_tape_limit, .ref a_tape_bytes])), (a_tape_bytes, .inr (1, [.int o_tape_bytes_count, .ref a_tape_bytes_row])), (a_tape_bytes_row, .inl (ar 2, 2400, .inl o_tape_bytes_row)), (a_picture, .inr (6, [.ref a_picture_shape, .ref a_picture_samples, .ref a_picture_waves, .int s_picture_planes, .ref a_picture_lifting, .int s_picture_stale])), (a_picture_shape, .inr (7, [.ref a_picture_shape_inside, .ref a_picture_shape_partOf, .ref a_picture_shape_sizeOf, .ref a_picture_shape_firstOf, .int s_picture_shape_width, .int s_picture_shape_height, .int s_picture_shape_parts, .int s_picture_shape_count, .ref a_picture_shape_queue])), (a_picture_shape_inside, .inl (ar 1, 256, .inl s_picture_shape_inside))] [(0, .ref a_tape), (4, .int o_x4)] []) → WA p l e rm_Head_write_Pen s m args below meth c D A 7 Q 44 [(a_tape, .inr (3, [.int s_tape_place, .int s_tape_ended, .int s_tape_limit, .ref a_tape_bytes])), (a_tape_bytes, .inr (1, [.int s_tape_bytes_count, .ref a_tape_bytes_row])), (a_tape_bytes_row, .inl (ar 2, 2400, .inl s_tape_bytes_row)), (a_picture, .inr (6, [.ref a_picture_shape, .ref a_picture_samples, .ref a_picture_waves, .int s_picture_planes, .ref a_picture_lifting, .int s_picture_stale])), (a_picture_shape, .inr (7, [.ref a_picture_shape_inside, .ref a_picture_shape_partOf, .ref a_picture_shape_sizeOf, .ref a_picture_shape_firstOf, .int s_picture_shape_width, .int s_picture_shape_height, .int s_picture_shape_parts, .int s_picture_shape_count, .ref a_picture_shape_queue])), (a_picture_shape_inside, .inl (ar 1, 256, .inl s_picture_shape_inside))] [(0, .ref a_tape), (2, .ref a_picture_shape), (3, .int x3), (4, .int x4), (5, .int x5)] [] := by
  intro n
  induction n with
  | zero => intro x3 x4 x5 s_tape_ended s_tape_place s_tape_bytes_count s_tape_bytes_row o_x4 o_tape_ended o_tape_place o_tape_bytes_count o_tape_bytes_row h; exact (no0 h).elim
  | succ n ih =>
    intro x3 x4 x5 s_tape_ended s_tape_place s_tape_bytes_count s_tape_bytes_row o_x4 o_tape_ended o_tape_place o_tape_bytes_count o_tape_bytes_row h K1
    have hrec : ∀ (x3 : Int32) (x4 : Int32) (x5 : Int32) (s_tape_ended : Int32) (s_tape_place : Int32) (s_tape_bytes_count : Int32) (s_tape_bytes_row : Nat → Int32), loop7 (m_Head_write_Pen_k44 fu s_picture_planes s_picture_shape_height s_picture_shape_width s_picture_shape_inside s_tape_limit) n x3 x4 x5 s_tape_ended s_tape_place s_tape_bytes_count s_tape_bytes_row = some (o_x4, o_tape_ended, o_tape_place, o_tape_bytes_count, o_tape_bytes_row) → WA p l e rm_Head_write_Pen s m args below meth c D A 7 Q 44 [(a_tape, .inr (3, [.int s_tape_place, .int s_tape_ended, .int s_tape_limit, .ref a_tape_bytes])), (a_tape_bytes, .inr (1, [.int s_tape_bytes_count, .ref a_tape_bytes_row])), (a_tape_bytes_row, .inl (ar 2, 2400, .inl s_tape_bytes_row)), (a_picture, .inr (6, [.ref a_picture_shape, .ref a_picture_samples, .ref a_picture_waves, .int s_picture_planes, .ref a_picture_lifting, .int s_picture_stale])), (a_picture_shape, .inr (7, [.ref a_picture_shape_inside, .ref a_picture_shape_partOf, .ref a_picture_shape_sizeOf, .ref a_picture_shape_firstOf, .int s_picture_shape_width, .int s_picture_shape_height, .int s_picture_shape_parts, .int s_picture_shape_count, .ref a_picture_shape_queue])), (a_picture_shape_inside, .inl (ar 1, 256, .inl s_picture_shape_inside))] [(0, .ref a_tape), (2, .ref a_picture_shape), (3, .int x3), (4, .int x4), (5, .int x5)] [] := fun x3 x4 x5 s_tape_ended s_tape_place s_tape_bytes_count s_tape_bytes_row h => ih x3 x4 x5 s_tape_ended s_tape_place s_tape_bytes_count s_tape_bytes_row o_x4 o_tape_ended o_tape_place o_tape_bytes_count o_tape_bytes_row h K1
    clear ih
    intro H locs ls hP hD hS hl
    obtain ⟨hx, hb, hr, hml, hown, hts, hlocks, hA, hK, hZ⟩ := id C0
    have h : m_Head_write_Pen_k44 fu s_picture_planes s_picture_shape_height s_picture_shape_width s_picture_shape_inside s_tape_limit (loop7 (m_Head_write_Pen_k44 fu s_picture_planes s_picture_shape_height s_picture_shape_width s_picture_shape_inside s_tape_limit) n) x3 x4 x5 s_tape_ended s_tape_place s_tape_bytes_count s_tape_bytes_row = some (o_x4, o_tape_ended, o_tape_place, o_tape_bytes_count, o_tape_bytes_row) := h
    unfold m_Head_write_Pen_k44 at h
    refine lv_iload hx hb d_Head_write_44 (lv_at hl 4 rfl) ?_
    refine lv_aload_n hx hb d_Head_write_46 rfl (lv_at hl 1 rfl) ?_
    refine va_get (D := D) (ci := 7) (v := .int s_picture_shape_height) (C := R_Shape) (T := F_Shape) (N := 9) hx hb hts in_Shape hown hK hP 4 rfl rfl 5 (by decide) (hts _ k_87) (fun _ h9 => h9) rfl d_Head_write_47 ?_
    refine lv_icmp_ge (tgt := 115) hx hb d_Head_write_50 (by decide) (fun c_13 => ?_) (fun c_13 => ?_)
    · have h := Eq.trans (if_pos c_13).symm h
      cases h
      exact K1 _ _ _ hP hD hS (lv_sub hl [0, 3] rfl)
    · have h := Eq.trans (if_neg c_13).symm h
      refine lv_iconst (v := (0 : Int32)) hx hb d_Head_write_53 (by decide) ?_
      refine lv_istore (lv' := [(6, .int (0 : Int32)), (0, .ref a_tape), (2, .ref a_picture_shape), (3, .int x3), (4, .int x4), (5, .int x5)]) hx hb d_Head_write_54 hl (by decide) rfl (fun ls hl => ?_)
      obtain ⟨o_x3_25, o_x4_26, o_tape_ended_27, o_tape_place_28, o_tape_bytes_count_29, o_tape_bytes_row_30, hloop, h⟩ := bn6_some h
      refine w_Head_write_Pen_l56 C0 x5 s_picture_planes s_picture_shape_height s_picture_shape_width s_picture_shape_inside s_tape_limit fu x3 x4 (0 : Int32) s_tape_ended s_tape_place s_tape_bytes_count s_tape_bytes_row _ _ _ _ _ _ hloop ?_ _ _ _ hP hD hS (lv_sub hl [1, 2, 3, 4, 5, 0] rfl)
      clear hP hD hS hl hloop
      intro H locs ls hP hD hS hl
      obtain ⟨x5_31, e_x5_31⟩ : ∃ y : Int32, y = x5 + (1 : Int32) := ⟨_, rfl⟩
      have h := letB_at e_x5_31 h
      refine lv_iinc (v := x5_31) (lv' := [(5, .int x5_31), (0, .ref a_tape), (2, .ref a_picture_shape), (3, .int o_x3_25), (4, .int o_x4_26)]) hx hb d_Head_write_109 hl (k := 4) rfl (by rw [e_x5_31]; rfl) (by decide) rfl (fun ls hl => ?_)
      refine lv_goto (tgt := 44) hx hb d_Head_write_112 (by decide) ?_
      exact hrec o_x3_25 o_x4_26 x5_31 o_tape_ended_27 o_tape_place_28 o_tape_bytes_count_29 o_tape_bytes_row_30 h _ _ _ hP hD hS (lv_sub hl [1, 2, 3, 4, 0] rfl)
def m_Head_write_Pen (fu : Nat) (s_picture_planes : Int32) (s_picture_shape_height : Int32) (s_picture_shape_width : Int32) (s_picture_shape_inside : Nat → Int32) (s_tape_ended : Int32) (s_tape_limit : Int32) (s_tape_place : Int32) (s_tape_bytes_count : Int32) (s_tape_bytes_row : Nat → Int32) : Option (Int32 × Int32 × Int32 × (Nat → Int32)) :=
  bn4 (m_Tape_say_Pen fu (s_picture_shape_width - (1 : Int32)) (4 : Int32) s_tape_ended s_tape_limit s_tape_place s_tape_bytes_count s_tape_bytes_row) (fun s_tape_ended_1 s_tape_place_2 s_tape_bytes_count_3 s_tape_bytes_row_4 => bn4 (m_Tape_say_Pen fu (s_picture_shape_height - (1 : Int32)) (4 : Int32) s_tape_ended_1 s_tape_limit s_tape_place_2 s_tape_bytes_count_3 s_tape_bytes_row_4) (fun s_tape_ended_5 s_tape_place_6 s_tape_bytes_count_7 s_tape_bytes_row_8 => bn4 (m_Tape_say_Pen fu s_picture_planes (5 : Int32) s_tape_ended_5 s_tape_limit s_tape_place_6 s_tape_bytes_count_7 s_tape_bytes_row_8) (fun s_tape_ended_9 s_tape_place_10 s_tape_bytes_count_11 s_tape_bytes_row_12 => bn5 (loop7 (m_Head_write_Pen_k44 fu s_picture_planes s_picture_shape_height s_picture_shape_width s_picture_shape_inside s_tape_limit) fu (0 : Int32) (0 : Int32) (0 : Int32) s_tape_ended_9 s_tape_place_10 s_tape_bytes_count_11 s_tape_bytes_row_12) (fun o_x4_32 o_tape_ended_33 o_tape_place_34 o_tape_bytes_count_35 o_tape_bytes_row_36 => bn4 (m_Head_writeRun_Pen fu o_x4_32 o_tape_ended_33 s_tape_limit o_tape_place_34 o_tape_bytes_count_35 o_tape_bytes_row_36) (fun s_tape_ended_37 s_tape_place_38 s_tape_bytes_count_39 s_tape_bytes_row_40 => some (s_tape_ended_37, s_tape_place_38, s_tape_bytes_count_39, s_tape_bytes_row_40))))))
set_option maxHeartbeats 4000000 in
set_option maxRecDepth 100000 in
theorem c_Head_write_Pen {l : Launch} {D : va_G} {ar : Nat → ClassId} {fu : Nat} (a_tape a_picture a_tape_bytes a_tape_bytes_row a_picture_shape a_picture_samples a_picture_waves a_picture_lifting a_picture_shape_inside a_picture_shape_partOf a_picture_shape_sizeOf a_picture_shape_firstOf a_picture_shape_queue : Nat) (s_picture_stale : Int32) (s_picture_shape_parts : Int32) (s_picture_shape_count : Int32) (s_picture_planes : Int32) (s_picture_shape_height : Int32) (s_picture_shape_width : Int32) (s_picture_shape_inside : Nat → Int32) (s_tape_ended : Int32) (s_tape_limit : Int32) (s_tape_place : Int32) (s_tape_bytes_count : Int32) (s_tape_bytes_row : Nat → Int32) {r_tape_ended : Int32} {r_tape_place : Int32} {r_tape_bytes_count : Int32} {r_tape_bytes_row : Nat → Int32} (h : m_Head_write_Pen fu s_picture_planes s_picture_shape_height s_picture_shape_width s_picture_shape_inside s_tape_ended s_tape_limit s_tape_place s_tape_bytes_count s_tape_bytes_row = some (r_tape_ended, r_tape_place, r_tape_bytes_count, r_tape_bytes_row)) : StdV l y_Head_write ws_Head_write rm_Head_write_Pen D ar [.ref a_tape, .ref a_picture] [(a_tape, .inr (3, [.int s_tape_place, .int s_tape_ended, .int s_tape_limit, .ref a_tape_bytes])), (a_tape_bytes, .inr (1, [.int s_tape_bytes_count, .ref a_tape_bytes_row])), (a_tape_bytes_row, .inl (ar 2, 2400, .inl s_tape_bytes_row)), (a_picture, .inr (6, [.ref a_picture_shape, .ref a_picture_samples, .ref a_picture_waves, .int s_picture_planes, .ref a_picture_lifting, .int s_picture_stale])), (a_picture_shape, .inr (7, [.ref a_picture_shape_inside, .ref a_picture_shape_partOf, .ref a_picture_shape_sizeOf, .ref a_picture_shape_firstOf, .int s_picture_shape_width, .int s_picture_shape_height, .int s_picture_shape_parts, .int s_picture_shape_count, .ref a_picture_shape_queue])), (a_picture_shape_inside, .inl (ar 1, 256, .inl s_picture_shape_inside))] [(a_tape, .inr (3, [.int r_tape_place, .int r_tape_ended, .int s_tape_limit, .ref a_tape_bytes])), (a_tape_bytes, .inr (1, [.int r_tape_bytes_count, .ref a_tape_bytes_row])), (a_tape_bytes_row, .inl (ar 2, 2400, .inl r_tape_bytes_row)), (a_picture, .inr (6, [.ref a_picture_shape, .ref a_picture_samples, .ref a_picture_waves, .int s_picture_planes, .ref a_picture_lifting, .int s_picture_stale])), (a_picture_shape, .inr (7, [.ref a_picture_shape_inside, .ref a_picture_shape_partOf, .ref a_picture_shape_sizeOf, .ref a_picture_shape_firstOf, .int s_picture_shape_width, .int s_picture_shape_height, .int s_picture_shape_parts, .int s_picture_shape_count, .ref a_picture_shape_queue])), (a_picture_shape_inside, .inl (ar 1, 256, .inl s_picture_shape_inside))] := by
  refine sd_metV (cc := prog_4_method_2_code) (maxL := 7) (ret := none) (own := "FreeWavelets$Head") (by decide) rfl rfl (Nat.le_of_ble_eq_true rfl) ?_
  intro p e s m below meth c A ls C0 hP hD hl
  obtain ⟨hx, hb, hr, hml, hown, hts, hlocks, hA, hK, hZ⟩ := id C0
  have hS : va_S A s.heap s.heap [] := va_S.rf
  have hl : lv_has ls 7 [(0, .ref a_tape), (1, .ref a_picture)] := hl
  unfold m_Head_write_Pen at h
  refine lv_aload_n hx hb d_Head_write_0 rfl (lv_at hl 1 rfl) ?_
  refine va_get (D := D) (ci := 6) (v := .ref a_picture_shape) (C := R_Picture) (T := F_Picture) (N := 6) hx hb hts in_Picture hown hK hP 3 rfl rfl 0 (by decide) (hts _ k_132) (fun _ h9 => h9) rfl d_Head_write_1 ?_
  refine lv_astore_n (lv' := [(2, .ref a_picture_shape), (0, .ref a_tape), (1, .ref a_picture)]) hx hb d_Head_write_4 rfl hl (by decide) rfl (fun ls hl => ?_)
  refine lv_aload_n hx hb d_Head_write_5 rfl (lv_at hl 1 rfl) ?_
  refine lv_aload_n hx hb d_Head_write_6 rfl (lv_at hl 0 rfl) ?_
  refine va_get (D := D) (ci := 7) (v := .int s_picture_shape_width) (C := R_Shape) (T := F_Shape) (N := 9) hx hb hts in_Shape hown hK hP 4 rfl rfl 4 (by decide) (hts _ k_83) (fun _ h9 => h9) rfl d_Head_write_7 ?_
  refine lv_iconst (v := (1 : Int32)) hx hb d_Head_write_10 (by decide) ?_
  refine lv_isub hx hb d_Head_write_11 ?_
  refine lv_iconst (v := (4 : Int32)) hx hb d_Head_write_12 (by decide) ?_
  obtain ⟨s_tape_ended_1, s_tape_place_2, s_tape_bytes_count_3, s_tape_bytes_row_4, hcall, h⟩ := bn4_some h
  refine sd_v (wr := [(a_picture, .inr (6, [.ref a_picture_shape, .ref a_picture_samples, .ref a_picture_waves, .int s_picture_planes, .ref a_picture_lifting, .int s_picture_stale])), (a_picture_shape, .inr (7, [.ref a_picture_shape_inside, .ref a_picture_shape_partOf, .ref a_picture_shape_sizeOf, .ref a_picture_shape_firstOf, .int s_picture_shape_width, .int s_picture_shape_height, .int s_picture_shape_parts, .int s_picture_shape_count, .ref a_picture_shape_queue])), (a_picture_shape_inside, .inl (ar 1, 256, .inl s_picture_shape_inside))]) (va_runU (As := [.int (s_picture_shape_width - (1 : Int32)), .int (4 : Int32)]) (rest := []) ⟨hx, hb, hml, hown, hts⟩ (c_Tape_say_Pen a_tape a_tape_bytes a_tape_bytes_row (s_picture_shape_width - (1 : Int32)) (4 : Int32) s_tape_ended s_tape_limit s_tape_place s_tape_bytes_count s_tape_bytes_row hcall _) (cw_U (owner := "FreeWavelets$Tape") 2 hts k_389 k_392 k_394 k_390 k_34 k_395 rfl rfl rfl (by decide +kernel) ⟨Nat.le_of_ble_eq_true rfl, Nat.le_of_ble_eq_true rfl⟩) (sd_preV hK hP hD hS hA hZ [0, 1, 2] (by decide) rfl (va_recv hK hP (ci := 3) (q0 := 0) rfl rfl)) rfl rfl hl.1 rfl (lv_room (Nat.le_of_ble_eq_true rfl)) d_Head_write_13 ⟨Nat.le_of_ble_eq_true rfl, Nat.le_of_ble_eq_true rfl⟩) hP hD hS hA [0, 1, 2] [3, 4, 5] rfl rfl (by decide) (by decide) (fun H locs hP hD hS => ?_)
  have hP : va_P D vwCl [(a_picture, .inr (6, [.ref a_picture_shape, .ref a_picture_samples, .ref a_picture_waves, .int s_picture_planes, .ref a_picture_lifting, .int s_picture_stale])), (a_picture_shape, .inr (7, [.ref a_picture_shape_inside, .ref a_picture_shape_partOf, .ref a_picture_shape_sizeOf, .ref a_picture_shape_firstOf, .int s_picture_shape_width, .int s_picture_shape_height, .int s_picture_shape_parts, .int s_picture_shape_count, .ref a_picture_shape_queue])), (a_picture_shape_inside, .inl (ar 1, 256, .inl s_picture_shape_inside)), (a_tape, .inr (3, [.int s_tape_place_2, .int s_tape_ended_1, .int s_tape_limit, .ref a_tape_bytes])), (a_tape_bytes, .inr (1, [.int s_tape_bytes_count_3, .ref a_tape_bytes_row])), (a_tape_bytes_row, .inl (ar 2, 2400, .inl s_tape_bytes_row_4))] H := hP
  have hD : va_D A [(a_picture, .inr (6, [.ref a_picture_shape, .ref a_picture_samples, .ref a_picture_waves, .int s_picture_planes, .ref a_picture_lifting, .int s_picture_stale])), (a_picture_shape, .inr (7, [.ref a_picture_shape_inside, .ref a_picture_shape_partOf, .ref a_picture_shape_sizeOf, .ref a_picture_shape_firstOf, .int s_picture_shape_width, .int s_picture_shape_height, .int s_picture_shape_parts, .int s_picture_shape_count, .ref a_picture_shape_queue])), (a_picture_shape_inside, .inl (ar 1, 256, .inl s_picture_shape_inside)), (a_tape, .inr (3, [.int s_tape_place_2, .int s_tape_ended_1, .int s_tape_limit, .ref a_tape_bytes])), (a_tape_bytes, .inr (1, [.int s_tape_bytes_count_3, .ref a_tape_bytes_row])), (a_tape_bytes_row, .inl (ar 2, 2400, .inl s_tape_bytes_row_4))] := hD
  refine lv_aload_n hx hb d_Head_write_16 rfl (lv_at hl 1 rfl) ?_
  refine lv_aload_n hx hb d_Head_write_17 rfl (lv_at hl 0 rfl) ?_
  refine va_get (D := D) (ci := 7) (v := .int s_picture_shape_height) (C := R_Shape) (T := F_Shape) (N := 9) hx hb hts in_Shape hown hK hP 1 rfl rfl 5 (by decide) (hts _ k_87) (fun _ h9 => h9) rfl d_Head_write_18 ?_
  refine lv_iconst (v := (1 : Int32)) hx hb d_Head_write_21 (by decide) ?_
  refine lv_isub hx hb d_Head_write_22 ?_
  refine lv_iconst (v := (4 : Int32)) hx hb d_Head_write_23 (by decide) ?_
  obtain ⟨s_tape_ended_5, s_tape_place_6, s_tape_bytes_count_7, s_tape_bytes_row_8, hcall, h⟩ := bn4_some h
  refine sd_v (wr := [(a_picture, .inr (6, [.ref a_picture_shape, .ref a_picture_samples, .ref a_picture_waves, .int s_picture_planes, .ref a_picture_lifting, .int s_picture_stale])), (a_picture_shape, .inr (7, [.ref a_picture_shape_inside, .ref a_picture_shape_partOf, .ref a_picture_shape_sizeOf, .ref a_picture_shape_firstOf, .int s_picture_shape_width, .int s_picture_shape_height, .int s_picture_shape_parts, .int s_picture_shape_count, .ref a_picture_shape_queue])), (a_picture_shape_inside, .inl (ar 1, 256, .inl s_picture_shape_inside))]) (va_runU (As := [.int (s_picture_shape_height - (1 : Int32)), .int (4 : Int32)]) (rest := []) ⟨hx, hb, hml, hown, hts⟩ (c_Tape_say_Pen a_tape a_tape_bytes a_tape_bytes_row (s_picture_shape_height - (1 : Int32)) (4 : Int32) s_tape_ended_1 s_tape_limit s_tape_place_2 s_tape_bytes_count_3 s_tape_bytes_row_4 hcall _) (cw_U (owner := "FreeWavelets$Tape") 2 hts k_389 k_392 k_394 k_390 k_34 k_395 rfl rfl rfl (by decide +kernel) ⟨Nat.le_of_ble_eq_true rfl, Nat.le_of_ble_eq_true rfl⟩) (sd_preV hK hP hD hS hA hZ [3, 4, 5] (by decide) rfl (va_recv hK hP (ci := 3) (q0 := 3) rfl rfl)) rfl rfl hl.1 rfl (lv_room (Nat.le_of_ble_eq_true rfl)) d_Head_write_24 ⟨Nat.le_of_ble_eq_true rfl, Nat.le_of_ble_eq_true rfl⟩) hP hD hS hA [3, 4, 5] [0, 1, 2] rfl rfl (by decide) (by decide) (fun H locs hP hD hS => ?_)
  have hP : va_P D vwCl [(a_picture, .inr (6, [.ref a_picture_shape, .ref a_picture_samples, .ref a_picture_waves, .int s_picture_planes, .ref a_picture_lifting, .int s_picture_stale])), (a_picture_shape, .inr (7, [.ref a_picture_shape_inside, .ref a_picture_shape_partOf, .ref a_picture_shape_sizeOf, .ref a_picture_shape_firstOf, .int s_picture_shape_width, .int s_picture_shape_height, .int s_picture_shape_parts, .int s_picture_shape_count, .ref a_picture_shape_queue])), (a_picture_shape_inside, .inl (ar 1, 256, .inl s_picture_shape_inside)), (a_tape, .inr (3, [.int s_tape_place_6, .int s_tape_ended_5, .int s_tape_limit, .ref a_tape_bytes])), (a_tape_bytes, .inr (1, [.int s_tape_bytes_count_7, .ref a_tape_bytes_row])), (a_tape_bytes_row, .inl (ar 2, 2400, .inl s_tape_bytes_row_8))] H := hP
  have hD : va_D A [(a_picture, .inr (6, [.ref a_picture_shape, .ref a_picture_samples, .ref a_picture_waves, .int s_picture_planes, .ref a_picture_lifting, .int s_picture_stale])), (a_picture_shape, .inr (7, [.ref a_picture_shape_inside, .ref a_picture_shape_partOf, .ref a_picture_shape_sizeOf, .ref a_picture_shape_firstOf, .int s_picture_shape_width, .int s_picture_shape_height, .int s_picture_shape_parts, .int s_picture_shape_count, .ref a_picture_shape_queue])), (a_picture_shape_inside, .inl (ar 1, 256, .inl s_picture_shape_inside)), (a_tape, .inr (3, [.int s_tape_place_6, .int s_tape_ended_5, .int s_tape_limit, .ref a_tape_bytes])), (a_tape_bytes, .inr (1, [.int s_tape_bytes_count_7, .ref a_tape_bytes_row])), (a_tape_bytes_row, .inl (ar 2, 2400, .inl s_tape_bytes_row_8))] := hD
  refine lv_aload_n hx hb d_Head_write_27 rfl (lv_at hl 1 rfl) ?_
  refine lv_aload_n hx hb d_Head_write_28 rfl (lv_at hl 2 rfl) ?_
  refine va_get (D := D) (ci := 6) (v := .int s_picture_planes) (C := R_Picture) (T := F_Picture) (N := 6) hx hb hts in_Picture hown hK hP 0 rfl rfl 3 (by decide) (hts _ k_140) (fun _ h9 => h9) rfl d_Head_write_29 ?_
  refine lv_iconst (v := (5 : Int32)) hx hb d_Head_write_32 (by decide) ?_
  obtain ⟨s_tape_ended_9, s_tape_place_10, s_tape_bytes_count_11, s_tape_bytes_row_12, hcall, h⟩ := bn4_some h
  refine sd_v (wr := [(a_picture, .inr (6, [.ref a_picture_shape, .ref a_picture_samples, .ref a_picture_waves, .int s_picture_planes, .ref a_picture_lifting, .int s_picture_stale])), (a_picture_shape, .inr (7, [.ref a_picture_shape_inside, .ref a_picture_shape_partOf, .ref a_picture_shape_sizeOf, .ref a_picture_shape_firstOf, .int s_picture_shape_width, .int s_picture_shape_height, .int s_picture_shape_parts, .int s_picture_shape_count, .ref a_picture_shape_queue])), (a_picture_shape_inside, .inl (ar 1, 256, .inl s_picture_shape_inside))]) (va_runU (As := [.int s_picture_planes, .int (5 : Int32)]) (rest := []) ⟨hx, hb, hml, hown, hts⟩ (c_Tape_say_Pen a_tape a_tape_bytes a_tape_bytes_row s_picture_planes (5 : Int32) s_tape_ended_5 s_tape_limit s_tape_place_6 s_tape_bytes_count_7 s_tape_bytes_row_8 hcall _) (cw_U (owner := "FreeWavelets$Tape") 2 hts k_389 k_392 k_394 k_390 k_34 k_395 rfl rfl rfl (by decide +kernel) ⟨Nat.le_of_ble_eq_true rfl, Nat.le_of_ble_eq_true rfl⟩) (sd_preV hK hP hD hS hA hZ [3, 4, 5] (by decide) rfl (va_recv hK hP (ci := 3) (q0 := 3) rfl rfl)) rfl rfl hl.1 rfl (lv_room (Nat.le_of_ble_eq_true rfl)) d_Head_write_33 ⟨Nat.le_of_ble_eq_true rfl, Nat.le_of_ble_eq_true rfl⟩) hP hD hS hA [3, 4, 5] [0, 1, 2] rfl rfl (by decide) (by decide) (fun H locs hP hD hS => ?_)
  have hP : va_P D vwCl [(a_picture, .inr (6, [.ref a_picture_shape, .ref a_picture_samples, .ref a_picture_waves, .int s_picture_planes, .ref a_picture_lifting, .int s_picture_stale])), (a_picture_shape, .inr (7, [.ref a_picture_shape_inside, .ref a_picture_shape_partOf, .ref a_picture_shape_sizeOf, .ref a_picture_shape_firstOf, .int s_picture_shape_width, .int s_picture_shape_height, .int s_picture_shape_parts, .int s_picture_shape_count, .ref a_picture_shape_queue])), (a_picture_shape_inside, .inl (ar 1, 256, .inl s_picture_shape_inside)), (a_tape, .inr (3, [.int s_tape_place_10, .int s_tape_ended_9, .int s_tape_limit, .ref a_tape_bytes])), (a_tape_bytes, .inr (1, [.int s_tape_bytes_count_11, .ref a_tape_bytes_row])), (a_tape_bytes_row, .inl (ar 2, 2400, .inl s_tape_bytes_row_12))] H := hP
  have hD : va_D A [(a_picture, .inr (6, [.ref a_picture_shape, .ref a_picture_samples, .ref a_picture_waves, .int s_picture_planes, .ref a_picture_lifting, .int s_picture_stale])), (a_picture_shape, .inr (7, [.ref a_picture_shape_inside, .ref a_picture_shape_partOf, .ref a_picture_shape_sizeOf, .ref a_picture_shape_firstOf, .int s_picture_shape_width, .int s_picture_shape_height, .int s_picture_shape_parts, .int s_picture_shape_count, .ref a_picture_shape_queue])), (a_picture_shape_inside, .inl (ar 1, 256, .inl s_picture_shape_inside)), (a_tape, .inr (3, [.int s_tape_place_10, .int s_tape_ended_9, .int s_tape_limit, .ref a_tape_bytes])), (a_tape_bytes, .inr (1, [.int s_tape_bytes_count_11, .ref a_tape_bytes_row])), (a_tape_bytes_row, .inl (ar 2, 2400, .inl s_tape_bytes_row_12))] := hD
  refine lv_iconst (v := (0 : Int32)) hx hb d_Head_write_36 (by decide) ?_
  refine lv_istore_n (lv' := [(3, .int (0 : Int32)), (2, .ref a_picture_shape), (0, .ref a_tape), (1, .ref a_picture)]) hx hb d_Head_write_37 rfl hl (by decide) rfl (fun ls hl => ?_)
  refine lv_iconst (v := (0 : Int32)) hx hb d_Head_write_38 (by decide) ?_
  refine lv_istore (lv' := [(4, .int (0 : Int32)), (3, .int (0 : Int32)), (2, .ref a_picture_shape), (0, .ref a_tape), (1, .ref a_picture)]) hx hb d_Head_write_39 hl (by decide) rfl (fun ls hl => ?_)
  refine lv_iconst (v := (0 : Int32)) hx hb d_Head_write_41 (by decide) ?_
  refine lv_istore (lv' := [(5, .int (0 : Int32)), (4, .int (0 : Int32)), (3, .int (0 : Int32)), (2, .ref a_picture_shape), (0, .ref a_tape), (1, .ref a_picture)]) hx hb d_Head_write_42 hl (by decide) rfl (fun ls hl => ?_)
  obtain ⟨o_x4_32, o_tape_ended_33, o_tape_place_34, o_tape_bytes_count_35, o_tape_bytes_row_36, hloop, h⟩ := bn5_some h
  refine w_Head_write_Pen_l44 C0 s_picture_planes s_picture_shape_height s_picture_shape_width s_picture_shape_inside s_tape_limit fu (0 : Int32) (0 : Int32) (0 : Int32) s_tape_ended_9 s_tape_place_10 s_tape_bytes_count_11 s_tape_bytes_row_12 _ _ _ _ _ hloop ?_ _ _ _ (hP.sub [3, 4, 5, 0, 1, 2] rfl) (hD.sub [3, 4, 5, 0, 1, 2] (by decide) rfl) hS (lv_sub hl [4, 3, 2, 1, 0] rfl)
  clear hP hD hS hl hloop
  intro H locs ls hP hD hS hl
  refine lv_aload_n hx hb d_Head_write_115 rfl (lv_at hl 0 rfl) ?_
  refine lv_iload hx hb d_Head_write_116 (lv_at hl 1 rfl) ?_
  obtain ⟨s_tape_ended_37, s_tape_place_38, s_tape_bytes_count_39, s_tape_bytes_row_40, hcall, h⟩ := bn4_some h
  refine sd_v (wr := [(a_picture, .inr (6, [.ref a_picture_shape, .ref a_picture_samples, .ref a_picture_waves, .int s_picture_planes, .ref a_picture_lifting, .int s_picture_stale])), (a_picture_shape, .inr (7, [.ref a_picture_shape_inside, .ref a_picture_shape_partOf, .ref a_picture_shape_sizeOf, .ref a_picture_shape_firstOf, .int s_picture_shape_width, .int s_picture_shape_height, .int s_picture_shape_parts, .int s_picture_shape_count, .ref a_picture_shape_queue])), (a_picture_shape_inside, .inl (ar 1, 256, .inl s_picture_shape_inside))]) (va_runS (As := [.ref a_tape, .int o_x4_32]) (rest := []) ⟨hx, hb, hml, hown, hts⟩ (c_Head_writeRun_Pen a_tape a_tape_bytes a_tape_bytes_row o_x4_32 o_tape_ended_33 s_tape_limit o_tape_place_34 o_tape_bytes_count_35 o_tape_bytes_row_36 hcall _) (cw_S 2 hts k_428 k_429 k_47 k_430 rfl rfl (by decide +kernel) ⟨Nat.le_of_ble_eq_true rfl, Nat.le_of_ble_eq_true rfl⟩) (sd_preS hK hP hD hS hA hZ [0, 1, 2] (by decide) rfl) rfl rfl hl.1 rfl (lv_room (Nat.le_of_ble_eq_true rfl)) d_Head_write_118 ⟨Nat.le_of_ble_eq_true rfl, Nat.le_of_ble_eq_true rfl⟩) hP hD hS hA [0, 1, 2] [3, 4, 5] rfl rfl (by decide) (by decide) (fun H locs hP hD hS => ?_)
  have hP : va_P D vwCl [(a_picture, .inr (6, [.ref a_picture_shape, .ref a_picture_samples, .ref a_picture_waves, .int s_picture_planes, .ref a_picture_lifting, .int s_picture_stale])), (a_picture_shape, .inr (7, [.ref a_picture_shape_inside, .ref a_picture_shape_partOf, .ref a_picture_shape_sizeOf, .ref a_picture_shape_firstOf, .int s_picture_shape_width, .int s_picture_shape_height, .int s_picture_shape_parts, .int s_picture_shape_count, .ref a_picture_shape_queue])), (a_picture_shape_inside, .inl (ar 1, 256, .inl s_picture_shape_inside)), (a_tape, .inr (3, [.int s_tape_place_38, .int s_tape_ended_37, .int s_tape_limit, .ref a_tape_bytes])), (a_tape_bytes, .inr (1, [.int s_tape_bytes_count_39, .ref a_tape_bytes_row])), (a_tape_bytes_row, .inl (ar 2, 2400, .inl s_tape_bytes_row_40))] H := hP
  have hD : va_D A [(a_picture, .inr (6, [.ref a_picture_shape, .ref a_picture_samples, .ref a_picture_waves, .int s_picture_planes, .ref a_picture_lifting, .int s_picture_stale])), (a_picture_shape, .inr (7, [.ref a_picture_shape_inside, .ref a_picture_shape_partOf, .ref a_picture_shape_sizeOf, .ref a_picture_shape_firstOf, .int s_picture_shape_width, .int s_picture_shape_height, .int s_picture_shape_parts, .int s_picture_shape_count, .ref a_picture_shape_queue])), (a_picture_shape_inside, .inl (ar 1, 256, .inl s_picture_shape_inside)), (a_tape, .inr (3, [.int s_tape_place_38, .int s_tape_ended_37, .int s_tape_limit, .ref a_tape_bytes])), (a_tape_bytes, .inr (1, [.int s_tape_bytes_count_39, .ref a_tape_bytes_row])), (a_tape_bytes_row, .inl (ar 2, 2400, .inl s_tape_bytes_row_40))] := hD
  cases h
  exact sd_vret hx hb hr hlocks (hP.sub [3, 4, 5, 0, 1, 2] rfl) (hD.sub [3, 4, 5, 0, 1, 2] (by decide) rfl) hK hS d_Head_write_121
abbrev rm_Tape_pick_Tape : Room := { frames := 0, cells := 0, slots := 0, locals := 0 }
def m_Tape_pick_Tape (fu : Nat) (x1 : Int32) : Option (Int32) :=
  some x1
set_option maxHeartbeats 4000000 in
set_option maxRecDepth 100000 in
theorem c_Tape_pick_Tape {l : Launch} {D : va_G} {ar : Nat → ClassId} {fu : Nat} (a_this : Nat) (x1 : Int32) {r_v : Int32} (h : m_Tape_pick_Tape fu x1 = some r_v) : StdI l y_Tape_pick ws_Tape_pick rm_Tape_pick_Tape D ar [.ref a_this, .int x1] [] [] r_v := by
  refine sd_metI (cc := prog_9_method_4_code) (maxL := 2) (ret := (some .int)) (own := "FreeWavelets$Tape") (by decide) rfl rfl (Nat.le_of_ble_eq_true rfl) ?_
  intro p e s m below meth c A ls C0 hP hD hl
  obtain ⟨hx, hb, hr, hml, hown, hts, hlocks, hA, hK, hZ⟩ := id C0
  have hS : va_S A s.heap s.heap [] := va_S.rf
  have hl : lv_has ls 2 [(0, .ref a_this), (1, .int x1)] := hl
  unfold m_Tape_pick_Tape at h
  refine lv_iload_n hx hb d_Tape_pick_0 rfl (lv_at hl 1 rfl) ?_
  cases h
  exact sd_iret hx hb hr hlocks hP hD hK hS d_Tape_pick_1
abbrev rm_Tape_next_Tape : Room := { frames := 1, cells := 0, slots := 0, locals := 21 }
def m_Tape_next_Tape (fu : Nat) (x1 : Int32) (s_ended : Int32) (s_limit : Int32) (s_place : Int32) : Option (Int32 × Int32 × Int32) :=
  if s_place < s_limit then (bn1 (m_Tape_pick_Tape fu x1) (fun r_2 => letB (s_place + (1 : Int32)) (fun f_3 => some (r_2, s_ended, f_3)))) else (some ((-1 : Int32), (1 : Int32), s_place))
set_option maxHeartbeats 4000000 in
set_option maxRecDepth 100000 in
theorem c_Tape_next_Tape {l : Launch} {D : va_G} {ar : Nat → ClassId} {fu : Nat} (a_this : Nat) (x1 : Int32) (s_ended : Int32) (s_limit : Int32) (s_place : Int32) {r_v : Int32} {r_ended : Int32} {r_place : Int32} (h : m_Tape_next_Tape fu x1 s_ended s_limit s_place = some (r_v, r_ended, r_place)) : StdI l y_Tape_next ws_Tape_next rm_Tape_next_Tape D ar [.ref a_this, .int x1] [(a_this, .inr (4, [.int s_place, .int s_ended, .int s_limit]))] [(a_this, .inr (4, [.int r_place, .int r_ended, .int s_limit]))] r_v := by
  refine sd_metI (cc := prog_9_method_3_code) (maxL := 3) (ret := (some .int)) (own := "FreeWavelets$Tape") (by decide) rfl rfl (Nat.le_of_ble_eq_true rfl) ?_
  intro p e s m below meth c A ls C0 hP hD hl
  obtain ⟨hx, hb, hr, hml, hown, hts, hlocks, hA, hK, hZ⟩ := id C0
  have hS : va_S A s.heap s.heap [] := va_S.rf
  have hl : lv_has ls 3 [(0, .ref a_this), (1, .int x1)] := hl
  unfold m_Tape_next_Tape at h
  refine lv_aload_n hx hb d_Tape_next_0 rfl (lv_at hl 0 rfl) ?_
  refine va_get (D := D) (ci := 4) (v := .int s_place) (C := R_Tape) (T := F_Tape) (N := 3) hx hb hts in_Tape hown hK hP 0 rfl rfl 0 (by decide) (hts _ k_185) (fun _ h9 => h9) rfl d_Tape_next_1 ?_
  refine lv_aload_n hx hb d_Tape_next_4 rfl (lv_at hl 0 rfl) ?_
  refine va_get (D := D) (ci := 4) (v := .int s_limit) (C := R_Tape) (T := F_Tape) (N := 3) hx hb hts in_Tape hown hK hP 0 rfl rfl 2 (by decide) (hts _ k_195) (fun _ h9 => h9) rfl d_Tape_next_5 ?_
  refine lv_icmp_lt (tgt := 18) hx hb d_Tape_next_8 (by decide) (fun c_1 => ?_) (fun c_1 => ?_)
  · have h := Eq.trans (if_pos c_1).symm h
    refine lv_aload_n hx hb d_Tape_next_18 rfl (lv_at hl 0 rfl) ?_
    refine lv_iload_n hx hb d_Tape_next_19 rfl (lv_at hl 1 rfl) ?_
    obtain ⟨r_2, hcall, h⟩ := bn1_some h
    refine sd_i (wr := [(a_this, .inr (4, [.int s_place, .int s_ended, .int s_limit]))]) (va_runV (As := [.int x1]) (rest := []) ⟨hx, hb, hml, hown, hts⟩ (c_Tape_pick_Tape a_this x1 hcall _) (cw_V 1 hts k_403 k_404 k_405 k_34 k_426 rfl rfl (by decide +kernel) ⟨Nat.le_of_ble_eq_true rfl, Nat.le_of_ble_eq_true rfl⟩) (sd_preV hK hP hD hS hA hZ [] (by decide) rfl (va_recv hK hP (ci := 4) (q0 := 0) rfl rfl)) rfl rfl hl.1 rfl (lv_room (Nat.le_of_ble_eq_true rfl)) d_Tape_next_20 ⟨Nat.le_of_ble_eq_true rfl, Nat.le_of_ble_eq_true rfl⟩) hP hD hS hA [] [0] rfl rfl (by decide) (by decide) (fun H locs hP hD hS => ?_)
    have hP : va_P D vwCl [(a_this, .inr (4, [.int s_place, .int s_ended, .int s_limit]))] H := hP
    have hD : va_D A [(a_this, .inr (4, [.int s_place, .int s_ended, .int s_limit]))] := hD
    refine lv_istore_n (lv' := [(2, .int r_2), (0, .ref a_this), (1, .int x1)]) hx hb d_Tape_next_23 rfl hl (by decide) rfl (fun ls hl => ?_)
    refine lv_aload_n hx hb d_Tape_next_24 rfl (lv_at hl 1 rfl) ?_
    refine lv_dup hx hb d_Tape_next_25 rfl ?_
    refine va_get (D := D) (ci := 4) (v := .int s_place) (C := R_Tape) (T := F_Tape) (N := 3) hx hb hts in_Tape hown hK hP 0 rfl rfl 0 (by decide) (hts _ k_185) (fun _ h9 => h9) rfl d_Tape_next_26 ?_
    refine lv_iconst (v := (1 : Int32)) hx hb d_Tape_next_29 (by decide) ?_
    refine lv_iadd hx hb d_Tape_next_30 ?_
    refine lv_topi (fun f_3 e_f_3 => ?_)
    have h := letB_at e_f_3 h
    refine va_put (D := D) (ci := 4) (v := .int f_3) (ty := .int) (C := R_Tape) (T := F_Tape) (N := 3) hx hb hts in_Tape t_Tape t_Tape_ok n_Tape hown hK hP hD hS 0 rfl rfl 0 (by decide) (hts _ k_185) (fun _ h9 => h9) rfl (by decide +kernel) rfl rfl (Nat.le_of_ble_eq_true rfl) d_Tape_next_31 (fun H locs hP hD hS => ?_)
    have hP : va_P D vwCl [(a_this, .inr (4, [.int f_3, .int s_ended, .int s_limit]))] H := hP
    have hD : va_D A [(a_this, .inr (4, [.int f_3, .int s_ended, .int s_limit]))] := hD
    refine lv_iload_n hx hb d_Tape_next_34 rfl (lv_at hl 0 rfl) ?_
    cases h
    exact sd_iret hx hb hr hlocks hP hD hK hS d_Tape_next_35
  · have h := Eq.trans (if_neg c_1).symm h
    refine lv_aload_n hx hb d_Tape_next_11 rfl (lv_at hl 0 rfl) ?_
    refine lv_iconst (v := (1 : Int32)) hx hb d_Tape_next_12 (by decide) ?_
    refine va_put (D := D) (ci := 4) (v := .int (1 : Int32)) (ty := .boolean) (C := R_Tape) (T := F_Tape) (N := 3) hx hb hts in_Tape t_Tape t_Tape_ok n_Tape hown hK hP hD hS 0 rfl rfl 1 (by decide) (hts _ k_193) (fun _ h9 => h9) rfl (by decide +kernel) rfl rfl (Nat.le_of_ble_eq_true rfl) d_Tape_next_13 (fun H locs hP hD hS => ?_)
    have hP : va_P D vwCl [(a_this, .inr (4, [.int s_place, .int (1 : Int32), .int s_limit]))] H := hP
    have hD : va_D A [(a_this, .inr (4, [.int s_place, .int (1 : Int32), .int s_limit]))] := hD
    refine lv_iconst (v := (-1 : Int32)) hx hb d_Tape_next_16 (by decide) ?_
    cases h
    exact sd_iret hx hb hr hlocks hP hD hK hS d_Tape_next_17
abbrev rm_Tape_say_Tape : Room := { frames := 2, cells := 0, slots := 0, locals := 43 }
def m_Tape_say_Tape_k4 (fu : Nat) (x1 : Int32) (s_limit : Int32) (rec : Int32 → Int32 → Int32 → Option ((Int32 × Int32))) (x3 : Int32) (s_ended : Int32) (s_place : Int32) : Option ((Int32 × Int32)) :=
  if x3 < (0 : Int32) then (some (s_ended, s_place)) else (bn3 (m_Tape_next_Tape fu ((x1 >>> (x3 &&& 31)) &&& (1 : Int32)) s_ended s_limit s_place) (fun r_3 s_ended_4 s_place_5 => letB (x3 + (-1 : Int32)) (fun x3_6 => rec x3_6 s_ended_4 s_place_5)))
set_option maxHeartbeats 4000000 in
set_option maxRecDepth 100000 in
theorem w_Tape_say_Tape_l4 {p : Program} {l : Launch} {e : Env} {s : State} {m : MethodId} {args : Array Value} {below : List Frame} {meth : Method} {c : Code} {D : va_G} {ar : Nat → ClassId} {A : Nat → Prop} {Q : State → Prop} {fu : Nat} {a_this : Nat} (C0 : CX p s m meth c args prog_9_method_5_code 4 none "FreeWavelets$Tape" D ar A) (x1 : Int32) (s_limit : Int32) : ∀ (n : Nat) (x3 : Int32) (s_ended : Int32) (s_place : Int32) (o_ended : Int32) (o_place : Int32), loop3 (m_Tape_say_Tape_k4 fu x1 s_limit) n x3 s_ended s_place = some (o_ended, o_place) → (WA p l e rm_Tape_say_Tape s m args below meth c D A 4 Q 24 [(a_this, .inr (4, [.int o_place, .int o_ended, .int s_limit]))] [] []) → WA p l e rm_Tape_say_Tape s m args below meth c D A 4 Q 4 [(a_this, .inr (4, [.int s_place, .int s_ended, .int s_limit]))] [(0, .ref a_this), (1, .int x1), (3, .int x3)] [] := by
  intro n
  induction n with
  | zero => intro x3 s_ended s_place o_ended o_place h; exact (no0 h).elim
  | succ n ih =>
    intro x3 s_ended s_place o_ended o_place h K1
    have hrec : ∀ (x3 : Int32) (s_ended : Int32) (s_place : Int32), loop3 (m_Tape_say_Tape_k4 fu x1 s_limit) n x3 s_ended s_place = some (o_ended, o_place) → WA p l e rm_Tape_say_Tape s m args below meth c D A 4 Q 4 [(a_this, .inr (4, [.int s_place, .int s_ended, .int s_limit]))] [(0, .ref a_this), (1, .int x1), (3, .int x3)] [] := fun x3 s_ended s_place h => ih x3 s_ended s_place o_ended o_place h K1
    clear ih
    intro H locs ls hP hD hS hl
    obtain ⟨hx, hb, hr, hml, hown, hts, hlocks, hA, hK, hZ⟩ := id C0
    have h : m_Tape_say_Tape_k4 fu x1 s_limit (loop3 (m_Tape_say_Tape_k4 fu x1 s_limit) n) x3 s_ended s_place = some (o_ended, o_place) := h
    unfold m_Tape_say_Tape_k4 at h
    refine lv_iload_n hx hb d_Tape_say_4 rfl (lv_at hl 2 rfl) ?_
    refine lv_if_lt (tgt := 24) hx hb d_Tape_say_5 (by decide) (fun c_2 => ?_) (fun c_2 => ?_)
    · have h := Eq.trans (if_pos c_2).symm h
      cases h
      exact K1 _ _ _ hP hD hS (lv_sub hl [] rfl)
    · have h := Eq.trans (if_neg c_2).symm h
      refine lv_aload_n hx hb d_Tape_say_8 rfl (lv_at hl 0 rfl) ?_
      refine lv_iload_n hx hb d_Tape_say_9 rfl (lv_at hl 1 rfl) ?_
      refine lv_iload_n hx hb d_Tape_say_10 rfl (lv_at hl 2 rfl) ?_
      refine lv_ishr hx hb d_Tape_say_11 ?_
      refine lv_iconst (v := (1 : Int32)) hx hb d_Tape_say_12 (by decide) ?_
      refine lv_iand hx hb d_Tape_say_13 ?_
      obtain ⟨r_3, s_ended_4, s_place_5, hcall, h⟩ := bn3_some h
      refine sd_i (wr := []) (va_runV (As := [.int ((x1 >>> (x3 &&& 31)) &&& (1 : Int32))]) (rest := []) ⟨hx, hb, hml, hown, hts⟩ (c_Tape_next_Tape a_this ((x1 >>> (x3 &&& 31)) &&& (1 : Int32)) s_ended s_limit s_place hcall _) (cw_V 1 hts k_396 k_397 k_398 k_34 k_402 rfl rfl (by decide +kernel) ⟨Nat.le_of_ble_eq_true rfl, Nat.le_of_ble_eq_true rfl⟩) (sd_preV hK hP hD hS hA hZ [0] (by decide) rfl (va_recv hK hP (ci := 4) (q0 := 0) rfl rfl)) rfl rfl hl.1 rfl (lv_room (Nat.le_of_ble_eq_true rfl)) d_Tape_say_14 ⟨Nat.le_of_ble_eq_true rfl, Nat.le_of_ble_eq_true rfl⟩) hP hD hS hA [0] [] rfl rfl (by decide) (by decide) (fun H locs hP hD hS => ?_)
      have hP : va_P D vwCl [(a_this, .inr (4, [.int s_place_5, .int s_ended_4, .int s_limit]))] H := hP
      have hD : va_D A [(a_this, .inr (4, [.int s_place_5, .int s_ended_4, .int s_limit]))] := hD
      refine lv_pop hx hb d_Tape_say_17 rfl ?_
      obtain ⟨x3_6, e_x3_6⟩ : ∃ y : Int32, y = x3 + (-1 : Int32) := ⟨_, rfl⟩
      have h := letB_at e_x3_6 h
      refine lv_iinc (v := x3_6) (lv' := [(3, .int x3_6), (0, .ref a_this), (1, .int x1)]) hx hb d_Tape_say_18 hl (k := 2) rfl (by rw [e_x3_6]; rfl) (by decide) rfl (fun ls hl => ?_)
      refine lv_goto (tgt := 4) hx hb d_Tape_say_21 (by decide) ?_
      exact hrec x3_6 s_ended_4 s_place_5 h _ _ _ hP hD hS (lv_sub hl [1, 2, 0] rfl)
def m_Tape_say_Tape (fu : Nat) (x1 : Int32) (x2 : Int32) (s_ended : Int32) (s_limit : Int32) (s_place : Int32) : Option (Int32 × Int32) :=
  letB (x2 - (1 : Int32)) (fun x3_1 => bn2 (loop3 (m_Tape_say_Tape_k4 fu x1 s_limit) fu x3_1 s_ended s_place) (fun o_ended_7 o_place_8 => some (o_ended_7, o_place_8)))
set_option maxHeartbeats 4000000 in
set_option maxRecDepth 100000 in
theorem c_Tape_say_Tape {l : Launch} {D : va_G} {ar : Nat → ClassId} {fu : Nat} (a_this : Nat) (x1 : Int32) (x2 : Int32) (s_ended : Int32) (s_limit : Int32) (s_place : Int32) {r_ended : Int32} {r_place : Int32} (h : m_Tape_say_Tape fu x1 x2 s_ended s_limit s_place = some (r_ended, r_place)) : StdV l y_Tape_say ws_Tape_say rm_Tape_say_Tape D ar [.ref a_this, .int x1, .int x2] [(a_this, .inr (4, [.int s_place, .int s_ended, .int s_limit]))] [(a_this, .inr (4, [.int r_place, .int r_ended, .int s_limit]))] := by
  refine sd_metV (cc := prog_9_method_5_code) (maxL := 4) (ret := none) (own := "FreeWavelets$Tape") (by decide) rfl rfl (Nat.le_of_ble_eq_true rfl) ?_
  intro p e s m below meth c A ls C0 hP hD hl
  obtain ⟨hx, hb, hr, hml, hown, hts, hlocks, hA, hK, hZ⟩ := id C0
  have hS : va_S A s.heap s.heap [] := va_S.rf
  have hl : lv_has ls 4 [(0, .ref a_this), (1, .int x1), (2, .int x2)] := hl
  unfold m_Tape_say_Tape at h
  refine lv_iload_n hx hb d_Tape_say_0 rfl (lv_at hl 2 rfl) ?_
  refine lv_iconst (v := (1 : Int32)) hx hb d_Tape_say_1 (by decide) ?_
  refine lv_isub hx hb d_Tape_say_2 ?_
  refine lv_topi (fun x3_1 e_x3_1 => ?_)
  have h := letB_at e_x3_1 h
  refine lv_istore_n (lv' := [(3, .int x3_1), (0, .ref a_this), (1, .int x1), (2, .int x2)]) hx hb d_Tape_say_3 rfl hl (by decide) rfl (fun ls hl => ?_)
  obtain ⟨o_ended_7, o_place_8, hloop, h⟩ := bn2_some h
  refine w_Tape_say_Tape_l4 C0 x1 s_limit fu x3_1 s_ended s_place _ _ hloop ?_ _ _ _ hP hD hS (lv_sub hl [1, 2, 0] rfl)
  clear hP hD hS hl hloop
  intro H locs ls hP hD hS hl
  cases h
  exact sd_vret hx hb hr hlocks hP hD hK hS d_Tape_say_24
abbrev rm_Head_writeRun_Tape : Room := { frames := 3, cells := 0, slots := 0, locals := 66 }
def m_Head_writeRun_Tape (fu : Nat) (x1 : Int32) (s_tape_ended : Int32) (s_tape_limit : Int32) (s_tape_place : Int32) : Option (Int32 × Int32) :=
  bn1 (m_FW_bitsOf fu (x1 + (1 : Int32))) (fun r_1 => bn2 (m_Tape_say_Tape fu (0 : Int32) (r_1 - (1 : Int32)) s_tape_ended s_tape_limit s_tape_place) (fun s_tape_ended_2 s_tape_place_3 => bn2 (m_Tape_say_Tape fu (x1 + (1 : Int32)) r_1 s_tape_ended_2 s_tape_limit s_tape_place_3) (fun s_tape_ended_4 s_tape_place_5 => some (s_tape_ended_4, s_tape_place_5))))
set_option maxHeartbeats 4000000 in
set_option maxRecDepth 100000 in
theorem c_Head_writeRun_Tape {l : Launch} {D : va_G} {ar : Nat → ClassId} {fu : Nat} (a_tape : Nat) (x1 : Int32) (s_tape_ended : Int32) (s_tape_limit : Int32) (s_tape_place : Int32) {r_tape_ended : Int32} {r_tape_place : Int32} (h : m_Head_writeRun_Tape fu x1 s_tape_ended s_tape_limit s_tape_place = some (r_tape_ended, r_tape_place)) : StdV l y_Head_writeRun ws_Head_writeRun rm_Head_writeRun_Tape D ar [.ref a_tape, .int x1] [(a_tape, .inr (4, [.int s_tape_place, .int s_tape_ended, .int s_tape_limit]))] [(a_tape, .inr (4, [.int r_tape_place, .int r_tape_ended, .int s_tape_limit]))] := by
  refine sd_metV (cc := prog_4_method_4_code) (maxL := 3) (ret := none) (own := "FreeWavelets$Head") (by decide) rfl rfl (Nat.le_of_ble_eq_true rfl) ?_
  intro p e s m below meth c A ls C0 hP hD hl
  obtain ⟨hx, hb, hr, hml, hown, hts, hlocks, hA, hK, hZ⟩ := id C0
  have hS : va_S A s.heap s.heap [] := va_S.rf
  have hl : lv_has ls 3 [(0, .ref a_tape), (1, .int x1)] := hl
  unfold m_Head_writeRun_Tape at h
  refine lv_iload_n hx hb d_Head_writeRun_0 rfl (lv_at hl 1 rfl) ?_
  refine lv_iconst (v := (1 : Int32)) hx hb d_Head_writeRun_1 (by decide) ?_
  refine lv_iadd hx hb d_Head_writeRun_2 ?_
  obtain ⟨r_1, hcall, h⟩ := bn1_some h
  refine sd_i (wr := [(a_tape, .inr (4, [.int s_tape_place, .int s_tape_ended, .int s_tape_limit]))]) (va_runSN (As := [.int (x1 + (1 : Int32))]) (rest := []) ⟨hx, hb, hml, hown, hts⟩ (c_FW_bitsOf 0 (x1 + (1 : Int32)) hcall _) (cw_SN 1 hts (hZ.nw k_431 rfl) k_364 k_29 k_365 rfl rfl (by decide +kernel) ⟨Nat.le_of_ble_eq_true rfl, Nat.le_of_ble_eq_true rfl⟩) (sd_preS hK hP hD hS hA hZ [] (by decide) rfl) rfl rfl hl.1 rfl (lv_room (Nat.le_of_ble_eq_true rfl)) d_Head_writeRun_3 ⟨Nat.le_of_ble_eq_true rfl, Nat.le_of_ble_eq_true rfl⟩) hP hD hS hA [] [0] rfl rfl (by decide) (by decide) (fun H locs hP hD hS => ?_)
  have hP : va_P D vwCl [(a_tape, .inr (4, [.int s_tape_place, .int s_tape_ended, .int s_tape_limit]))] H := hP
  have hD : va_D A [(a_tape, .inr (4, [.int s_tape_place, .int s_tape_ended, .int s_tape_limit]))] := hD
  refine lv_istore_n (lv' := [(2, .int r_1), (0, .ref a_tape), (1, .int x1)]) hx hb d_Head_writeRun_6 rfl hl (by decide) rfl (fun ls hl => ?_)
  refine lv_aload_n hx hb d_Head_writeRun_7 rfl (lv_at hl 1 rfl) ?_
  refine lv_iconst (v := (0 : Int32)) hx hb d_Head_writeRun_8 (by decide) ?_
  refine lv_iload_n hx hb d_Head_writeRun_9 rfl (lv_at hl 0 rfl) ?_
  refine lv_iconst (v := (1 : Int32)) hx hb d_Head_writeRun_10 (by decide) ?_
  refine lv_isub hx hb d_Head_writeRun_11 ?_
  obtain ⟨s_tape_ended_2, s_tape_place_3, hcall, h⟩ := bn2_some h
  refine sd_v (wr := []) (va_runV (As := [.int (0 : Int32), .int (r_1 - (1 : Int32))]) (rest := []) ⟨hx, hb, hml, hown, hts⟩ (c_Tape_say_Tape a_tape (0 : Int32) (r_1 - (1 : Int32)) s_tape_ended s_tape_limit s_tape_place hcall _) (cw_V 2 hts k_389 k_390 k_391 k_34 k_395 rfl rfl (by decide +kernel) ⟨Nat.le_of_ble_eq_true rfl, Nat.le_of_ble_eq_true rfl⟩) (sd_preV hK hP hD hS hA hZ [0] (by decide) rfl (va_recv hK hP (ci := 4) (q0 := 0) rfl rfl)) rfl rfl hl.1 rfl (lv_room (Nat.le_of_ble_eq_true rfl)) d_Head_writeRun_12 ⟨Nat.le_of_ble_eq_true rfl, Nat.le_of_ble_eq_true rfl⟩) hP hD hS hA [0] [] rfl rfl (by decide) (by decide) (fun H locs hP hD hS => ?_)
  have hP : va_P D vwCl [(a_tape, .inr (4, [.int s_tape_place_3, .int s_tape_ended_2, .int s_tape_limit]))] H := hP
  have hD : va_D A [(a_tape, .inr (4, [.int s_tape_place_3, .int s_tape_ended_2, .int s_tape_limit]))] := hD
  refine lv_aload_n hx hb d_Head_writeRun_15 rfl (lv_at hl 1 rfl) ?_
  refine lv_iload_n hx hb d_Head_writeRun_16 rfl (lv_at hl 2 rfl) ?_
  refine lv_iconst (v := (1 : Int32)) hx hb d_Head_writeRun_17 (by decide) ?_
  refine lv_iadd hx hb d_Head_writeRun_18 ?_
  refine lv_iload_n hx hb d_Head_writeRun_19 rfl (lv_at hl 0 rfl) ?_
  obtain ⟨s_tape_ended_4, s_tape_place_5, hcall, h⟩ := bn2_some h
  refine sd_v (wr := []) (va_runV (As := [.int (x1 + (1 : Int32)), .int r_1]) (rest := []) ⟨hx, hb, hml, hown, hts⟩ (c_Tape_say_Tape a_tape (x1 + (1 : Int32)) r_1 s_tape_ended_2 s_tape_limit s_tape_place_3 hcall _) (cw_V 2 hts k_389 k_390 k_391 k_34 k_395 rfl rfl (by decide +kernel) ⟨Nat.le_of_ble_eq_true rfl, Nat.le_of_ble_eq_true rfl⟩) (sd_preV hK hP hD hS hA hZ [0] (by decide) rfl (va_recv hK hP (ci := 4) (q0 := 0) rfl rfl)) rfl rfl hl.1 rfl (lv_room (Nat.le_of_ble_eq_true rfl)) d_Head_writeRun_20 ⟨Nat.le_of_ble_eq_true rfl, Nat.le_of_ble_eq_true rfl⟩) hP hD hS hA [0] [] rfl rfl (by decide) (by decide) (fun H locs hP hD hS => ?_)
  have hP : va_P D vwCl [(a_tape, .inr (4, [.int s_tape_place_5, .int s_tape_ended_4, .int s_tape_limit]))] H := hP
  have hD : va_D A [(a_tape, .inr (4, [.int s_tape_place_5, .int s_tape_ended_4, .int s_tape_limit]))] := hD
  cases h
  exact sd_vret hx hb hr hlocks hP hD hK hS d_Head_writeRun_23
abbrev rm_Head_write_Tape : Room := { frames := 4, cells := 0, slots := 0, locals := 88 }
def m_Head_write_Tape_b100 (fu : Nat) (rec : Int32 → Int32 → Int32 → Int32 → Int32 → Option ((Int32 × Int32 × Int32 × Int32))) (x3 : Int32) (x4 : Int32) (x5 : Int32) (x6 : Int32) (s_picture_planes : Int32) (s_picture_shape_height : Int32) (s_picture_shape_width : Int32) (s_picture_shape_inside : Nat → Int32) (s_tape_ended : Int32) (s_tape_limit : Int32) (s_tape_place : Int32) : Option ((Int32 × Int32 × Int32 × Int32)) :=
  letB (x4 + (1 : Int32)) (fun x4_12 => letB (x6 + (1 : Int32)) (fun x6_13 => rec x3 x4_12 x6_13 s_tape_ended s_tape_place))
set_option maxHeartbeats 4000000 in
set_option maxRecDepth 100000 in
theorem w_Head_write_Tape_b100 {p : Program} {l : Launch} {e : Env} {s : State} {m : MethodId} {args : Array Value} {below : List Frame} {meth : Method} {c : Code} {D : va_G} {ar : Nat → ClassId} {A : Nat → Prop} {Q : State → Prop} {fu : Nat} {a_tape a_picture a_picture_shape a_picture_samples a_picture_waves a_picture_lifting a_picture_shape_inside a_picture_shape_partOf a_picture_shape_sizeOf a_picture_shape_firstOf a_picture_shape_queue : Nat} {s_picture_stale : Int32} {s_picture_shape_parts : Int32} {s_picture_shape_count : Int32} {o_x3 : Int32} {o_x4 : Int32} {o_tape_ended : Int32} {o_tape_place : Int32} (C0 : CX p s m meth c args prog_4_method_2_code 7 none "FreeWavelets$Head" D ar A) (x3 : Int32) (x4 : Int32) (x5 : Int32) (x6 : Int32) (s_picture_planes : Int32) (s_picture_shape_height : Int32) (s_picture_shape_width : Int32) (s_picture_shape_inside : Nat → Int32) (s_tape_ended : Int32) (s_tape_limit : Int32) (s_tape_place : Int32) (rec : Int32 → Int32 → Int32 → Int32 → Int32 → Option ((Int32 × Int32 × Int32 × Int32))) (hrec : ∀ (x3 : Int32) (x4 : Int32) (x6 : Int32) (s_tape_ended : Int32) (s_tape_place : Int32), rec x3 x4 x6 s_tape_ended s_tape_place = some (o_x3, o_x4, o_tape_ended, o_tape_place) → WA p l e rm_Head_write_Tape s m args below meth c D A 7 Q 56 [(a_tape, .inr (4, [.int s_tape_place, .int s_tape_ended, .int s_tape_limit])), (a_picture, .inr (6, [.ref a_picture_shape, .ref a_picture_samples, .ref a_picture_waves, .int s_picture_planes, .ref a_picture_lifting, .int s_picture_stale])), (a_picture_shape, .inr (7, [.ref a_picture_shape_inside, .ref a_picture_shape_partOf, .ref a_picture_shape_sizeOf, .ref a_picture_shape_firstOf, .int s_picture_shape_width, .int s_picture_shape_height, .int s_picture_shape_parts, .int s_picture_shape_count, .ref a_picture_shape_queue])), (a_picture_shape_inside, .inl (ar 1, 256, .inl s_picture_shape_inside))] [(0, .ref a_tape), (2, .ref a_picture_shape), (3, .int x3), (4, .int x4), (5, .int x5), (6, .int x6)] []) (K1 : WA p l e rm_Head_write_Tape s m args below meth c D A 7 Q 109 [(a_tape, .inr (4, [.int o_tape_place, .int o_tape_ended, .int s_tape_limit])), (a_picture, .inr (6, [.ref a_picture_shape, .ref a_picture_samples, .ref a_picture_waves, .int s_picture_planes, .ref a_picture_lifting, .int s_picture_stale])), (a_picture_shape, .inr (7, [.ref a_picture_shape_inside, .ref a_picture_shape_partOf, .ref a_picture_shape_sizeOf, .ref a_picture_shape_firstOf, .int s_picture_shape_width, .int s_picture_shape_height, .int s_picture_shape_parts, .int s_picture_shape_count, .ref a_picture_shape_queue])), (a_picture_shape_inside, .inl (ar 1, 256, .inl s_picture_shape_inside))] [(0, .ref a_tape), (2, .ref a_picture_shape), (3, .int o_x3), (4, .int o_x4), (5, .int x5)] []) (h : m_Head_write_Tape_b100 fu rec x3 x4 x5 x6 s_picture_planes s_picture_shape_height s_picture_shape_width s_picture_shape_inside s_tape_ended s_tape_limit s_tape_place = some (o_x3, o_x4, o_tape_ended, o_tape_place)) : WA p l e rm_Head_write_Tape s m args below meth c D A 7 Q 100 [(a_tape, .inr (4, [.int s_tape_place, .int s_tape_ended, .int s_tape_limit])), (a_picture, .inr (6, [.ref a_picture_shape, .ref a_picture_samples, .ref a_picture_waves, .int s_picture_planes, .ref a_picture_lifting, .int s_picture_stale])), (a_picture_shape, .inr (7, [.ref a_picture_shape_inside, .ref a_picture_shape_partOf, .ref a_picture_shape_sizeOf, .ref a_picture_shape_firstOf, .int s_picture_shape_width, .int s_picture_shape_height, .int s_picture_shape_parts, .int s_picture_shape_count, .ref a_picture_shape_queue])), (a_picture_shape_inside, .inl (ar 1, 256, .inl s_picture_shape_inside))] [(0, .ref a_tape), (2, .ref a_picture_shape), (3, .int x3), (4, .int x4), (5, .int x5), (6, .int x6)] [] := by
  intro H locs ls hP hD hS hl
  obtain ⟨hx, hb, hr, hml, hown, hts, hlocks, hA, hK, hZ⟩ := id C0
  unfold m_Head_write_Tape_b100 at h
  obtain ⟨x4_12, e_x4_12⟩ : ∃ y : Int32, y = x4 + (1 : Int32) := ⟨_, rfl⟩
  have h := letB_at e_x4_12 h
  refine lv_iinc (v := x4_12) (lv' := [(4, .int x4_12), (0, .ref a_tape), (2, .ref a_picture_shape), (3, .int x3), (5, .int x5), (6, .int x6)]) hx hb d_Head_write_100 hl (k := 3) rfl (by rw [e_x4_12]; rfl) (by decide) rfl (fun ls hl => ?_)
  obtain ⟨x6_13, e_x6_13⟩ : ∃ y : Int32, y = x6 + (1 : Int32) := ⟨_, rfl⟩
  have h := letB_at e_x6_13 h
  refine lv_iinc (v := x6_13) (lv' := [(6, .int x6_13), (4, .int x4_12), (0, .ref a_tape), (2, .ref a_picture_shape), (3, .int x3), (5, .int x5)]) hx hb d_Head_write_103 hl (k := 5) rfl (by rw [e_x6_13]; rfl) (by decide) rfl (fun ls hl => ?_)
  refine lv_goto (tgt := 56) hx hb d_Head_write_106 (by decide) ?_
  exact hrec x3 x4_12 x6_13 s_tape_ended s_tape_place h _ _ _ hP hD hS (lv_sub hl [2, 3, 4, 1, 5, 0] rfl)
def m_Head_write_Tape_b96 (fu : Nat) (rec : Int32 → Int32 → Int32 → Int32 → Int32 → Option ((Int32 × Int32 × Int32 × Int32))) (x5 : Int32) (x6 : Int32) (t0 : Int32) (s_picture_planes : Int32) (s_picture_shape_height : Int32) (s_picture_shape_width : Int32) (s_picture_shape_inside : Nat → Int32) (s_tape_ended : Int32) (s_tape_limit : Int32) (s_tape_place : Int32) : Option ((Int32 × Int32 × Int32 × Int32)) :=
  m_Head_write_Tape_b100 fu rec t0 (0 : Int32) x5 x6 s_picture_planes s_picture_shape_height s_picture_shape_width s_picture_shape_inside s_tape_ended s_tape_limit s_tape_place
set_option maxHeartbeats 4000000 in
set_option maxRecDepth 100000 in
theorem w_Head_write_Tape_b96 {p : Program} {l : Launch} {e : Env} {s : State} {m : MethodId} {args : Array Value} {below : List Frame} {meth : Method} {c : Code} {D : va_G} {ar : Nat → ClassId} {A : Nat → Prop} {Q : State → Prop} {fu : Nat} {a_tape a_picture a_picture_shape a_picture_samples a_picture_waves a_picture_lifting a_picture_shape_inside a_picture_shape_partOf a_picture_shape_sizeOf a_picture_shape_firstOf a_picture_shape_queue : Nat} {s_picture_stale : Int32} {s_picture_shape_parts : Int32} {s_picture_shape_count : Int32} {o_x3 : Int32} {o_x4 : Int32} {o_tape_ended : Int32} {o_tape_place : Int32} (C0 : CX p s m meth c args prog_4_method_2_code 7 none "FreeWavelets$Head" D ar A) (x5 : Int32) (x6 : Int32) (t0 : Int32) (s_picture_planes : Int32) (s_picture_shape_height : Int32) (s_picture_shape_width : Int32) (s_picture_shape_inside : Nat → Int32) (s_tape_ended : Int32) (s_tape_limit : Int32) (s_tape_place : Int32) (rec : Int32 → Int32 → Int32 → Int32 → Int32 → Option ((Int32 × Int32 × Int32 × Int32))) (hrec : ∀ (x3 : Int32) (x4 : Int32) (x6 : Int32) (s_tape_ended : Int32) (s_tape_place : Int32), rec x3 x4 x6 s_tape_ended s_tape_place = some (o_x3, o_x4, o_tape_ended, o_tape_place) → WA p l e rm_Head_write_Tape s m args below meth c D A 7 Q 56 [(a_tape, .inr (4, [.int s_tape_place, .int s_tape_ended, .int s_tape_limit])), (a_picture, .inr (6, [.ref a_picture_shape, .ref a_picture_samples, .ref a_picture_waves, .int s_picture_planes, .ref a_picture_lifting, .int s_picture_stale])), (a_picture_shape, .inr (7, [.ref a_picture_shape_inside, .ref a_picture_shape_partOf, .ref a_picture_shape_sizeOf, .ref a_picture_shape_firstOf, .int s_picture_shape_width, .int s_picture_shape_height, .int s_picture_shape_parts, .int s_picture_shape_count, .ref a_picture_shape_queue])), (a_picture_shape_inside, .inl (ar 1, 256, .inl s_picture_shape_inside))] [(0, .ref a_tape), (2, .ref a_picture_shape), (3, .int x3), (4, .int x4), (5, .int x5), (6, .int x6)] []) (K1 : WA p l e rm_Head_write_Tape s m args below meth c D A 7 Q 109 [(a_tape, .inr (4, [.int o_tape_place, .int o_tape_ended, .int s_tape_limit])), (a_picture, .inr (6, [.ref a_picture_shape, .ref a_picture_samples, .ref a_picture_waves, .int s_picture_planes, .ref a_picture_lifting, .int s_picture_stale])), (a_picture_shape, .inr (7, [.ref a_picture_shape_inside, .ref a_picture_shape_partOf, .ref a_picture_shape_sizeOf, .ref a_picture_shape_firstOf, .int s_picture_shape_width, .int s_picture_shape_height, .int s_picture_shape_parts, .int s_picture_shape_count, .ref a_picture_shape_queue])), (a_picture_shape_inside, .inl (ar 1, 256, .inl s_picture_shape_inside))] [(0, .ref a_tape), (2, .ref a_picture_shape), (3, .int o_x3), (4, .int o_x4), (5, .int x5)] []) (h : m_Head_write_Tape_b96 fu rec x5 x6 t0 s_picture_planes s_picture_shape_height s_picture_shape_width s_picture_shape_inside s_tape_ended s_tape_limit s_tape_place = some (o_x3, o_x4, o_tape_ended, o_tape_place)) : WA p l e rm_Head_write_Tape s m args below meth c D A 7 Q 96 [(a_tape, .inr (4, [.int s_tape_place, .int s_tape_ended, .int s_tape_limit])), (a_picture, .inr (6, [.ref a_picture_shape, .ref a_picture_samples, .ref a_picture_waves, .int s_picture_planes, .ref a_picture_lifting, .int s_picture_stale])), (a_picture_shape, .inr (7, [.ref a_picture_shape_inside, .ref a_picture_shape_partOf, .ref a_picture_shape_sizeOf, .ref a_picture_shape_firstOf, .int s_picture_shape_width, .int s_picture_shape_height, .int s_picture_shape_parts, .int s_picture_shape_count, .ref a_picture_shape_queue])), (a_picture_shape_inside, .inl (ar 1, 256, .inl s_picture_shape_inside))] [(0, .ref a_tape), (2, .ref a_picture_shape), (5, .int x5), (6, .int x6)] [.int t0] := by
  intro H locs ls hP hD hS hl
  obtain ⟨hx, hb, hr, hml, hown, hts, hlocks, hA, hK, hZ⟩ := id C0
  unfold m_Head_write_Tape_b96 at h
  refine lv_istore_n (lv' := [(3, .int t0), (0, .ref a_tape), (2, .ref a_picture_shape), (5, .int x5), (6, .int x6)]) hx hb d_Head_write_96 rfl hl (by decide) rfl (fun ls hl => ?_)
  refine lv_iconst (v := (0 : Int32)) hx hb d_Head_write_97 (by decide) ?_
  refine lv_istore (lv' := [(4, .int (0 : Int32)), (3, .int t0), (0, .ref a_tape), (2, .ref a_picture_shape), (5, .int x5), (6, .int x6)]) hx hb d_Head_write_98 hl (by decide) rfl (fun ls hl => ?_)
  exact w_Head_write_Tape_b100 C0 t0 (0 : Int32) x5 x6 s_picture_planes s_picture_shape_height s_picture_shape_width s_picture_shape_inside s_tape_ended s_tape_limit s_tape_place _ hrec K1 h _ _ _ hP hD hS (lv_sub hl [2, 3, 1, 0, 4, 5] rfl)
def m_Head_write_Tape_k56 (fu : Nat) (x5 : Int32) (s_picture_planes : Int32) (s_picture_shape_height : Int32) (s_picture_shape_width : Int32) (s_picture_shape_inside : Nat → Int32) (s_tape_limit : Int32) (rec : Int32 → Int32 → Int32 → Int32 → Int32 → Option ((Int32 × Int32 × Int32 × Int32))) (x3 : Int32) (x4 : Int32) (x6 : Int32) (s_tape_ended : Int32) (s_tape_place : Int32) : Option ((Int32 × Int32 × Int32 × Int32)) :=
  if s_picture_shape_width ≤ x6 then (some (x3, x4, s_tape_ended, s_tape_place)) else (bn1 (m_FW_sampleOf fu x6 x5) (fun r_9 => chk r_9 256 (if (s_picture_shape_inside (r_9).toNatClampNeg) = x3 then (m_Head_write_Tape_b100 fu rec x3 x4 x5 x6 s_picture_planes s_picture_shape_height s_picture_shape_width s_picture_shape_inside s_tape_ended s_tape_limit s_tape_place) else (bn2 (m_Head_writeRun_Tape fu x4 s_tape_ended s_tape_limit s_tape_place) (fun s_tape_ended_14 s_tape_place_15 => if x3 = (0 : Int32) then (m_Head_write_Tape_b96 fu rec x5 x6 (1 : Int32) s_picture_planes s_picture_shape_height s_picture_shape_width s_picture_shape_inside s_tape_ended_14 s_tape_limit s_tape_place_15) else (m_Head_write_Tape_b96 fu rec x5 x6 (0 : Int32) s_picture_planes s_picture_shape_height s_picture_shape_width s_picture_shape_inside s_tape_ended_14 s_tape_limit s_tape_place_15))))))
set_option maxHeartbeats 4000000 in
set_option maxRecDepth 100000 in
theorem w_Head_write_Tape_l56 {p : Program} {l : Launch} {e : Env} {s : State} {m : MethodId} {args : Array Value} {below : List Frame} {meth : Method} {c : Code} {D : va_G} {ar : Nat → ClassId} {A : Nat → Prop} {Q : State → Prop} {fu : Nat} {a_tape a_picture a_picture_shape a_picture_samples a_picture_waves a_picture_lifting a_picture_shape_inside a_picture_shape_partOf a_picture_shape_sizeOf a_picture_shape_firstOf a_picture_shape_queue : Nat} {s_picture_stale : Int32} {s_picture_shape_parts : Int32} {s_picture_shape_count : Int32} (C0 : CX p s m meth c args prog_4_method_2_code 7 none "FreeWavelets$Head" D ar A) (x5 : Int32) (s_picture_planes : Int32) (s_picture_shape_height : Int32) (s_picture_shape_width : Int32) (s_picture_shape_inside : Nat → Int32) (s_tape_limit : Int32) : ∀ (n : Nat) (x3 : Int32) (x4 : Int32) (x6 : Int32) (s_tape_ended : Int32) (s_tape_place : Int32) (o_x3 : Int32) (o_x4 : Int32) (o_tape_ended : Int32) (o_tape_place : Int32), loop5 (m_Head_write_Tape_k56 fu x5 s_picture_planes s_picture_shape_height s_picture_shape_width s_picture_shape_inside s_tape_limit) n x3 x4 x6 s_tape_ended s_tape_place = some (o_x3, o_x4, o_tape_ended, o_tape_place) → (WA p l e rm_Head_write_Tape s m args below meth c D A 7 Q 109 [(a_tape, .inr (4, [.int o_tape_place, .int o_tape_ended, .int s_tape_limit])), (a_picture, .inr (6, [.ref a_picture_shape, .ref a_picture_samples, .ref a_picture_waves, .int s_picture_planes, .ref a_picture_lifting, .int s_picture_stale])), (a_picture_shape, .inr (7, [.ref a_picture_shape_inside, .ref a_picture_shape_partOf, .ref a_picture_shape_sizeOf, .ref a_picture_shape_firstOf, .int s_picture_shape_width, .int s_picture_shape_height, .int s_picture_shape_parts, .int s_picture_shape_count, .ref a_picture_shape_queue])), (a_picture_shape_inside, .inl (ar 1, 256, .inl s_picture_shape_inside))] [(0, .ref a_tape), (2, .ref a_picture_shape), (3, .int o_x3), (4, .int o_x4), (5, .int x5)] []) → WA p l e rm_Head_write_Tape s m args below meth c D A 7 Q 56 [(a_tape, .inr (4, [.int s_tape_place, .int s_tape_ended, .int s_tape_limit])), (a_picture, .inr (6, [.ref a_picture_shape, .ref a_picture_samples, .ref a_picture_waves, .int s_picture_planes, .ref a_picture_lifting, .int s_picture_stale])), (a_picture_shape, .inr (7, [.ref a_picture_shape_inside, .ref a_picture_shape_partOf, .ref a_picture_shape_sizeOf, .ref a_picture_shape_firstOf, .int s_picture_shape_width, .int s_picture_shape_height, .int s_picture_shape_parts, .int s_picture_shape_count, .ref a_picture_shape_queue])), (a_picture_shape_inside, .inl (ar 1, 256, .inl s_picture_shape_inside))] [(0, .ref a_tape), (2, .ref a_picture_shape), (3, .int x3), (4, .int x4), (5, .int x5), (6, .int x6)] [] := by
  intro n
  induction n with
  | zero => intro x3 x4 x6 s_tape_ended s_tape_place o_x3 o_x4 o_tape_ended o_tape_place h; exact (no0 h).elim
  | succ n ih =>
    intro x3 x4 x6 s_tape_ended s_tape_place o_x3 o_x4 o_tape_ended o_tape_place h K1
    have hrec : ∀ (x3 : Int32) (x4 : Int32) (x6 : Int32) (s_tape_ended : Int32) (s_tape_place : Int32), loop5 (m_Head_write_Tape_k56 fu x5 s_picture_planes s_picture_shape_height s_picture_shape_width s_picture_shape_inside s_tape_limit) n x3 x4 x6 s_tape_ended s_tape_place = some (o_x3, o_x4, o_tape_ended, o_tape_place) → WA p l e rm_Head_write_Tape s m args below meth c D A 7 Q 56 [(a_tape, .inr (4, [.int s_tape_place, .int s_tape_ended, .int s_tape_limit])), (a_picture, .inr (6, [.ref a_picture_shape, .ref a_picture_samples, .ref a_picture_waves, .int s_picture_planes, .ref a_picture_lifting, .int s_picture_stale])), (a_picture_shape, .inr (7, [.ref a_picture_shape_inside, .ref a_picture_shape_partOf, .ref a_picture_shape_sizeOf, .ref a_picture_shape_firstOf, .int s_picture_shape_width, .int s_picture_shape_height, .int s_picture_shape_parts, .int s_picture_shape_count, .ref a_picture_shape_queue])), (a_picture_shape_inside, .inl (ar 1, 256, .inl s_picture_shape_inside))] [(0, .ref a_tape), (2, .ref a_picture_shape), (3, .int x3), (4, .int x4), (5, .int x5), (6, .int x6)] [] := fun x3 x4 x6 s_tape_ended s_tape_place h => ih x3 x4 x6 s_tape_ended s_tape_place o_x3 o_x4 o_tape_ended o_tape_place h K1
    clear ih
    intro H locs ls hP hD hS hl
    obtain ⟨hx, hb, hr, hml, hown, hts, hlocks, hA, hK, hZ⟩ := id C0
    have h : m_Head_write_Tape_k56 fu x5 s_picture_planes s_picture_shape_height s_picture_shape_width s_picture_shape_inside s_tape_limit (loop5 (m_Head_write_Tape_k56 fu x5 s_picture_planes s_picture_shape_height s_picture_shape_width s_picture_shape_inside s_tape_limit) n) x3 x4 x6 s_tape_ended s_tape_place = some (o_x3, o_x4, o_tape_ended, o_tape_place) := h
    unfold m_Head_write_Tape_k56 at h
    refine lv_iload hx hb d_Head_write_56 (lv_at hl 5 rfl) ?_
    refine lv_aload_n hx hb d_Head_write_58 rfl (lv_at hl 1 rfl) ?_
    refine va_get (D := D) (ci := 7) (v := .int s_picture_shape_width) (C := R_Shape) (T := F_Shape) (N := 9) hx hb hts in_Shape hown hK hP 2 rfl rfl 4 (by decide) (hts _ k_83) (fun _ h9 => h9) rfl d_Head_write_59 ?_
    refine lv_icmp_ge (tgt := 109) hx hb d_Head_write_62 (by decide) (fun c_8 => ?_) (fun c_8 => ?_)
    · have h := Eq.trans (if_pos c_8).symm h
      cases h
      exact K1 _ _ _ hP hD hS (lv_sub hl [0, 1, 2, 3, 4] rfl)
    · have h := Eq.trans (if_neg c_8).symm h
      refine lv_aload_n hx hb d_Head_write_65 rfl (lv_at hl 1 rfl) ?_
      refine va_get (D := D) (ci := 7) (v := .ref a_picture_shape_inside) (C := R_Shape) (T := F_Shape) (N := 9) hx hb hts in_Shape hown hK hP 2 rfl rfl 0 (by decide) (hts _ k_72) (fun _ h9 => h9) rfl d_Head_write_66 ?_
      refine lv_iload hx hb d_Head_write_69 (lv_at hl 5 rfl) ?_
      refine lv_iload hx hb d_Head_write_71 (lv_at hl 4 rfl) ?_
      obtain ⟨r_9, hcall, h⟩ := bn1_some h
      refine sd_i (wr := [(a_tape, .inr (4, [.int s_tape_place, .int s_tape_ended, .int s_tape_limit])), (a_picture, .inr (6, [.ref a_picture_shape, .ref a_picture_samples, .ref a_picture_waves, .int s_picture_planes, .ref a_picture_lifting, .int s_picture_stale])), (a_picture_shape, .inr (7, [.ref a_picture_shape_inside, .ref a_picture_shape_partOf, .ref a_picture_shape_sizeOf, .ref a_picture_shape_firstOf, .int s_picture_shape_width, .int s_picture_shape_height, .int s_picture_shape_parts, .int s_picture_shape_count, .ref a_picture_shape_queue])), (a_picture_shape_inside, .inl (ar 1, 256, .inl s_picture_shape_inside))]) (va_runSN (As := [.int x6, .int x5]) (rest := [.ref a_picture_shape_inside]) ⟨hx, hb, hml, hown, hts⟩ (c_FW_sampleOf 0 x6 x5 hcall _) (cw_SN 2 hts (hZ.nw k_427 rfl) k_276 k_29 k_277 rfl rfl (by decide +kernel) ⟨Nat.le_of_ble_eq_true rfl, Nat.le_of_ble_eq_true rfl⟩) (sd_preS hK hP hD hS hA hZ [] (by decide) rfl) rfl rfl hl.1 rfl (lv_room (Nat.le_of_ble_eq_true rfl)) d_Head_write_73 ⟨Nat.le_of_ble_eq_true rfl, Nat.le_of_ble_eq_true rfl⟩) hP hD hS hA [] [0, 1, 2, 3] rfl rfl (by decide) (by decide) (fun H locs hP hD hS => ?_)
      have hP : va_P D vwCl [(a_tape, .inr (4, [.int s_tape_place, .int s_tape_ended, .int s_tape_limit])), (a_picture, .inr (6, [.ref a_picture_shape, .ref a_picture_samples, .ref a_picture_waves, .int s_picture_planes, .ref a_picture_lifting, .int s_picture_stale])), (a_picture_shape, .inr (7, [.ref a_picture_shape_inside, .ref a_picture_shape_partOf, .ref a_picture_shape_sizeOf, .ref a_picture_shape_firstOf, .int s_picture_shape_width, .int s_picture_shape_height, .int s_picture_shape_parts, .int s_picture_shape_count, .ref a_picture_shape_queue])), (a_picture_shape_inside, .inl (ar 1, 256, .inl s_picture_shape_inside))] H := hP
      have hD : va_D A [(a_tape, .inr (4, [.int s_tape_place, .int s_tape_ended, .int s_tape_limit])), (a_picture, .inr (6, [.ref a_picture_shape, .ref a_picture_samples, .ref a_picture_waves, .int s_picture_planes, .ref a_picture_lifting, .int s_picture_stale])), (a_picture_shape, .inr (7, [.ref a_picture_shape_inside, .ref a_picture_shape_partOf, .ref a_picture_shape_sizeOf, .ref a_picture_shape_firstOf, .int s_picture_shape_width, .int s_picture_shape_height, .int s_picture_shape_parts, .int s_picture_shape_count, .ref a_picture_shape_queue])), (a_picture_shape_inside, .inl (ar 1, 256, .inl s_picture_shape_inside))] := hD
      obtain ⟨b_10, h⟩ := chk_some h
      refine va_zald hx hb hK hP 3 1 rfl rfl b_10 d_Head_write_76 ?_
      refine lv_iload_n hx hb d_Head_write_77 rfl (lv_at hl 2 rfl) ?_
      refine lv_icmp_eq (tgt := 100) hx hb d_Head_write_78 (by decide) (fun c_11 => ?_) (fun c_11 => ?_)
      · have h := Eq.trans (if_pos c_11).symm h
        exact w_Head_write_Tape_b100 C0 x3 x4 x5 x6 s_picture_planes s_picture_shape_height s_picture_shape_width s_picture_shape_inside s_tape_ended s_tape_limit s_tape_place _ hrec K1 h _ _ _ hP hD hS hl
      · have h := Eq.trans (if_neg c_11).symm h
        refine lv_aload_n hx hb d_Head_write_81 rfl (lv_at hl 0 rfl) ?_
        refine lv_iload hx hb d_Head_write_82 (lv_at hl 3 rfl) ?_
        obtain ⟨s_tape_ended_14, s_tape_place_15, hcall, h⟩ := bn2_some h
        refine sd_v (wr := [(a_picture, .inr (6, [.ref a_picture_shape, .ref a_picture_samples, .ref a_picture_waves, .int s_picture_planes, .ref a_picture_lifting, .int s_picture_stale])), (a_picture_shape, .inr (7, [.ref a_picture_shape_inside, .ref a_picture_shape_partOf, .ref a_picture_shape_sizeOf, .ref a_picture_shape_firstOf, .int s_picture_shape_width, .int s_picture_shape_height, .int s_picture_shape_parts, .int s_picture_shape_count, .ref a_picture_shape_queue])), (a_picture_shape_inside, .inl (ar 1, 256, .inl s_picture_shape_inside))]) (va_runS (As := [.ref a_tape, .int x4]) (rest := []) ⟨hx, hb, hml, hown, hts⟩ (c_Head_writeRun_Tape a_tape x4 s_tape_ended s_tape_limit s_tape_place hcall _) (cw_S 2 hts k_428 k_429 k_47 k_430 rfl rfl (by decide +kernel) ⟨Nat.le_of_ble_eq_true rfl, Nat.le_of_ble_eq_true rfl⟩) (sd_preS hK hP hD hS hA hZ [0] (by decide) rfl) rfl rfl hl.1 rfl (lv_room (Nat.le_of_ble_eq_true rfl)) d_Head_write_84 ⟨Nat.le_of_ble_eq_true rfl, Nat.le_of_ble_eq_true rfl⟩) hP hD hS hA [0] [1, 2, 3] rfl rfl (by decide) (by decide) (fun H locs hP hD hS => ?_)
        have hP : va_P D vwCl [(a_picture, .inr (6, [.ref a_picture_shape, .ref a_picture_samples, .ref a_picture_waves, .int s_picture_planes, .ref a_picture_lifting, .int s_picture_stale])), (a_picture_shape, .inr (7, [.ref a_picture_shape_inside, .ref a_picture_shape_partOf, .ref a_picture_shape_sizeOf, .ref a_picture_shape_firstOf, .int s_picture_shape_width, .int s_picture_shape_height, .int s_picture_shape_parts, .int s_picture_shape_count, .ref a_picture_shape_queue])), (a_picture_shape_inside, .inl (ar 1, 256, .inl s_picture_shape_inside)), (a_tape, .inr (4, [.int s_tape_place_15, .int s_tape_ended_14, .int s_tape_limit]))] H := hP
        have hD : va_D A [(a_picture, .inr (6, [.ref a_picture_shape, .ref a_picture_samples, .ref a_picture_waves, .int s_picture_planes, .ref a_picture_lifting, .int s_picture_stale])), (a_picture_shape, .inr (7, [.ref a_picture_shape_inside, .ref a_picture_shape_partOf, .ref a_picture_shape_sizeOf, .ref a_picture_shape_firstOf, .int s_picture_shape_width, .int s_picture_shape_height, .int s_picture_shape_parts, .int s_picture_shape_count, .ref a_picture_shape_queue])), (a_picture_shape_inside, .inl (ar 1, 256, .inl s_picture_shape_inside)), (a_tape, .inr (4, [.int s_tape_place_15, .int s_tape_ended_14, .int s_tape_limit]))] := hD
        refine lv_iload_n hx hb d_Head_write_87 rfl (lv_at hl 2 rfl) ?_
        refine lv_if_ne (tgt := 95) hx hb d_Head_write_88 (by decide) (fun c_16 => ?_) (fun c_16 => ?_)
        · have h := Eq.trans (if_neg c_16).symm h
          refine lv_iconst (v := (0 : Int32)) hx hb d_Head_write_95 (by decide) ?_
          exact w_Head_write_Tape_b96 C0 x5 x6 (0 : Int32) s_picture_planes s_picture_shape_height s_picture_shape_width s_picture_shape_inside s_tape_ended_14 s_tape_limit s_tape_place_15 _ hrec K1 h _ _ _ (hP.sub [3, 0, 1, 2] rfl) (hD.sub [3, 0, 1, 2] (by decide) rfl) hS (lv_sub hl [0, 1, 4, 5] rfl)
        · have h := Eq.trans (if_pos c_16).symm h
          refine lv_iconst (v := (1 : Int32)) hx hb d_Head_write_91 (by decide) ?_
          refine lv_goto (tgt := 96) hx hb d_Head_write_92 (by decide) ?_
          exact w_Head_write_Tape_b96 C0 x5 x6 (1 : Int32) s_picture_planes s_picture_shape_height s_picture_shape_width s_picture_shape_inside s_tape_ended_14 s_tape_limit s_tape_place_15 _ hrec K1 h _ _ _ (hP.sub [3, 0, 1, 2] rfl) (hD.sub [3, 0, 1, 2] (by decide) rfl) hS (lv_sub hl [0, 1, 4, 5] rfl)
def m_Head_write_Tape_k44 (fu : Nat) (s_picture_planes : Int32) (s_picture_shape_height : Int32) (s_picture_shape_width : Int32) (s_picture_shape_inside : Nat → Int32) (s_tape_limit : Int32) (rec : Int32 → Int32 → Int32 → Int32 → Int32 → Option ((Int32 × Int32 × Int32))) (x3 : Int32) (x4 : Int32) (x5 : Int32) (s_tape_ended : Int32) (s_tape_place : Int32) : Option ((Int32 × Int32 × Int32)) :=
  if s_picture_shape_height ≤ x5 then (some (x4, s_tape_ended, s_tape_place)) else (bn4 (loop5 (m_Head_write_Tape_k56 fu x5 s_picture_planes s_picture_shape_height s_picture_shape_width s_picture_shape_inside s_tape_limit) fu x3 x4 (0 : Int32) s_tape_ended s_tape_place) (fun o_x3_17 o_x4_18 o_tape_ended_19 o_tape_place_20 => letB (x5 + (1 : Int32)) (fun x5_21 => rec o_x3_17 o_x4_18 x5_21 o_tape_ended_19 o_tape_place_20)))
set_option maxHeartbeats 4000000 in
set_option maxRecDepth 100000 in
theorem w_Head_write_Tape_l44 {p : Program} {l : Launch} {e : Env} {s : State} {m : MethodId} {args : Array Value} {below : List Frame} {meth : Method} {c : Code} {D : va_G} {ar : Nat → ClassId} {A : Nat → Prop} {Q : State → Prop} {fu : Nat} {a_tape a_picture a_picture_shape a_picture_samples a_picture_waves a_picture_lifting a_picture_shape_inside a_picture_shape_partOf a_picture_shape_sizeOf a_picture_shape_firstOf a_picture_shape_queue : Nat} {s_picture_stale : Int32} {s_picture_shape_parts : Int32} {s_picture_shape_count : Int32} (C0 : CX p s m meth c args prog_4_method_2_code 7 none "FreeWavelets$Head" D ar A) (s_picture_planes : Int32) (s_picture_shape_height : Int32) (s_picture_shape_width : Int32) (s_picture_shape_inside : Nat → Int32) (s_tape_limit : Int32) : ∀ (n : Nat) (x3 : Int32) (x4 : Int32) (x5 : Int32) (s_tape_ended : Int32) (s_tape_place : Int32) (o_x4 : Int32) (o_tape_ended : Int32) (o_tape_place : Int32), loop5 (m_Head_write_Tape_k44 fu s_picture_planes s_picture_shape_height s_picture_shape_width s_picture_shape_inside s_tape_limit) n x3 x4 x5 s_tape_ended s_tape_place = some (o_x4, o_tape_ended, o_tape_place) → (WA p l e rm_Head_write_Tape s m args below meth c D A 7 Q 115 [(a_tape, .inr (4, [.int o_tape_place, .int o_tape_ended, .int s_tape_limit])), (a_picture, .inr (6, [.ref a_picture_shape, .ref a_picture_samples, .ref a_picture_waves, .int s_picture_planes, .ref a_picture_lifting, .int s_picture_stale])), (a_picture_shape, .inr (7, [.ref a_picture_shape_inside, .ref a_picture_shape_partOf, .ref a_picture_shape_sizeOf, .ref a_picture_shape_firstOf, .int s_picture_shape_width, .int s_picture_shape_height, .int s_picture_shape_parts, .int s_picture_shape_count, .ref a_picture_shape_queue])), (a_picture_shape_inside, .inl (ar 1, 256, .inl s_picture_shape_inside))] [(0, .ref a_tape), (4, .int o_x4)] []) → WA p l e rm_Head_write_Tape s m args below meth c D A 7 Q 44 [(a_tape, .inr (4, [.int s_tape_place, .int s_tape_ended, .int s_tape_limit])), (a_picture, .inr (6, [.ref a_picture_shape, .ref a_picture_samples, .ref a_picture_waves, .int s_picture_planes, .ref a_picture_lifting, .int s_picture_stale])), (a_picture_shape, .inr (7, [.ref a_picture_shape_inside, .ref a_picture_shape_partOf, .ref a_picture_shape_sizeOf, .ref a_picture_shape_firstOf, .int s_picture_shape_width, .int s_picture_shape_height, .int s_picture_shape_parts, .int s_picture_shape_count, .ref a_picture_shape_queue])), (a_picture_shape_inside, .inl (ar 1, 256, .inl s_picture_shape_inside))] [(0, .ref a_tape), (2, .ref a_picture_shape), (3, .int x3), (4, .int x4), (5, .int x5)] [] := by
  intro n
  induction n with
  | zero => intro x3 x4 x5 s_tape_ended s_tape_place o_x4 o_tape_ended o_tape_place h; exact (no0 h).elim
  | succ n ih =>
    intro x3 x4 x5 s_tape_ended s_tape_place o_x4 o_tape_ended o_tape_place h K1
    have hrec : ∀ (x3 : Int32) (x4 : Int32) (x5 : Int32) (s_tape_ended : Int32) (s_tape_place : Int32), loop5 (m_Head_write_Tape_k44 fu s_picture_planes s_picture_shape_height s_picture_shape_width s_picture_shape_inside s_tape_limit) n x3 x4 x5 s_tape_ended s_tape_place = some (o_x4, o_tape_ended, o_tape_place) → WA p l e rm_Head_write_Tape s m args below meth c D A 7 Q 44 [(a_tape, .inr (4, [.int s_tape_place, .int s_tape_ended, .int s_tape_limit])), (a_picture, .inr (6, [.ref a_picture_shape, .ref a_picture_samples, .ref a_picture_waves, .int s_picture_planes, .ref a_picture_lifting, .int s_picture_stale])), (a_picture_shape, .inr (7, [.ref a_picture_shape_inside, .ref a_picture_shape_partOf, .ref a_picture_shape_sizeOf, .ref a_picture_shape_firstOf, .int s_picture_shape_width, .int s_picture_shape_height, .int s_picture_shape_parts, .int s_picture_shape_count, .ref a_picture_shape_queue])), (a_picture_shape_inside, .inl (ar 1, 256, .inl s_picture_shape_inside))] [(0, .ref a_tape), (2, .ref a_picture_shape), (3, .int x3), (4, .int x4), (5, .int x5)] [] := fun x3 x4 x5 s_tape_ended s_tape_place h => ih x3 x4 x5 s_tape_ended s_tape_place o_x4 o_tape_ended o_tape_place h K1
    clear ih
    intro H locs ls hP hD hS hl
    obtain ⟨hx, hb, hr, hml, hown, hts, hlocks, hA, hK, hZ⟩ := id C0
    have h : m_Head_write_Tape_k44 fu s_picture_planes s_picture_shape_height s_picture_shape_width s_picture_shape_inside s_tape_limit (loop5 (m_Head_write_Tape_k44 fu s_picture_planes s_picture_shape_height s_picture_shape_width s_picture_shape_inside s_tape_limit) n) x3 x4 x5 s_tape_ended s_tape_place = some (o_x4, o_tape_ended, o_tape_place) := h
    unfold m_Head_write_Tape_k44 at h
    refine lv_iload hx hb d_Head_write_44 (lv_at hl 4 rfl) ?_
    refine lv_aload_n hx hb d_Head_write_46 rfl (lv_at hl 1 rfl) ?_
    refine va_get (D := D) (ci := 7) (v := .int s_picture_shape_height) (C := R_Shape) (T := F_Shape) (N := 9) hx hb hts in_Shape hown hK hP 2 rfl rfl 5 (by decide) (hts _ k_87) (fun _ h9 => h9) rfl d_Head_write_47 ?_
    refine lv_icmp_ge (tgt := 115) hx hb d_Head_write_50 (by decide) (fun c_7 => ?_) (fun c_7 => ?_)
    · have h := Eq.trans (if_pos c_7).symm h
      cases h
      exact K1 _ _ _ hP hD hS (lv_sub hl [0, 3] rfl)
    · have h := Eq.trans (if_neg c_7).symm h
      refine lv_iconst (v := (0 : Int32)) hx hb d_Head_write_53 (by decide) ?_
      refine lv_istore (lv' := [(6, .int (0 : Int32)), (0, .ref a_tape), (2, .ref a_picture_shape), (3, .int x3), (4, .int x4), (5, .int x5)]) hx hb d_Head_write_54 hl (by decide) rfl (fun ls hl => ?_)
      obtain ⟨o_x3_17, o_x4_18, o_tape_ended_19, o_tape_place_20, hloop, h⟩ := bn4_some h
      refine w_Head_write_Tape_l56 C0 x5 s_picture_planes s_picture_shape_height s_picture_shape_width s_picture_shape_inside s_tape_limit fu x3 x4 (0 : Int32) s_tape_ended s_tape_place _ _ _ _ hloop ?_ _ _ _ hP hD hS (lv_sub hl [1, 2, 3, 4, 5, 0] rfl)
      clear hP hD hS hl hloop
      intro H locs ls hP hD hS hl
      obtain ⟨x5_21, e_x5_21⟩ : ∃ y : Int32, y = x5 + (1 : Int32) := ⟨_, rfl⟩
      have h := letB_at e_x5_21 h
      refine lv_iinc (v := x5_21) (lv' := [(5, .int x5_21), (0, .ref a_tape), (2, .ref a_picture_shape), (3, .int o_x3_17), (4, .int o_x4_18)]) hx hb d_Head_write_109 hl (k := 4) rfl (by rw [e_x5_21]; rfl) (by decide) rfl (fun ls hl => ?_)
      refine lv_goto (tgt := 44) hx hb d_Head_write_112 (by decide) ?_
      exact hrec o_x3_17 o_x4_18 x5_21 o_tape_ended_19 o_tape_place_20 h _ _ _ hP hD hS (lv_sub hl [1, 2, 3, 4, 0] rfl)
def m_Head_write_Tape (fu : Nat) (s_picture_planes : Int32) (s_picture_shape_height : Int32) (s_picture_shape_width : Int32) (s_picture_shape_inside : Nat → Int32) (s_tape_ended : Int32) (s_tape_limit : Int32) (s_tape_place : Int32) : Option (Int32 × Int32) :=
  bn2 (m_Tape_say_Tape fu (s_picture_shape_width - (1 : Int32)) (4 : Int32) s_tape_ended s_tape_limit s_tape_place) (fun s_tape_ended_1 s_tape_place_2 => bn2 (m_Tape_say_Tape fu (s_picture_shape_height - (1 : Int32)) (4 : Int32) s_tape_ended_1 s_tape_limit s_tape_place_2) (fun s_tape_ended_3 s_tape_place_4 => bn2 (m_Tape_say_Tape fu s_picture_planes (5 : Int32) s_tape_ended_3 s_tape_limit s_tape_place_4) (fun s_tape_ended_5 s_tape_place_6 => bn3 (loop5 (m_Head_write_Tape_k44 fu s_picture_planes s_picture_shape_height s_picture_shape_width s_picture_shape_inside s_tape_limit) fu (0 : Int32) (0 : Int32) (0 : Int32) s_tape_ended_5 s_tape_place_6) (fun o_x4_22 o_tape_ended_23 o_tape_place_24 => bn2 (m_Head_writeRun_Tape fu o_x4_22 o_tape_ended_23 s_tape_limit o_tape_place_24) (fun s_tape_ended_25 s_tape_place_26 => some (s_tape_ended_25, s_tape_place_26))))))
set_option maxHeartbeats 4000000 in
set_option maxRecDepth 100000 in
theorem c_Head_write_Tape {l : Launch} {D : va_G} {ar : Nat → ClassId} {fu : Nat} (a_tape a_picture a_picture_shape a_picture_samples a_picture_waves a_picture_lifting a_picture_shape_inside a_picture_shape_partOf a_picture_shape_sizeOf a_picture_shape_firstOf a_picture_shape_queue : Nat) (s_picture_stale : Int32) (s_picture_shape_parts : Int32) (s_picture_shape_count : Int32) (s_picture_planes : Int32) (s_picture_shape_height : Int32) (s_picture_shape_width : Int32) (s_picture_shape_inside : Nat → Int32) (s_tape_ended : Int32) (s_tape_limit : Int32) (s_tape_place : Int32) {r_tape_ended : Int32} {r_tape_place : Int32} (h : m_Head_write_Tape fu s_picture_planes s_picture_shape_height s_picture_shape_width s_picture_shape_inside s_tape_ended s_tape_limit s_tape_place = some (r_tape_ended, r_tape_place)) : StdV l y_Head_write ws_Head_write rm_Head_write_Tape D ar [.ref a_tape, .ref a_picture] [(a_tape, .inr (4, [.int s_tape_place, .int s_tape_ended, .int s_tape_limit])), (a_picture, .inr (6, [.ref a_picture_shape, .ref a_picture_samples, .ref a_picture_waves, .int s_picture_planes, .ref a_picture_lifting, .int s_picture_stale])), (a_picture_shape, .inr (7, [.ref a_picture_shape_inside, .ref a_picture_shape_partOf, .ref a_picture_shape_sizeOf, .ref a_picture_shape_firstOf, .int s_picture_shape_width, .int s_picture_shape_height, .int s_picture_shape_parts, .int s_picture_shape_count, .ref a_picture_shape_queue])), (a_picture_shape_inside, .inl (ar 1, 256, .inl s_picture_shape_inside))] [(a_tape, .inr (4, [.int r_tape_place, .int r_tape_ended, .int s_tape_limit])), (a_picture, .inr (6, [.ref a_picture_shape, .ref a_picture_samples, .ref a_picture_waves, .int s_picture_planes, .ref a_picture_lifting, .int s_picture_stale])), (a_picture_shape, .inr (7, [.ref a_picture_shape_inside, .ref a_picture_shape_partOf, .ref a_picture_shape_sizeOf, .ref a_picture_shape_firstOf, .int s_picture_shape_width, .int s_picture_shape_height, .int s_picture_shape_parts, .int s_picture_shape_count, .ref a_picture_shape_queue])), (a_picture_shape_inside, .inl (ar 1, 256, .inl s_picture_shape_inside))] := by
  refine sd_metV (cc := prog_4_method_2_code) (maxL := 7) (ret := none) (own := "FreeWavelets$Head") (by decide) rfl rfl (Nat.le_of_ble_eq_true rfl) ?_
  intro p e s m below meth c A ls C0 hP hD hl
  obtain ⟨hx, hb, hr, hml, hown, hts, hlocks, hA, hK, hZ⟩ := id C0
  have hS : va_S A s.heap s.heap [] := va_S.rf
  have hl : lv_has ls 7 [(0, .ref a_tape), (1, .ref a_picture)] := hl
  unfold m_Head_write_Tape at h
  refine lv_aload_n hx hb d_Head_write_0 rfl (lv_at hl 1 rfl) ?_
  refine va_get (D := D) (ci := 6) (v := .ref a_picture_shape) (C := R_Picture) (T := F_Picture) (N := 6) hx hb hts in_Picture hown hK hP 1 rfl rfl 0 (by decide) (hts _ k_132) (fun _ h9 => h9) rfl d_Head_write_1 ?_
  refine lv_astore_n (lv' := [(2, .ref a_picture_shape), (0, .ref a_tape), (1, .ref a_picture)]) hx hb d_Head_write_4 rfl hl (by decide) rfl (fun ls hl => ?_)
  refine lv_aload_n hx hb d_Head_write_5 rfl (lv_at hl 1 rfl) ?_
  refine lv_aload_n hx hb d_Head_write_6 rfl (lv_at hl 0 rfl) ?_
  refine va_get (D := D) (ci := 7) (v := .int s_picture_shape_width) (C := R_Shape) (T := F_Shape) (N := 9) hx hb hts in_Shape hown hK hP 2 rfl rfl 4 (by decide) (hts _ k_83) (fun _ h9 => h9) rfl d_Head_write_7 ?_
  refine lv_iconst (v := (1 : Int32)) hx hb d_Head_write_10 (by decide) ?_
  refine lv_isub hx hb d_Head_write_11 ?_
  refine lv_iconst (v := (4 : Int32)) hx hb d_Head_write_12 (by decide) ?_
  obtain ⟨s_tape_ended_1, s_tape_place_2, hcall, h⟩ := bn2_some h
  refine sd_v (wr := [(a_picture, .inr (6, [.ref a_picture_shape, .ref a_picture_samples, .ref a_picture_waves, .int s_picture_planes, .ref a_picture_lifting, .int s_picture_stale])), (a_picture_shape, .inr (7, [.ref a_picture_shape_inside, .ref a_picture_shape_partOf, .ref a_picture_shape_sizeOf, .ref a_picture_shape_firstOf, .int s_picture_shape_width, .int s_picture_shape_height, .int s_picture_shape_parts, .int s_picture_shape_count, .ref a_picture_shape_queue])), (a_picture_shape_inside, .inl (ar 1, 256, .inl s_picture_shape_inside))]) (va_runV (As := [.int (s_picture_shape_width - (1 : Int32)), .int (4 : Int32)]) (rest := []) ⟨hx, hb, hml, hown, hts⟩ (c_Tape_say_Tape a_tape (s_picture_shape_width - (1 : Int32)) (4 : Int32) s_tape_ended s_tape_limit s_tape_place hcall _) (cw_V 2 hts k_389 k_390 k_391 k_34 k_395 rfl rfl (by decide +kernel) ⟨Nat.le_of_ble_eq_true rfl, Nat.le_of_ble_eq_true rfl⟩) (sd_preV hK hP hD hS hA hZ [0] (by decide) rfl (va_recv hK hP (ci := 4) (q0 := 0) rfl rfl)) rfl rfl hl.1 rfl (lv_room (Nat.le_of_ble_eq_true rfl)) d_Head_write_13 ⟨Nat.le_of_ble_eq_true rfl, Nat.le_of_ble_eq_true rfl⟩) hP hD hS hA [0] [1, 2, 3] rfl rfl (by decide) (by decide) (fun H locs hP hD hS => ?_)
  have hP : va_P D vwCl [(a_picture, .inr (6, [.ref a_picture_shape, .ref a_picture_samples, .ref a_picture_waves, .int s_picture_planes, .ref a_picture_lifting, .int s_picture_stale])), (a_picture_shape, .inr (7, [.ref a_picture_shape_inside, .ref a_picture_shape_partOf, .ref a_picture_shape_sizeOf, .ref a_picture_shape_firstOf, .int s_picture_shape_width, .int s_picture_shape_height, .int s_picture_shape_parts, .int s_picture_shape_count, .ref a_picture_shape_queue])), (a_picture_shape_inside, .inl (ar 1, 256, .inl s_picture_shape_inside)), (a_tape, .inr (4, [.int s_tape_place_2, .int s_tape_ended_1, .int s_tape_limit]))] H := hP
  have hD : va_D A [(a_picture, .inr (6, [.ref a_picture_shape, .ref a_picture_samples, .ref a_picture_waves, .int s_picture_planes, .ref a_picture_lifting, .int s_picture_stale])), (a_picture_shape, .inr (7, [.ref a_picture_shape_inside, .ref a_picture_shape_partOf, .ref a_picture_shape_sizeOf, .ref a_picture_shape_firstOf, .int s_picture_shape_width, .int s_picture_shape_height, .int s_picture_shape_parts, .int s_picture_shape_count, .ref a_picture_shape_queue])), (a_picture_shape_inside, .inl (ar 1, 256, .inl s_picture_shape_inside)), (a_tape, .inr (4, [.int s_tape_place_2, .int s_tape_ended_1, .int s_tape_limit]))] := hD
  refine lv_aload_n hx hb d_Head_write_16 rfl (lv_at hl 1 rfl) ?_
  refine lv_aload_n hx hb d_Head_write_17 rfl (lv_at hl 0 rfl) ?_
  refine va_get (D := D) (ci := 7) (v := .int s_picture_shape_height) (C := R_Shape) (T := F_Shape) (N := 9) hx hb hts in_Shape hown hK hP 1 rfl rfl 5 (by decide) (hts _ k_87) (fun _ h9 => h9) rfl d_Head_write_18 ?_
  refine lv_iconst (v := (1 : Int32)) hx hb d_Head_write_21 (by decide) ?_
  refine lv_isub hx hb d_Head_write_22 ?_
  refine lv_iconst (v := (4 : Int32)) hx hb d_Head_write_23 (by decide) ?_
  obtain ⟨s_tape_ended_3, s_tape_place_4, hcall, h⟩ := bn2_some h
  refine sd_v (wr := [(a_picture, .inr (6, [.ref a_picture_shape, .ref a_picture_samples, .ref a_picture_waves, .int s_picture_planes, .ref a_picture_lifting, .int s_picture_stale])), (a_picture_shape, .inr (7, [.ref a_picture_shape_inside, .ref a_picture_shape_partOf, .ref a_picture_shape_sizeOf, .ref a_picture_shape_firstOf, .int s_picture_shape_width, .int s_picture_shape_height, .int s_picture_shape_parts, .int s_picture_shape_count, .ref a_picture_shape_queue])), (a_picture_shape_inside, .inl (ar 1, 256, .inl s_picture_shape_inside))]) (va_runV (As := [.int (s_picture_shape_height - (1 : Int32)), .int (4 : Int32)]) (rest := []) ⟨hx, hb, hml, hown, hts⟩ (c_Tape_say_Tape a_tape (s_picture_shape_height - (1 : Int32)) (4 : Int32) s_tape_ended_1 s_tape_limit s_tape_place_2 hcall _) (cw_V 2 hts k_389 k_390 k_391 k_34 k_395 rfl rfl (by decide +kernel) ⟨Nat.le_of_ble_eq_true rfl, Nat.le_of_ble_eq_true rfl⟩) (sd_preV hK hP hD hS hA hZ [3] (by decide) rfl (va_recv hK hP (ci := 4) (q0 := 3) rfl rfl)) rfl rfl hl.1 rfl (lv_room (Nat.le_of_ble_eq_true rfl)) d_Head_write_24 ⟨Nat.le_of_ble_eq_true rfl, Nat.le_of_ble_eq_true rfl⟩) hP hD hS hA [3] [0, 1, 2] rfl rfl (by decide) (by decide) (fun H locs hP hD hS => ?_)
  have hP : va_P D vwCl [(a_picture, .inr (6, [.ref a_picture_shape, .ref a_picture_samples, .ref a_picture_waves, .int s_picture_planes, .ref a_picture_lifting, .int s_picture_stale])), (a_picture_shape, .inr (7, [.ref a_picture_shape_inside, .ref a_picture_shape_partOf, .ref a_picture_shape_sizeOf, .ref a_picture_shape_firstOf, .int s_picture_shape_width, .int s_picture_shape_height, .int s_picture_shape_parts, .int s_picture_shape_count, .ref a_picture_shape_queue])), (a_picture_shape_inside, .inl (ar 1, 256, .inl s_picture_shape_inside)), (a_tape, .inr (4, [.int s_tape_place_4, .int s_tape_ended_3, .int s_tape_limit]))] H := hP
  have hD : va_D A [(a_picture, .inr (6, [.ref a_picture_shape, .ref a_picture_samples, .ref a_picture_waves, .int s_picture_planes, .ref a_picture_lifting, .int s_picture_stale])), (a_picture_shape, .inr (7, [.ref a_picture_shape_inside, .ref a_picture_shape_partOf, .ref a_picture_shape_sizeOf, .ref a_picture_shape_firstOf, .int s_picture_shape_width, .int s_picture_shape_height, .int s_picture_shape_parts, .int s_picture_shape_count, .ref a_picture_shape_queue])), (a_picture_shape_inside, .inl (ar 1, 256, .inl s_picture_shape_inside)), (a_tape, .inr (4, [.int s_tape_place_4, .int s_tape_ended_3, .int s_tape_limit]))] := hD
  refine lv_aload_n hx hb d_Head_write_27 rfl (lv_at hl 1 rfl) ?_
  refine lv_aload_n hx hb d_Head_write_28 rfl (lv_at hl 2 rfl) ?_
  refine va_get (D := D) (ci := 6) (v := .int s_picture_planes) (C := R_Picture) (T := F_Picture) (N := 6) hx hb hts in_Picture hown hK hP 0 rfl rfl 3 (by decide) (hts _ k_140) (fun _ h9 => h9) rfl d_Head_write_29 ?_
  refine lv_iconst (v := (5 : Int32)) hx hb d_Head_write_32 (by decide) ?_
  obtain ⟨s_tape_ended_5, s_tape_place_6, hcall, h⟩ := bn2_some h
  refine sd_v (wr := [(a_picture, .inr (6, [.ref a_picture_shape, .ref a_picture_samples, .ref a_picture_waves, .int s_picture_planes, .ref a_picture_lifting, .int s_picture_stale])), (a_picture_shape, .inr (7, [.ref a_picture_shape_inside, .ref a_picture_shape_partOf, .ref a_picture_shape_sizeOf, .ref a_picture_shape_firstOf, .int s_picture_shape_width, .int s_picture_shape_height, .int s_picture_shape_parts, .int s_picture_shape_count, .ref a_picture_shape_queue])), (a_picture_shape_inside, .inl (ar 1, 256, .inl s_picture_shape_inside))]) (va_runV (As := [.int s_picture_planes, .int (5 : Int32)]) (rest := []) ⟨hx, hb, hml, hown, hts⟩ (c_Tape_say_Tape a_tape s_picture_planes (5 : Int32) s_tape_ended_3 s_tape_limit s_tape_place_4 hcall _) (cw_V 2 hts k_389 k_390 k_391 k_34 k_395 rfl rfl (by decide +kernel) ⟨Nat.le_of_ble_eq_true rfl, Nat.le_of_ble_eq_true rfl⟩) (sd_preV hK hP hD hS hA hZ [3] (by decide) rfl (va_recv hK hP (ci := 4) (q0 := 3) rfl rfl)) rfl rfl hl.1 rfl (lv_room (Nat.le_of_ble_eq_true rfl)) d_Head_write_33 ⟨Nat.le_of_ble_eq_true rfl, Nat.le_of_ble_eq_true rfl⟩) hP hD hS hA [3] [0, 1, 2] rfl rfl (by decide) (by decide) (fun H locs hP hD hS => ?_)
  have hP : va_P D vwCl [(a_picture, .inr (6, [.ref a_picture_shape, .ref a_picture_samples, .ref a_picture_waves, .int s_picture_planes, .ref a_picture_lifting, .int s_picture_stale])), (a_picture_shape, .inr (7, [.ref a_picture_shape_inside, .ref a_picture_shape_partOf, .ref a_picture_shape_sizeOf, .ref a_picture_shape_firstOf, .int s_picture_shape_width, .int s_picture_shape_height, .int s_picture_shape_parts, .int s_picture_shape_count, .ref a_picture_shape_queue])), (a_picture_shape_inside, .inl (ar 1, 256, .inl s_picture_shape_inside)), (a_tape, .inr (4, [.int s_tape_place_6, .int s_tape_ended_5, .int s_tape_limit]))] H := hP
  have hD : va_D A [(a_picture, .inr (6, [.ref a_picture_shape, .ref a_picture_samples, .ref a_picture_waves, .int s_picture_planes, .ref a_picture_lifting, .int s_picture_stale])), (a_picture_shape, .inr (7, [.ref a_picture_shape_inside, .ref a_picture_shape_partOf, .ref a_picture_shape_sizeOf, .ref a_picture_shape_firstOf, .int s_picture_shape_width, .int s_picture_shape_height, .int s_picture_shape_parts, .int s_picture_shape_count, .ref a_picture_shape_queue])), (a_picture_shape_inside, .inl (ar 1, 256, .inl s_picture_shape_inside)), (a_tape, .inr (4, [.int s_tape_place_6, .int s_tape_ended_5, .int s_tape_limit]))] := hD
  refine lv_iconst (v := (0 : Int32)) hx hb d_Head_write_36 (by decide) ?_
  refine lv_istore_n (lv' := [(3, .int (0 : Int32)), (2, .ref a_picture_shape), (0, .ref a_tape), (1, .ref a_picture)]) hx hb d_Head_write_37 rfl hl (by decide) rfl (fun ls hl => ?_)
  refine lv_iconst (v := (0 : Int32)) hx hb d_Head_write_38 (by decide) ?_
  refine lv_istore (lv' := [(4, .int (0 : Int32)), (3, .int (0 : Int32)), (2, .ref a_picture_shape), (0, .ref a_tape), (1, .ref a_picture)]) hx hb d_Head_write_39 hl (by decide) rfl (fun ls hl => ?_)
  refine lv_iconst (v := (0 : Int32)) hx hb d_Head_write_41 (by decide) ?_
  refine lv_istore (lv' := [(5, .int (0 : Int32)), (4, .int (0 : Int32)), (3, .int (0 : Int32)), (2, .ref a_picture_shape), (0, .ref a_tape), (1, .ref a_picture)]) hx hb d_Head_write_42 hl (by decide) rfl (fun ls hl => ?_)
  obtain ⟨o_x4_22, o_tape_ended_23, o_tape_place_24, hloop, h⟩ := bn3_some h
  refine w_Head_write_Tape_l44 C0 s_picture_planes s_picture_shape_height s_picture_shape_width s_picture_shape_inside s_tape_limit fu (0 : Int32) (0 : Int32) (0 : Int32) s_tape_ended_5 s_tape_place_6 _ _ _ hloop ?_ _ _ _ (hP.sub [3, 0, 1, 2] rfl) (hD.sub [3, 0, 1, 2] (by decide) rfl) hS (lv_sub hl [4, 3, 2, 1, 0] rfl)
  clear hP hD hS hl hloop
  intro H locs ls hP hD hS hl
  refine lv_aload_n hx hb d_Head_write_115 rfl (lv_at hl 0 rfl) ?_
  refine lv_iload hx hb d_Head_write_116 (lv_at hl 1 rfl) ?_
  obtain ⟨s_tape_ended_25, s_tape_place_26, hcall, h⟩ := bn2_some h
  refine sd_v (wr := [(a_picture, .inr (6, [.ref a_picture_shape, .ref a_picture_samples, .ref a_picture_waves, .int s_picture_planes, .ref a_picture_lifting, .int s_picture_stale])), (a_picture_shape, .inr (7, [.ref a_picture_shape_inside, .ref a_picture_shape_partOf, .ref a_picture_shape_sizeOf, .ref a_picture_shape_firstOf, .int s_picture_shape_width, .int s_picture_shape_height, .int s_picture_shape_parts, .int s_picture_shape_count, .ref a_picture_shape_queue])), (a_picture_shape_inside, .inl (ar 1, 256, .inl s_picture_shape_inside))]) (va_runS (As := [.ref a_tape, .int o_x4_22]) (rest := []) ⟨hx, hb, hml, hown, hts⟩ (c_Head_writeRun_Tape a_tape o_x4_22 o_tape_ended_23 s_tape_limit o_tape_place_24 hcall _) (cw_S 2 hts k_428 k_429 k_47 k_430 rfl rfl (by decide +kernel) ⟨Nat.le_of_ble_eq_true rfl, Nat.le_of_ble_eq_true rfl⟩) (sd_preS hK hP hD hS hA hZ [0] (by decide) rfl) rfl rfl hl.1 rfl (lv_room (Nat.le_of_ble_eq_true rfl)) d_Head_write_118 ⟨Nat.le_of_ble_eq_true rfl, Nat.le_of_ble_eq_true rfl⟩) hP hD hS hA [0] [1, 2, 3] rfl rfl (by decide) (by decide) (fun H locs hP hD hS => ?_)
  have hP : va_P D vwCl [(a_picture, .inr (6, [.ref a_picture_shape, .ref a_picture_samples, .ref a_picture_waves, .int s_picture_planes, .ref a_picture_lifting, .int s_picture_stale])), (a_picture_shape, .inr (7, [.ref a_picture_shape_inside, .ref a_picture_shape_partOf, .ref a_picture_shape_sizeOf, .ref a_picture_shape_firstOf, .int s_picture_shape_width, .int s_picture_shape_height, .int s_picture_shape_parts, .int s_picture_shape_count, .ref a_picture_shape_queue])), (a_picture_shape_inside, .inl (ar 1, 256, .inl s_picture_shape_inside)), (a_tape, .inr (4, [.int s_tape_place_26, .int s_tape_ended_25, .int s_tape_limit]))] H := hP
  have hD : va_D A [(a_picture, .inr (6, [.ref a_picture_shape, .ref a_picture_samples, .ref a_picture_waves, .int s_picture_planes, .ref a_picture_lifting, .int s_picture_stale])), (a_picture_shape, .inr (7, [.ref a_picture_shape_inside, .ref a_picture_shape_partOf, .ref a_picture_shape_sizeOf, .ref a_picture_shape_firstOf, .int s_picture_shape_width, .int s_picture_shape_height, .int s_picture_shape_parts, .int s_picture_shape_count, .ref a_picture_shape_queue])), (a_picture_shape_inside, .inl (ar 1, 256, .inl s_picture_shape_inside)), (a_tape, .inr (4, [.int s_tape_place_26, .int s_tape_ended_25, .int s_tape_limit]))] := hD
  cases h
  exact sd_vret hx hb hr hlocks (hP.sub [3, 0, 1, 2] rfl) (hD.sub [3, 0, 1, 2] (by decide) rfl) hK hS d_Head_write_121
abbrev rm_Eye_pick_Eye : Room := { frames := 1, cells := 0, slots := 0, locals := 21 }
def m_Eye_pick_Eye (fu : Nat) (x1 : Int32) (s_place : Int32) (s_bytes_row : Nat → Int32) : Option (Int32) :=
  bn1 (m_Bytes_get fu (s_place >>> ((3 : Int32) &&& 31)) s_bytes_row) (fun r_1 => some ((r_1 >>> (((7 : Int32) - (s_place &&& (7 : Int32))) &&& 31)) &&& (1 : Int32)))
set_option maxHeartbeats 4000000 in
set_option maxRecDepth 100000 in
theorem c_Eye_pick_Eye {l : Launch} {D : va_G} {ar : Nat → ClassId} {fu : Nat} (a_this a_this_bytes a_this_bytes_row : Nat) (s_ended : Int32) (s_limit : Int32) (s_bytes_count : Int32) (x1 : Int32) (s_place : Int32) (s_bytes_row : Nat → Int32) {r_v : Int32} (h : m_Eye_pick_Eye fu x1 s_place s_bytes_row = some r_v) : StdI l y_Eye_pick ws_Eye_pick rm_Eye_pick_Eye D ar [.ref a_this, .int x1] [(a_this, .inr (2, [.int s_place, .int s_ended, .int s_limit, .ref a_this_bytes])), (a_this_bytes, .inr (1, [.int s_bytes_count, .ref a_this_bytes_row])), (a_this_bytes_row, .inl (ar 2, 2400, .inl s_bytes_row))] [(a_this, .inr (2, [.int s_place, .int s_ended, .int s_limit, .ref a_this_bytes])), (a_this_bytes, .inr (1, [.int s_bytes_count, .ref a_this_bytes_row])), (a_this_bytes_row, .inl (ar 2, 2400, .inl s_bytes_row))] r_v := by
  refine sd_metI (cc := prog_3_method_3_code) (maxL := 2) (ret := (some .int)) (own := "FreeWavelets$Eye") (by decide) rfl rfl (Nat.le_of_ble_eq_true rfl) ?_
  intro p e s m below meth c A ls C0 hP hD hl
  obtain ⟨hx, hb, hr, hml, hown, hts, hlocks, hA, hK, hZ⟩ := id C0
  have hS : va_S A s.heap s.heap [] := va_S.rf
  have hl : lv_has ls 2 [(0, .ref a_this), (1, .int x1)] := hl
  unfold m_Eye_pick_Eye at h
  refine lv_aload_n hx hb d_Eye_pick_0 rfl (lv_at hl 0 rfl) ?_
  refine va_get (D := D) (ci := 2) (v := .ref a_this_bytes) (C := R_Eye) (T := F_Eye) (N := 4) hx hb hts in_Eye hown hK hP 0 rfl rfl 3 (by decide) (hts _ k_211) (fun _ h9 => h9) rfl d_Eye_pick_1 ?_
  refine lv_aload_n hx hb d_Eye_pick_4 rfl (lv_at hl 0 rfl) ?_
  refine va_get (D := D) (ci := 2) (v := .int s_place) (C := R_Eye) (T := F_Eye) (N := 4) hx hb hts in_Eye hown hK hP 0 rfl rfl 0 (by decide) (hts _ k_188) (fun x9 h9 => u_same (hts _ k_189) x9 h9) rfl d_Eye_pick_5 ?_
  refine lv_iconst (v := (3 : Int32)) hx hb d_Eye_pick_8 (by decide) ?_
  refine lv_ishr hx hb d_Eye_pick_9 ?_
  obtain ⟨r_1, hcall, h⟩ := bn1_some h
  refine sd_i (wr := [(a_this, .inr (2, [.int s_place, .int s_ended, .int s_limit, .ref a_this_bytes]))]) (va_runV (As := [.int (s_place >>> ((3 : Int32) &&& 31))]) (rest := []) ⟨hx, hb, hml, hown, hts⟩ (c_Bytes_get a_this_bytes a_this_bytes_row s_bytes_count (s_place >>> ((3 : Int32) &&& 31)) s_bytes_row hcall _) (cw_V 1 hts k_410 k_411 k_412 k_33 k_413 rfl rfl (by decide +kernel) ⟨Nat.le_of_ble_eq_true rfl, Nat.le_of_ble_eq_true rfl⟩) (sd_preV hK hP hD hS hA hZ [1, 2] (by decide) rfl (va_recv hK hP (ci := 1) (q0 := 1) rfl rfl)) rfl rfl hl.1 rfl (lv_room (Nat.le_of_ble_eq_true rfl)) d_Eye_pick_10 ⟨Nat.le_of_ble_eq_true rfl, Nat.le_of_ble_eq_true rfl⟩) hP hD hS hA [1, 2] [0] rfl rfl (by decide) (by decide) (fun H locs hP hD hS => ?_)
  have hP : va_P D vwCl [(a_this, .inr (2, [.int s_place, .int s_ended, .int s_limit, .ref a_this_bytes])), (a_this_bytes, .inr (1, [.int s_bytes_count, .ref a_this_bytes_row])), (a_this_bytes_row, .inl (ar 2, 2400, .inl s_bytes_row))] H := hP
  have hD : va_D A [(a_this, .inr (2, [.int s_place, .int s_ended, .int s_limit, .ref a_this_bytes])), (a_this_bytes, .inr (1, [.int s_bytes_count, .ref a_this_bytes_row])), (a_this_bytes_row, .inl (ar 2, 2400, .inl s_bytes_row))] := hD
  refine lv_bipush (v := (7 : Int32)) hx hb d_Eye_pick_13 (by decide) ?_
  refine lv_aload_n hx hb d_Eye_pick_15 rfl (lv_at hl 0 rfl) ?_
  refine va_get (D := D) (ci := 2) (v := .int s_place) (C := R_Eye) (T := F_Eye) (N := 4) hx hb hts in_Eye hown hK hP 0 rfl rfl 0 (by decide) (hts _ k_188) (fun x9 h9 => u_same (hts _ k_189) x9 h9) rfl d_Eye_pick_16 ?_
  refine lv_bipush (v := (7 : Int32)) hx hb d_Eye_pick_19 (by decide) ?_
  refine lv_iand hx hb d_Eye_pick_21 ?_
  refine lv_isub hx hb d_Eye_pick_22 ?_
  refine lv_ishr hx hb d_Eye_pick_23 ?_
  refine lv_iconst (v := (1 : Int32)) hx hb d_Eye_pick_24 (by decide) ?_
  refine lv_iand hx hb d_Eye_pick_25 ?_
  cases h
  exact sd_iret hx hb hr hlocks hP hD hK hS d_Eye_pick_26
abbrev rm_Tape_next_Eye : Room := { frames := 2, cells := 0, slots := 0, locals := 42 }
def m_Tape_next_Eye (fu : Nat) (x1 : Int32) (s_ended : Int32) (s_limit : Int32) (s_place : Int32) (s_bytes_row : Nat → Int32) : Option (Int32 × Int32 × Int32) :=
  if s_place < s_limit then (bn1 (m_Eye_pick_Eye fu x1 s_place s_bytes_row) (fun r_2 => letB (s_place + (1 : Int32)) (fun f_3 => some (r_2, s_ended, f_3)))) else (some ((-1 : Int32), (1 : Int32), s_place))
set_option maxHeartbeats 4000000 in
set_option maxRecDepth 100000 in
theorem c_Tape_next_Eye {l : Launch} {D : va_G} {ar : Nat → ClassId} {fu : Nat} (a_this a_this_bytes a_this_bytes_row : Nat) (s_bytes_count : Int32) (x1 : Int32) (s_ended : Int32) (s_limit : Int32) (s_place : Int32) (s_bytes_row : Nat → Int32) {r_v : Int32} {r_ended : Int32} {r_place : Int32} (h : m_Tape_next_Eye fu x1 s_ended s_limit s_place s_bytes_row = some (r_v, r_ended, r_place)) : StdI l y_Tape_next ws_Tape_next rm_Tape_next_Eye D ar [.ref a_this, .int x1] [(a_this, .inr (2, [.int s_place, .int s_ended, .int s_limit, .ref a_this_bytes])), (a_this_bytes, .inr (1, [.int s_bytes_count, .ref a_this_bytes_row])), (a_this_bytes_row, .inl (ar 2, 2400, .inl s_bytes_row))] [(a_this, .inr (2, [.int r_place, .int r_ended, .int s_limit, .ref a_this_bytes])), (a_this_bytes, .inr (1, [.int s_bytes_count, .ref a_this_bytes_row])), (a_this_bytes_row, .inl (ar 2, 2400, .inl s_bytes_row))] r_v := by
  refine sd_metI (cc := prog_9_method_3_code) (maxL := 3) (ret := (some .int)) (own := "FreeWavelets$Tape") (by decide) rfl rfl (Nat.le_of_ble_eq_true rfl) ?_
  intro p e s m below meth c A ls C0 hP hD hl
  obtain ⟨hx, hb, hr, hml, hown, hts, hlocks, hA, hK, hZ⟩ := id C0
  have hS : va_S A s.heap s.heap [] := va_S.rf
  have hl : lv_has ls 3 [(0, .ref a_this), (1, .int x1)] := hl
  unfold m_Tape_next_Eye at h
  refine lv_aload_n hx hb d_Tape_next_0 rfl (lv_at hl 0 rfl) ?_
  refine va_get (D := D) (ci := 2) (v := .int s_place) (C := R_Eye) (T := F_Eye) (N := 4) hx hb hts in_Eye hown hK hP 0 rfl rfl 0 (by decide) (hts _ k_185) (fun _ h9 => h9) rfl d_Tape_next_1 ?_
  refine lv_aload_n hx hb d_Tape_next_4 rfl (lv_at hl 0 rfl) ?_
  refine va_get (D := D) (ci := 2) (v := .int s_limit) (C := R_Eye) (T := F_Eye) (N := 4) hx hb hts in_Eye hown hK hP 0 rfl rfl 2 (by decide) (hts _ k_195) (fun _ h9 => h9) rfl d_Tape_next_5 ?_
  refine lv_icmp_lt (tgt := 18) hx hb d_Tape_next_8 (by decide) (fun c_1 => ?_) (fun c_1 => ?_)
  · have h := Eq.trans (if_pos c_1).symm h
    refine lv_aload_n hx hb d_Tape_next_18 rfl (lv_at hl 0 rfl) ?_
    refine lv_iload_n hx hb d_Tape_next_19 rfl (lv_at hl 1 rfl) ?_
    obtain ⟨r_2, hcall, h⟩ := bn1_some h
    refine sd_i (wr := []) (va_runU (As := [.int x1]) (rest := []) ⟨hx, hb, hml, hown, hts⟩ (c_Eye_pick_Eye a_this a_this_bytes a_this_bytes_row s_ended s_limit s_bytes_count x1 s_place s_bytes_row hcall _) (cw_O (owner := "FreeWavelets$Tape") 1 hts k_403 k_406 k_404 k_407 k_408 k_36 k_409 rfl rfl k_426 (by decide +kernel) ⟨Nat.le_of_ble_eq_true rfl, Nat.le_of_ble_eq_true rfl⟩) (sd_preV hK hP hD hS hA hZ [0, 1, 2] (by decide) rfl (va_recv hK hP (ci := 2) (q0 := 0) rfl rfl)) rfl rfl hl.1 rfl (lv_room (Nat.le_of_ble_eq_true rfl)) d_Tape_next_20 ⟨Nat.le_of_ble_eq_true rfl, Nat.le_of_ble_eq_true rfl⟩) hP hD hS hA [0, 1, 2] [] rfl rfl (by decide) (by decide) (fun H locs hP hD hS => ?_)
    have hP : va_P D vwCl [(a_this, .inr (2, [.int s_place, .int s_ended, .int s_limit, .ref a_this_bytes])), (a_this_bytes, .inr (1, [.int s_bytes_count, .ref a_this_bytes_row])), (a_this_bytes_row, .inl (ar 2, 2400, .inl s_bytes_row))] H := hP
    have hD : va_D A [(a_this, .inr (2, [.int s_place, .int s_ended, .int s_limit, .ref a_this_bytes])), (a_this_bytes, .inr (1, [.int s_bytes_count, .ref a_this_bytes_row])), (a_this_bytes_row, .inl (ar 2, 2400, .inl s_bytes_row))] := hD
    refine lv_istore_n (lv' := [(2, .int r_2), (0, .ref a_this), (1, .int x1)]) hx hb d_Tape_next_23 rfl hl (by decide) rfl (fun ls hl => ?_)
    refine lv_aload_n hx hb d_Tape_next_24 rfl (lv_at hl 1 rfl) ?_
    refine lv_dup hx hb d_Tape_next_25 rfl ?_
    refine va_get (D := D) (ci := 2) (v := .int s_place) (C := R_Eye) (T := F_Eye) (N := 4) hx hb hts in_Eye hown hK hP 0 rfl rfl 0 (by decide) (hts _ k_185) (fun _ h9 => h9) rfl d_Tape_next_26 ?_
    refine lv_iconst (v := (1 : Int32)) hx hb d_Tape_next_29 (by decide) ?_
    refine lv_iadd hx hb d_Tape_next_30 ?_
    refine lv_topi (fun f_3 e_f_3 => ?_)
    have h := letB_at e_f_3 h
    refine va_put (D := D) (ci := 2) (v := .int f_3) (ty := .int) (C := R_Eye) (T := F_Eye) (N := 4) hx hb hts in_Eye t_Eye t_Eye_ok n_Eye hown hK hP hD hS 0 rfl rfl 0 (by decide) (hts _ k_185) (fun _ h9 => h9) rfl (by decide +kernel) rfl rfl (Nat.le_of_ble_eq_true rfl) d_Tape_next_31 (fun H locs hP hD hS => ?_)
    have hP : va_P D vwCl [(a_this, .inr (2, [.int f_3, .int s_ended, .int s_limit, .ref a_this_bytes])), (a_this_bytes, .inr (1, [.int s_bytes_count, .ref a_this_bytes_row])), (a_this_bytes_row, .inl (ar 2, 2400, .inl s_bytes_row))] H := hP
    have hD : va_D A [(a_this, .inr (2, [.int f_3, .int s_ended, .int s_limit, .ref a_this_bytes])), (a_this_bytes, .inr (1, [.int s_bytes_count, .ref a_this_bytes_row])), (a_this_bytes_row, .inl (ar 2, 2400, .inl s_bytes_row))] := hD
    refine lv_iload_n hx hb d_Tape_next_34 rfl (lv_at hl 0 rfl) ?_
    cases h
    exact sd_iret hx hb hr hlocks hP hD hK hS d_Tape_next_35
  · have h := Eq.trans (if_neg c_1).symm h
    refine lv_aload_n hx hb d_Tape_next_11 rfl (lv_at hl 0 rfl) ?_
    refine lv_iconst (v := (1 : Int32)) hx hb d_Tape_next_12 (by decide) ?_
    refine va_put (D := D) (ci := 2) (v := .int (1 : Int32)) (ty := .boolean) (C := R_Eye) (T := F_Eye) (N := 4) hx hb hts in_Eye t_Eye t_Eye_ok n_Eye hown hK hP hD hS 0 rfl rfl 1 (by decide) (hts _ k_193) (fun _ h9 => h9) rfl (by decide +kernel) rfl rfl (Nat.le_of_ble_eq_true rfl) d_Tape_next_13 (fun H locs hP hD hS => ?_)
    have hP : va_P D vwCl [(a_this, .inr (2, [.int s_place, .int (1 : Int32), .int s_limit, .ref a_this_bytes])), (a_this_bytes, .inr (1, [.int s_bytes_count, .ref a_this_bytes_row])), (a_this_bytes_row, .inl (ar 2, 2400, .inl s_bytes_row))] H := hP
    have hD : va_D A [(a_this, .inr (2, [.int s_place, .int (1 : Int32), .int s_limit, .ref a_this_bytes])), (a_this_bytes, .inr (1, [.int s_bytes_count, .ref a_this_bytes_row])), (a_this_bytes_row, .inl (ar 2, 2400, .inl s_bytes_row))] := hD
    refine lv_iconst (v := (-1 : Int32)) hx hb d_Tape_next_16 (by decide) ?_
    cases h
    exact sd_iret hx hb hr hlocks hP hD hK hS d_Tape_next_17
abbrev rm_Tape_hear_Eye : Room := { frames := 3, cells := 0, slots := 0, locals := 64 }
def m_Tape_hear_Eye_k4 (fu : Nat) (x1 : Int32) (s_limit : Int32) (s_bytes_row : Nat → Int32) (rec : Int32 → Int32 → Int32 → Int32 → Option ((Int32 × Int32) ⊕ (Int32 × Int32 × Int32))) (x2 : Int32) (x3 : Int32) (s_ended : Int32) (s_place : Int32) : Option ((Int32 × Int32) ⊕ (Int32 × Int32 × Int32)) :=
  if x1 ≤ x3 then (some (Sum.inr (x2, s_ended, s_place))) else (bn3 (m_Tape_next_Eye fu (0 : Int32) s_ended s_limit s_place s_bytes_row) (fun r_2 s_ended_3 s_place_4 => if r_2 = (-1 : Int32) then (some (Sum.inl (s_ended_3, s_place_4))) else (letB ((x2 * (2 : Int32)) + r_2) (fun x2_6 => letB (x3 + (1 : Int32)) (fun x3_7 => rec x2_6 x3_7 s_ended_3 s_place_4)))))
set_option maxHeartbeats 4000000 in
set_option maxRecDepth 100000 in
theorem w_Tape_hear_Eye_l4 {p : Program} {l : Launch} {e : Env} {s : State} {m : MethodId} {args : Array Value} {below : List Frame} {meth : Method} {c : Code} {D : va_G} {ar : Nat → ClassId} {A : Nat → Prop} {Q : State → Prop} {fu : Nat} {a_this a_this_bytes a_this_bytes_row : Nat} {s_bytes_count : Int32} (C0 : CX p s m meth c args prog_9_method_6_code 5 (some .int) "FreeWavelets$Tape" D ar A) (x1 : Int32) (s_limit : Int32) (s_bytes_row : Nat → Int32) : ∀ (n : Nat) (x2 : Int32) (x3 : Int32) (s_ended : Int32) (s_place : Int32) (o : (Int32 × Int32) ⊕ (Int32 × Int32 × Int32)), loop4 (m_Tape_hear_Eye_k4 fu x1 s_limit s_bytes_row) n x2 x3 s_ended s_place = some o → (∀ (o_ended : Int32) (o_place : Int32), o = (Sum.inl (o_ended, o_place)) → WA p l e rm_Tape_hear_Eye s m args below meth c D A 5 Q 22 [(a_this, .inr (2, [.int o_place, .int o_ended, .int s_limit, .ref a_this_bytes])), (a_this_bytes, .inr (1, [.int s_bytes_count, .ref a_this_bytes_row])), (a_this_bytes_row, .inl (ar 2, 2400, .inl s_bytes_row))] [] []) → (∀ (o_x2 : Int32) (o_ended : Int32) (o_place : Int32), o = (Sum.inr (o_x2, o_ended, o_place)) → WA p l e rm_Tape_hear_Eye s m args below meth c D A 5 Q 37 [(a_this, .inr (2, [.int o_place, .int o_ended, .int s_limit, .ref a_this_bytes])), (a_this_bytes, .inr (1, [.int s_bytes_count, .ref a_this_bytes_row])), (a_this_bytes_row, .inl (ar 2, 2400, .inl s_bytes_row))] [(2, .int o_x2)] []) → WA p l e rm_Tape_hear_Eye s m args below meth c D A 5 Q 4 [(a_this, .inr (2, [.int s_place, .int s_ended, .int s_limit, .ref a_this_bytes])), (a_this_bytes, .inr (1, [.int s_bytes_count, .ref a_this_bytes_row])), (a_this_bytes_row, .inl (ar 2, 2400, .inl s_bytes_row))] [(0, .ref a_this), (1, .int x1), (2, .int x2), (3, .int x3)] [] := by
  intro n
  induction n with
  | zero => intro x2 x3 s_ended s_place o h; exact (no0 h).elim
  | succ n ih =>
    intro x2 x3 s_ended s_place o h K1 K2
    have hrec : ∀ (x2 : Int32) (x3 : Int32) (s_ended : Int32) (s_place : Int32), loop4 (m_Tape_hear_Eye_k4 fu x1 s_limit s_bytes_row) n x2 x3 s_ended s_place = some o → WA p l e rm_Tape_hear_Eye s m args below meth c D A 5 Q 4 [(a_this, .inr (2, [.int s_place, .int s_ended, .int s_limit, .ref a_this_bytes])), (a_this_bytes, .inr (1, [.int s_bytes_count, .ref a_this_bytes_row])), (a_this_bytes_row, .inl (ar 2, 2400, .inl s_bytes_row))] [(0, .ref a_this), (1, .int x1), (2, .int x2), (3, .int x3)] [] := fun x2 x3 s_ended s_place h => ih x2 x3 s_ended s_place o h K1 K2
    clear ih
    intro H locs ls hP hD hS hl
    obtain ⟨hx, hb, hr, hml, hown, hts, hlocks, hA, hK, hZ⟩ := id C0
    have h : m_Tape_hear_Eye_k4 fu x1 s_limit s_bytes_row (loop4 (m_Tape_hear_Eye_k4 fu x1 s_limit s_bytes_row) n) x2 x3 s_ended s_place = some o := h
    unfold m_Tape_hear_Eye_k4 at h
    refine lv_iload_n hx hb d_Tape_hear_4 rfl (lv_at hl 3 rfl) ?_
    refine lv_iload_n hx hb d_Tape_hear_5 rfl (lv_at hl 1 rfl) ?_
    refine lv_icmp_ge (tgt := 37) hx hb d_Tape_hear_6 (by decide) (fun c_1 => ?_) (fun c_1 => ?_)
    · have h := Eq.trans (if_pos c_1).symm h
      cases h
      exact K2 _ _ _ rfl _ _ _ hP hD hS (lv_sub hl [2] rfl)
    · have h := Eq.trans (if_neg c_1).symm h
      refine lv_aload_n hx hb d_Tape_hear_9 rfl (lv_at hl 0 rfl) ?_
      refine lv_iconst (v := (0 : Int32)) hx hb d_Tape_hear_10 (by decide) ?_
      obtain ⟨r_2, s_ended_3, s_place_4, hcall, h⟩ := bn3_some h
      refine sd_i (wr := []) (va_runU (As := [.int (0 : Int32)]) (rest := []) ⟨hx, hb, hml, hown, hts⟩ (c_Tape_next_Eye a_this a_this_bytes a_this_bytes_row s_bytes_count (0 : Int32) s_ended s_limit s_place s_bytes_row hcall _) (cw_U (owner := "FreeWavelets$Tape") 1 hts k_396 k_399 k_400 k_397 k_34 k_402 rfl rfl rfl (by decide +kernel) ⟨Nat.le_of_ble_eq_true rfl, Nat.le_of_ble_eq_true rfl⟩) (sd_preV hK hP hD hS hA hZ [0, 1, 2] (by decide) rfl (va_recv hK hP (ci := 2) (q0 := 0) rfl rfl)) rfl rfl hl.1 rfl (lv_room (Nat.le_of_ble_eq_true rfl)) d_Tape_hear_11 ⟨Nat.le_of_ble_eq_true rfl, Nat.le_of_ble_eq_true rfl⟩) hP hD hS hA [0, 1, 2] [] rfl rfl (by decide) (by decide) (fun H locs hP hD hS => ?_)
      have hP : va_P D vwCl [(a_this, .inr (2, [.int s_place_4, .int s_ended_3, .int s_limit, .ref a_this_bytes])), (a_this_bytes, .inr (1, [.int s_bytes_count, .ref a_this_bytes_row])), (a_this_bytes_row, .inl (ar 2, 2400, .inl s_bytes_row))] H := hP
      have hD : va_D A [(a_this, .inr (2, [.int s_place_4, .int s_ended_3, .int s_limit, .ref a_this_bytes])), (a_this_bytes, .inr (1, [.int s_bytes_count, .ref a_this_bytes_row])), (a_this_bytes_row, .inl (ar 2, 2400, .inl s_bytes_row))] := hD
      refine lv_istore (lv' := [(4, .int r_2), (0, .ref a_this), (1, .int x1), (2, .int x2), (3, .int x3)]) hx hb d_Tape_hear_14 hl (by decide) rfl (fun ls hl => ?_)
      refine lv_iload hx hb d_Tape_hear_16 (lv_at hl 0 rfl) ?_
      refine lv_iconst (v := (-1 : Int32)) hx hb d_Tape_hear_18 (by decide) ?_
      refine lv_icmp_ne (tgt := 24) hx hb d_Tape_hear_19 (by decide) (fun c_5 => ?_) (fun c_5 => ?_)
      · have h := Eq.trans (if_neg c_5).symm h
        refine lv_iload_n hx hb d_Tape_hear_24 rfl (lv_at hl 3 rfl) ?_
        refine lv_iconst (v := (2 : Int32)) hx hb d_Tape_hear_25 (by decide) ?_
        refine lv_imul hx hb d_Tape_hear_26 ?_
        refine lv_iload hx hb d_Tape_hear_27 (lv_at hl 0 rfl) ?_
        refine lv_iadd hx hb d_Tape_hear_29 ?_
        refine lv_topi (fun x2_6 e_x2_6 => ?_)
        have h := letB_at e_x2_6 h
        refine lv_istore_n (lv' := [(2, .int x2_6), (4, .int r_2), (0, .ref a_this), (1, .int x1), (3, .int x3)]) hx hb d_Tape_hear_30 rfl hl (by decide) rfl (fun ls hl => ?_)
        obtain ⟨x3_7, e_x3_7⟩ : ∃ y : Int32, y = x3 + (1 : Int32) := ⟨_, rfl⟩
        have h := letB_at e_x3_7 h
        refine lv_iinc (v := x3_7) (lv' := [(3, .int x3_7), (2, .int x2_6), (4, .int r_2), (0, .ref a_this), (1, .int x1)]) hx hb d_Tape_hear_31 hl (k := 4) rfl (by rw [e_x3_7]; rfl) (by decide) rfl (fun ls hl => ?_)
        refine lv_goto (tgt := 4) hx hb d_Tape_hear_34 (by decide) ?_
        exact hrec x2_6 x3_7 s_ended_3 s_place_4 h _ _ _ hP hD hS (lv_sub hl [3, 4, 1, 0] rfl)
      · have h := Eq.trans (if_pos c_5).symm h
        cases h
        exact K1 _ _ rfl _ _ _ hP hD hS (lv_sub hl [] rfl)
def m_Tape_hear_Eye (fu : Nat) (x1 : Int32) (s_ended : Int32) (s_limit : Int32) (s_place : Int32) (s_bytes_row : Nat → Int32) : Option (Int32 × Int32 × Int32) :=
  sm2 (loop4 (m_Tape_hear_Eye_k4 fu x1 s_limit s_bytes_row) fu (0 : Int32) (0 : Int32) s_ended s_place) (fun u => un2 u (fun o_ended_8 o_place_9 => some ((-1 : Int32), o_ended_8, o_place_9))) (fun u => un3 u (fun o_x2_10 o_ended_11 o_place_12 => some (o_x2_10, o_ended_11, o_place_12)))
set_option maxHeartbeats 4000000 in
set_option maxRecDepth 100000 in
theorem c_Tape_hear_Eye {l : Launch} {D : va_G} {ar : Nat → ClassId} {fu : Nat} (a_this a_this_bytes a_this_bytes_row : Nat) (s_bytes_count : Int32) (x1 : Int32) (s_ended : Int32) (s_limit : Int32) (s_place : Int32) (s_bytes_row : Nat → Int32) {r_v : Int32} {r_ended : Int32} {r_place : Int32} (h : m_Tape_hear_Eye fu x1 s_ended s_limit s_place s_bytes_row = some (r_v, r_ended, r_place)) : StdI l y_Tape_hear ws_Tape_hear rm_Tape_hear_Eye D ar [.ref a_this, .int x1] [(a_this, .inr (2, [.int s_place, .int s_ended, .int s_limit, .ref a_this_bytes])), (a_this_bytes, .inr (1, [.int s_bytes_count, .ref a_this_bytes_row])), (a_this_bytes_row, .inl (ar 2, 2400, .inl s_bytes_row))] [(a_this, .inr (2, [.int r_place, .int r_ended, .int s_limit, .ref a_this_bytes])), (a_this_bytes, .inr (1, [.int s_bytes_count, .ref a_this_bytes_row])), (a_this_bytes_row, .inl (ar 2, 2400, .inl s_bytes_row))] r_v := by
  refine sd_metI (cc := prog_9_method_6_code) (maxL := 5) (ret := (some .int)) (own := "FreeWavelets$Tape") (by decide) rfl rfl (Nat.le_of_ble_eq_true rfl) ?_
  intro p e s m below meth c A ls C0 hP hD hl
  obtain ⟨hx, hb, hr, hml, hown, hts, hlocks, hA, hK, hZ⟩ := id C0
  have hS : va_S A s.heap s.heap [] := va_S.rf
  have hl : lv_has ls 5 [(0, .ref a_this), (1, .int x1)] := hl
  unfold m_Tape_hear_Eye at h
  refine lv_iconst (v := (0 : Int32)) hx hb d_Tape_hear_0 (by decide) ?_
  refine lv_istore_n (lv' := [(2, .int (0 : Int32)), (0, .ref a_this), (1, .int x1)]) hx hb d_Tape_hear_1 rfl hl (by decide) rfl (fun ls hl => ?_)
  refine lv_iconst (v := (0 : Int32)) hx hb d_Tape_hear_2 (by decide) ?_
  refine lv_istore_n (lv' := [(3, .int (0 : Int32)), (2, .int (0 : Int32)), (0, .ref a_this), (1, .int x1)]) hx hb d_Tape_hear_3 rfl hl (by decide) rfl (fun ls hl => ?_)
  obtain ⟨o, hloop, h⟩ := sm2_some h
  refine w_Tape_hear_Eye_l4 C0 x1 s_limit s_bytes_row fu (0 : Int32) (0 : Int32) s_ended s_place o hloop ?_ ?_ _ _ _ hP hD hS (lv_sub hl [2, 3, 1, 0] rfl)
  · clear hP hD hS hl
    intro o_ended_8 o_place_9 eo H locs ls hP hD hS hl
    subst eo
    have h := sl2_1 h
    have h := un2_at h
    refine lv_iconst (v := (-1 : Int32)) hx hb d_Tape_hear_22 (by decide) ?_
    cases h
    exact sd_iret hx hb hr hlocks hP hD hK hS d_Tape_hear_23
  · clear hP hD hS hl
    intro o_x2_10 o_ended_11 o_place_12 eo H locs ls hP hD hS hl
    subst eo
    have h := sl2_2 h
    have h := un3_at h
    refine lv_iload_n hx hb d_Tape_hear_37 rfl (lv_at hl 0 rfl) ?_
    cases h
    exact sd_iret hx hb hr hlocks hP hD hK hS d_Tape_hear_38
abbrev rm_Head_readRun_Eye : Room := { frames := 4, cells := 0, slots := 0, locals := 88 }
def m_Head_readRun_Eye_k8 (fu : Nat) (s_tape_limit : Int32) (s_tape_bytes_row : Nat → Int32) (rec : Int32 → Int32 → Int32 → Int32 → Option ((Int32 × Int32 × Int32 × Int32))) (x1 : Int32) (x2 : Int32) (s_tape_ended : Int32) (s_tape_place : Int32) : Option ((Int32 × Int32 × Int32 × Int32)) :=
  if x2 = (0 : Int32) then (if (16 : Int32) ≤ x1 then (some (x1, x2, s_tape_ended, s_tape_place)) else (letB (x1 + (1 : Int32)) (fun x1_6 => bn3 (m_Tape_next_Eye fu (0 : Int32) s_tape_ended s_tape_limit s_tape_place s_tape_bytes_row) (fun r_7 s_tape_ended_8 s_tape_place_9 => rec x1_6 r_7 s_tape_ended_8 s_tape_place_9)))) else (some (x1, x2, s_tape_ended, s_tape_place))
set_option maxHeartbeats 4000000 in
set_option maxRecDepth 100000 in
theorem w_Head_readRun_Eye_l8 {p : Program} {l : Launch} {e : Env} {s : State} {m : MethodId} {args : Array Value} {below : List Frame} {meth : Method} {c : Code} {D : va_G} {ar : Nat → ClassId} {A : Nat → Prop} {Q : State → Prop} {fu : Nat} {a_tape a_tape_bytes a_tape_bytes_row : Nat} {s_tape_bytes_count : Int32} (C0 : CX p s m meth c args prog_4_method_6_code 4 (some .int) "FreeWavelets$Head" D ar A) (s_tape_limit : Int32) (s_tape_bytes_row : Nat → Int32) : ∀ (n : Nat) (x1 : Int32) (x2 : Int32) (s_tape_ended : Int32) (s_tape_place : Int32) (o_x1 : Int32) (o_x2 : Int32) (o_tape_ended : Int32) (o_tape_place : Int32), loop4 (m_Head_readRun_Eye_k8 fu s_tape_limit s_tape_bytes_row) n x1 x2 s_tape_ended s_tape_place = some (o_x1, o_x2, o_tape_ended, o_tape_place) → (WA p l e rm_Head_readRun_Eye s m args below meth c D A 4 Q 30 [(a_tape, .inr (2, [.int o_tape_place, .int o_tape_ended, .int s_tape_limit, .ref a_tape_bytes])), (a_tape_bytes, .inr (1, [.int s_tape_bytes_count, .ref a_tape_bytes_row])), (a_tape_bytes_row, .inl (ar 2, 2400, .inl s_tape_bytes_row))] [(0, .ref a_tape), (1, .int o_x1), (2, .int o_x2)] []) → WA p l e rm_Head_readRun_Eye s m args below meth c D A 4 Q 8 [(a_tape, .inr (2, [.int s_tape_place, .int s_tape_ended, .int s_tape_limit, .ref a_tape_bytes])), (a_tape_bytes, .inr (1, [.int s_tape_bytes_count, .ref a_tape_bytes_row])), (a_tape_bytes_row, .inl (ar 2, 2400, .inl s_tape_bytes_row))] [(0, .ref a_tape), (1, .int x1), (2, .int x2)] [] := by
  intro n
  induction n with
  | zero => intro x1 x2 s_tape_ended s_tape_place o_x1 o_x2 o_tape_ended o_tape_place h; exact (no0 h).elim
  | succ n ih =>
    intro x1 x2 s_tape_ended s_tape_place o_x1 o_x2 o_tape_ended o_tape_place h K1
    have hrec : ∀ (x1 : Int32) (x2 : Int32) (s_tape_ended : Int32) (s_tape_place : Int32), loop4 (m_Head_readRun_Eye_k8 fu s_tape_limit s_tape_bytes_row) n x1 x2 s_tape_ended s_tape_place = some (o_x1, o_x2, o_tape_ended, o_tape_place) → WA p l e rm_Head_readRun_Eye s m args below meth c D A 4 Q 8 [(a_tape, .inr (2, [.int s_tape_place, .int s_tape_ended, .int s_tape_limit, .ref a_tape_bytes])), (a_tape_bytes, .inr (1, [.int s_tape_bytes_count, .ref a_tape_bytes_row])), (a_tape_bytes_row, .inl (ar 2, 2400, .inl s_tape_bytes_row))] [(0, .ref a_tape), (1, .int x1), (2, .int x2)] [] := fun x1 x2 s_tape_ended s_tape_place h => ih x1 x2 s_tape_ended s_tape_place o_x1 o_x2 o_tape_ended o_tape_place h K1
    clear ih
    intro H locs ls hP hD hS hl
    obtain ⟨hx, hb, hr, hml, hown, hts, hlocks, hA, hK, hZ⟩ := id C0
    have h : m_Head_readRun_Eye_k8 fu s_tape_limit s_tape_bytes_row (loop4 (m_Head_readRun_Eye_k8 fu s_tape_limit s_tape_bytes_row) n) x1 x2 s_tape_ended s_tape_place = some (o_x1, o_x2, o_tape_ended, o_tape_place) := h
    unfold m_Head_readRun_Eye_k8 at h
    refine lv_iload_n hx hb d_Head_readRun_8 rfl (lv_at hl 2 rfl) ?_
    refine lv_if_ne (tgt := 30) hx hb d_Head_readRun_9 (by decide) (fun c_4 => ?_) (fun c_4 => ?_)
    · have h := Eq.trans (if_neg c_4).symm h
      cases h
      exact K1 _ _ _ hP hD hS hl
    · have h := Eq.trans (if_pos c_4).symm h
      refine lv_iload_n hx hb d_Head_readRun_12 rfl (lv_at hl 1 rfl) ?_
      refine lv_bipush (v := (16 : Int32)) hx hb d_Head_readRun_13 (by decide) ?_
      refine lv_icmp_ge (tgt := 30) hx hb d_Head_readRun_15 (by decide) (fun c_5 => ?_) (fun c_5 => ?_)
      · have h := Eq.trans (if_pos c_5).symm h
        cases h
        exact K1 _ _ _ hP hD hS hl
      · have h := Eq.trans (if_neg c_5).symm h
        obtain ⟨x1_6, e_x1_6⟩ : ∃ y : Int32, y = x1 + (1 : Int32) := ⟨_, rfl⟩
        have h := letB_at e_x1_6 h
        refine lv_iinc (v := x1_6) (lv' := [(1, .int x1_6), (0, .ref a_tape), (2, .int x2)]) hx hb d_Head_readRun_18 hl (k := 1) rfl (by rw [e_x1_6]; rfl) (by decide) rfl (fun ls hl => ?_)
        refine lv_aload_n hx hb d_Head_readRun_21 rfl (lv_at hl 1 rfl) ?_
        refine lv_iconst (v := (0 : Int32)) hx hb d_Head_readRun_22 (by decide) ?_
        obtain ⟨r_7, s_tape_ended_8, s_tape_place_9, hcall, h⟩ := bn3_some h
        refine sd_i (wr := []) (va_runU (As := [.int (0 : Int32)]) (rest := []) ⟨hx, hb, hml, hown, hts⟩ (c_Tape_next_Eye a_tape a_tape_bytes a_tape_bytes_row s_tape_bytes_count (0 : Int32) s_tape_ended s_tape_limit s_tape_place s_tape_bytes_row hcall _) (cw_U (owner := "FreeWavelets$Tape") 1 hts k_720 k_399 k_400 k_397 k_34 k_402 rfl rfl rfl (by decide +kernel) ⟨Nat.le_of_ble_eq_true rfl, Nat.le_of_ble_eq_true rfl⟩) (sd_preV hK hP hD hS hA hZ [0, 1, 2] (by decide) rfl (va_recv hK hP (ci := 2) (q0 := 0) rfl rfl)) rfl rfl hl.1 rfl (lv_room (Nat.le_of_ble_eq_true rfl)) d_Head_readRun_23 ⟨Nat.le_of_ble_eq_true rfl, Nat.le_of_ble_eq_true rfl⟩) hP hD hS hA [0, 1, 2] [] rfl rfl (by decide) (by decide) (fun H locs hP hD hS => ?_)
        have hP : va_P D vwCl [(a_tape, .inr (2, [.int s_tape_place_9, .int s_tape_ended_8, .int s_tape_limit, .ref a_tape_bytes])), (a_tape_bytes, .inr (1, [.int s_tape_bytes_count, .ref a_tape_bytes_row])), (a_tape_bytes_row, .inl (ar 2, 2400, .inl s_tape_bytes_row))] H := hP
        have hD : va_D A [(a_tape, .inr (2, [.int s_tape_place_9, .int s_tape_ended_8, .int s_tape_limit, .ref a_tape_bytes])), (a_tape_bytes, .inr (1, [.int s_tape_bytes_count, .ref a_tape_bytes_row])), (a_tape_bytes_row, .inl (ar 2, 2400, .inl s_tape_bytes_row))] := hD
        refine lv_istore_n (lv' := [(2, .int r_7), (1, .int x1_6), (0, .ref a_tape)]) hx hb d_Head_readRun_26 rfl hl (by decide) rfl (fun ls hl => ?_)
        refine lv_goto (tgt := 8) hx hb d_Head_readRun_27 (by decide) ?_
        exact hrec x1_6 r_7 s_tape_ended_8 s_tape_place_9 h _ _ _ hP hD hS (lv_sub hl [2, 1, 0] rfl)
def m_Head_readRun_Eye_b59 (fu : Nat) (t0 : Int32) (s_tape_ended : Int32) (s_tape_limit : Int32) (s_tape_place : Int32) (s_tape_bytes_row : Nat → Int32) : Option (Int32 × Int32 × Int32) :=
  some (t0, s_tape_ended, s_tape_place)
set_option maxHeartbeats 4000000 in
set_option maxRecDepth 100000 in
theorem w_Head_readRun_Eye_b59 {p : Program} {l : Launch} {e : Env} {s : State} {m : MethodId} {args : Array Value} {below : List Frame} {meth : Method} {c : Code} {D : va_G} {ar : Nat → ClassId} {A : Nat → Prop} {fu : Nat} {a_tape a_tape_bytes a_tape_bytes_row : Nat} {s_tape_bytes_count : Int32} {r_v : Int32} {r_tape_ended : Int32} {r_tape_place : Int32} (C0 : CX p s m meth c args prog_4_method_6_code 4 (some .int) "FreeWavelets$Head" D ar A) (t0 : Int32) (s_tape_ended : Int32) (s_tape_limit : Int32) (s_tape_place : Int32) (s_tape_bytes_row : Nat → Int32) (h : m_Head_readRun_Eye_b59 fu t0 s_tape_ended s_tape_limit s_tape_place s_tape_bytes_row = some (r_v, r_tape_ended, r_tape_place)) : WA p l e rm_Head_readRun_Eye s m args below meth c D A 4 (MQ below (QI D ar [(a_tape, .inr (2, [.int r_tape_place, .int r_tape_ended, .int s_tape_limit, .ref a_tape_bytes])), (a_tape_bytes, .inr (1, [.int s_tape_bytes_count, .ref a_tape_bytes_row])), (a_tape_bytes_row, .inl (ar 2, 2400, .inl s_tape_bytes_row))] r_v A) args s 0 0 A) 59 [(a_tape, .inr (2, [.int s_tape_place, .int s_tape_ended, .int s_tape_limit, .ref a_tape_bytes])), (a_tape_bytes, .inr (1, [.int s_tape_bytes_count, .ref a_tape_bytes_row])), (a_tape_bytes_row, .inl (ar 2, 2400, .inl s_tape_bytes_row))] [] [.int t0] := by
  intro H locs ls hP hD hS hl
  obtain ⟨hx, hb, hr, hml, hown, hts, hlocks, hA, hK, hZ⟩ := id C0
  unfold m_Head_readRun_Eye_b59 at h
  cases h
  exact sd_iret hx hb hr hlocks hP hD hK hS d_Head_readRun_59
def m_Head_readRun_Eye (fu : Nat) (s_tape_ended : Int32) (s_tape_limit : Int32) (s_tape_place : Int32) (s_tape_bytes_row : Nat → Int32) : Option (Int32 × Int32 × Int32) :=
  bn3 (m_Tape_next_Eye fu (0 : Int32) s_tape_ended s_tape_limit s_tape_place s_tape_bytes_row) (fun r_1 s_tape_ended_2 s_tape_place_3 => bn4 (loop4 (m_Head_readRun_Eye_k8 fu s_tape_limit s_tape_bytes_row) fu (0 : Int32) r_1 s_tape_ended_2 s_tape_place_3) (fun o_x1_10 o_x2_11 o_tape_ended_12 o_tape_place_13 => if o_x2_11 = (1 : Int32) then (bn3 (m_Tape_hear_Eye fu o_x1_10 o_tape_ended_12 s_tape_limit o_tape_place_13 s_tape_bytes_row) (fun r_15 s_tape_ended_16 s_tape_place_17 => if r_15 = (-1 : Int32) then (m_Head_readRun_Eye_b59 fu (-1 : Int32) s_tape_ended_16 s_tape_limit s_tape_place_17 s_tape_bytes_row) else (m_Head_readRun_Eye_b59 fu ((((1 : Int32) <<< (o_x1_10 &&& 31)) + r_15) - (1 : Int32)) s_tape_ended_16 s_tape_limit s_tape_place_17 s_tape_bytes_row))) else (some ((-1 : Int32), o_tape_ended_12, o_tape_place_13))))
set_option maxHeartbeats 4000000 in
set_option maxRecDepth 100000 in
theorem c_Head_readRun_Eye {l : Launch} {D : va_G} {ar : Nat → ClassId} {fu : Nat} (a_tape a_tape_bytes a_tape_bytes_row : Nat) (s_tape_bytes_count : Int32) (s_tape_ended : Int32) (s_tape_limit : Int32) (s_tape_place : Int32) (s_tape_bytes_row : Nat → Int32) {r_v : Int32} {r_tape_ended : Int32} {r_tape_place : Int32} (h : m_Head_readRun_Eye fu s_tape_ended s_tape_limit s_tape_place s_tape_bytes_row = some (r_v, r_tape_ended, r_tape_place)) : StdI l y_Head_readRun ws_Head_readRun rm_Head_readRun_Eye D ar [.ref a_tape] [(a_tape, .inr (2, [.int s_tape_place, .int s_tape_ended, .int s_tape_limit, .ref a_tape_bytes])), (a_tape_bytes, .inr (1, [.int s_tape_bytes_count, .ref a_tape_bytes_row])), (a_tape_bytes_row, .inl (ar 2, 2400, .inl s_tape_bytes_row))] [(a_tape, .inr (2, [.int r_tape_place, .int r_tape_ended, .int s_tape_limit, .ref a_tape_bytes])), (a_tape_bytes, .inr (1, [.int s_tape_bytes_count, .ref a_tape_bytes_row])), (a_tape_bytes_row, .inl (ar 2, 2400, .inl s_tape_bytes_row))] r_v := by
  refine sd_metI (cc := prog_4_method_6_code) (maxL := 4) (ret := (some .int)) (own := "FreeWavelets$Head") (by decide) rfl rfl (Nat.le_of_ble_eq_true rfl) ?_
  intro p e s m below meth c A ls C0 hP hD hl
  obtain ⟨hx, hb, hr, hml, hown, hts, hlocks, hA, hK, hZ⟩ := id C0
  have hS : va_S A s.heap s.heap [] := va_S.rf
  have hl : lv_has ls 4 [(0, .ref a_tape)] := hl
  unfold m_Head_readRun_Eye at h
  refine lv_iconst (v := (0 : Int32)) hx hb d_Head_readRun_0 (by decide) ?_
  refine lv_istore_n (lv' := [(1, .int (0 : Int32)), (0, .ref a_tape)]) hx hb d_Head_readRun_1 rfl hl (by decide) rfl (fun ls hl => ?_)
  refine lv_aload_n hx hb d_Head_readRun_2 rfl (lv_at hl 1 rfl) ?_
  refine lv_iconst (v := (0 : Int32)) hx hb d_Head_readRun_3 (by decide) ?_
  obtain ⟨r_1, s_tape_ended_2, s_tape_place_3, hcall, h⟩ := bn3_some h
  refine sd_i (wr := []) (va_runU (As := [.int (0 : Int32)]) (rest := []) ⟨hx, hb, hml, hown, hts⟩ (c_Tape_next_Eye a_tape a_tape_bytes a_tape_bytes_row s_tape_bytes_count (0 : Int32) s_tape_ended s_tape_limit s_tape_place s_tape_bytes_row hcall _) (cw_U (owner := "FreeWavelets$Tape") 1 hts k_720 k_399 k_400 k_397 k_34 k_402 rfl rfl rfl (by decide +kernel) ⟨Nat.le_of_ble_eq_true rfl, Nat.le_of_ble_eq_true rfl⟩) (sd_preV hK hP hD hS hA hZ [0, 1, 2] (by decide) rfl (va_recv hK hP (ci := 2) (q0 := 0) rfl rfl)) rfl rfl hl.1 rfl (lv_room (Nat.le_of_ble_eq_true rfl)) d_Head_readRun_4 ⟨Nat.le_of_ble_eq_true rfl, Nat.le_of_ble_eq_true rfl⟩) hP hD hS hA [0, 1, 2] [] rfl rfl (by decide) (by decide) (fun H locs hP hD hS => ?_)
  have hP : va_P D vwCl [(a_tape, .inr (2, [.int s_tape_place_3, .int s_tape_ended_2, .int s_tape_limit, .ref a_tape_bytes])), (a_tape_bytes, .inr (1, [.int s_tape_bytes_count, .ref a_tape_bytes_row])), (a_tape_bytes_row, .inl (ar 2, 2400, .inl s_tape_bytes_row))] H := hP
  have hD : va_D A [(a_tape, .inr (2, [.int s_tape_place_3, .int s_tape_ended_2, .int s_tape_limit, .ref a_tape_bytes])), (a_tape_bytes, .inr (1, [.int s_tape_bytes_count, .ref a_tape_bytes_row])), (a_tape_bytes_row, .inl (ar 2, 2400, .inl s_tape_bytes_row))] := hD
  refine lv_istore_n (lv' := [(2, .int r_1), (1, .int (0 : Int32)), (0, .ref a_tape)]) hx hb d_Head_readRun_7 rfl hl (by decide) rfl (fun ls hl => ?_)
  obtain ⟨o_x1_10, o_x2_11, o_tape_ended_12, o_tape_place_13, hloop, h⟩ := bn4_some h
  refine w_Head_readRun_Eye_l8 C0 s_tape_limit s_tape_bytes_row fu (0 : Int32) r_1 s_tape_ended_2 s_tape_place_3 _ _ _ _ hloop ?_ _ _ _ hP hD hS (lv_sub hl [2, 1, 0] rfl)
  clear hP hD hS hl hloop
  intro H locs ls hP hD hS hl
  refine lv_iload_n hx hb d_Head_readRun_30 rfl (lv_at hl 2 rfl) ?_
  refine lv_iconst (v := (1 : Int32)) hx hb d_Head_readRun_31 (by decide) ?_
  refine lv_icmp_eq (tgt := 37) hx hb d_Head_readRun_32 (by decide) (fun c_14 => ?_) (fun c_14 => ?_)
  · have h := Eq.trans (if_pos c_14).symm h
    refine lv_aload_n hx hb d_Head_readRun_37 rfl (lv_at hl 0 rfl) ?_
    refine lv_iload_n hx hb d_Head_readRun_38 rfl (lv_at hl 1 rfl) ?_
    obtain ⟨r_15, s_tape_ended_16, s_tape_place_17, hcall, h⟩ := bn3_some h
    refine sd_i (wr := []) (va_runU (As := [.int o_x1_10]) (rest := []) ⟨hx, hb, hml, hown, hts⟩ (c_Tape_hear_Eye a_tape a_tape_bytes a_tape_bytes_row s_tape_bytes_count o_x1_10 o_tape_ended_12 s_tape_limit o_tape_place_13 s_tape_bytes_row hcall _) (cw_U (owner := "FreeWavelets$Tape") 1 hts k_703 k_706 k_707 k_704 k_34 k_709 rfl rfl rfl (by decide +kernel) ⟨Nat.le_of_ble_eq_true rfl, Nat.le_of_ble_eq_true rfl⟩) (sd_preV hK hP hD hS hA hZ [0, 1, 2] (by decide) rfl (va_recv hK hP (ci := 2) (q0 := 0) rfl rfl)) rfl rfl hl.1 rfl (lv_room (Nat.le_of_ble_eq_true rfl)) d_Head_readRun_39 ⟨Nat.le_of_ble_eq_true rfl, Nat.le_of_ble_eq_true rfl⟩) hP hD hS hA [0, 1, 2] [] rfl rfl (by decide) (by decide) (fun H locs hP hD hS => ?_)
    have hP : va_P D vwCl [(a_tape, .inr (2, [.int s_tape_place_17, .int s_tape_ended_16, .int s_tape_limit, .ref a_tape_bytes])), (a_tape_bytes, .inr (1, [.int s_tape_bytes_count, .ref a_tape_bytes_row])), (a_tape_bytes_row, .inl (ar 2, 2400, .inl s_tape_bytes_row))] H := hP
    have hD : va_D A [(a_tape, .inr (2, [.int s_tape_place_17, .int s_tape_ended_16, .int s_tape_limit, .ref a_tape_bytes])), (a_tape_bytes, .inr (1, [.int s_tape_bytes_count, .ref a_tape_bytes_row])), (a_tape_bytes_row, .inl (ar 2, 2400, .inl s_tape_bytes_row))] := hD
    refine lv_istore_n (lv' := [(3, .int r_15), (0, .ref a_tape), (1, .int o_x1_10), (2, .int o_x2_11)]) hx hb d_Head_readRun_42 rfl hl (by decide) rfl (fun ls hl => ?_)
    refine lv_iload_n hx hb d_Head_readRun_43 rfl (lv_at hl 0 rfl) ?_
    refine lv_iconst (v := (-1 : Int32)) hx hb d_Head_readRun_44 (by decide) ?_
    refine lv_icmp_ne (tgt := 52) hx hb d_Head_readRun_45 (by decide) (fun c_18 => ?_) (fun c_18 => ?_)
    · have h := Eq.trans (if_neg c_18).symm h
      refine lv_iconst (v := (1 : Int32)) hx hb d_Head_readRun_52 (by decide) ?_
      refine lv_iload_n hx hb d_Head_readRun_53 rfl (lv_at hl 2 rfl) ?_
      refine lv_ishl hx hb d_Head_readRun_54 ?_
      refine lv_iload_n hx hb d_Head_readRun_55 rfl (lv_at hl 0 rfl) ?_
      refine lv_iadd hx hb d_Head_readRun_56 ?_
      refine lv_iconst (v := (1 : Int32)) hx hb d_Head_readRun_57 (by decide) ?_
      refine lv_isub hx hb d_Head_readRun_58 ?_
      exact w_Head_readRun_Eye_b59 C0 ((((1 : Int32) <<< (o_x1_10 &&& 31)) + r_15) - (1 : Int32)) s_tape_ended_16 s_tape_limit s_tape_place_17 s_tape_bytes_row h _ _ _ hP hD hS (lv_sub hl [] rfl)
    · have h := Eq.trans (if_pos c_18).symm h
      refine lv_iconst (v := (-1 : Int32)) hx hb d_Head_readRun_48 (by decide) ?_
      refine lv_goto (tgt := 59) hx hb d_Head_readRun_49 (by decide) ?_
      exact w_Head_readRun_Eye_b59 C0 (-1 : Int32) s_tape_ended_16 s_tape_limit s_tape_place_17 s_tape_bytes_row h _ _ _ hP hD hS (lv_sub hl [] rfl)
  · have h := Eq.trans (if_neg c_14).symm h
    refine lv_iconst (v := (-1 : Int32)) hx hb d_Head_readRun_35 (by decide) ?_
    cases h
    exact sd_iret hx hb hr hlocks hP hD hK hS d_Head_readRun_36
abbrev rm_Head_readRuns_Eye : Room := { frames := 5, cells := 0, slots := 0, locals := 111 }
def m_Head_readRuns_Eye_b57 (fu : Nat) (rec : Int32 → Int32 → Int32 → (Nat → Int32) → Int32 → Int32 → Option (((Nat → Int32) × Int32 × Int32) ⊕ (Int32 × Int32 × (Nat → Int32) × Int32 × Int32))) (x2 : Int32) (x3 : Int32) (x4 : Int32) (x5 : Int32) (s_shape_height : Int32) (s_shape_width : Int32) (s_shape_inside : Nat → Int32) (s_tape_ended : Int32) (s_tape_limit : Int32) (s_tape_place : Int32) (s_tape_bytes_row : Nat → Int32) : Option (((Nat → Int32) × Int32 × Int32) ⊕ (Int32 × Int32 × (Nat → Int32) × Int32 × Int32)) :=
  if (1 : Int32) ≤ x3 then (bn1 (m_FW_sampleOf fu x5 x4) (fun r_9 => chk r_9 256 (letB (x3 + (-1 : Int32)) (fun x3_11 => letB (x5 + (1 : Int32)) (fun x5_12 => rec x2 x3_11 x5_12 (upd s_shape_inside (r_9).toNatClampNeg (vp_nar .boolean x2)) s_tape_ended s_tape_place))))) else (some (Sum.inl (s_shape_inside, s_tape_ended, s_tape_place)))
set_option maxHeartbeats 4000000 in
set_option maxRecDepth 100000 in
theorem w_Head_readRuns_Eye_b57 {p : Program} {l : Launch} {e : Env} {s : State} {m : MethodId} {args : Array Value} {below : List Frame} {meth : Method} {c : Code} {D : va_G} {ar : Nat → ClassId} {A : Nat → Prop} {Q : State → Prop} {fu : Nat} {a_tape a_shape a_tape_bytes a_tape_bytes_row a_shape_inside a_shape_partOf a_shape_sizeOf a_shape_firstOf a_shape_queue : Nat} {s_tape_bytes_count : Int32} {s_shape_parts : Int32} {s_shape_count : Int32} {o : ((Nat → Int32) × Int32 × Int32) ⊕ (Int32 × Int32 × (Nat → Int32) × Int32 × Int32)} (C0 : CX p s m meth c args prog_4_method_5_code 6 (some .boolean) "FreeWavelets$Head" D ar A) (x2 : Int32) (x3 : Int32) (x4 : Int32) (x5 : Int32) (s_shape_height : Int32) (s_shape_width : Int32) (s_shape_inside : Nat → Int32) (s_tape_ended : Int32) (s_tape_limit : Int32) (s_tape_place : Int32) (s_tape_bytes_row : Nat → Int32) (rec : Int32 → Int32 → Int32 → (Nat → Int32) → Int32 → Int32 → Option (((Nat → Int32) × Int32 × Int32) ⊕ (Int32 × Int32 × (Nat → Int32) × Int32 × Int32))) (hrec : ∀ (x2 : Int32) (x3 : Int32) (x5 : Int32) (s_shape_inside : Nat → Int32) (s_tape_ended : Int32) (s_tape_place : Int32), rec x2 x3 x5 s_shape_inside s_tape_ended s_tape_place = some o → WA p l e rm_Head_readRuns_Eye s m args below meth c D A 6 Q 29 [(a_tape, .inr (2, [.int s_tape_place, .int s_tape_ended, .int s_tape_limit, .ref a_tape_bytes])), (a_tape_bytes, .inr (1, [.int s_tape_bytes_count, .ref a_tape_bytes_row])), (a_tape_bytes_row, .inl (ar 2, 2400, .inl s_tape_bytes_row)), (a_shape, .inr (7, [.ref a_shape_inside, .ref a_shape_partOf, .ref a_shape_sizeOf, .ref a_shape_firstOf, .int s_shape_width, .int s_shape_height, .int s_shape_parts, .int s_shape_count, .ref a_shape_queue])), (a_shape_inside, .inl (ar 1, 256, .inl s_shape_inside))] [(0, .ref a_tape), (1, .ref a_shape), (2, .int x2), (3, .int x3), (4, .int x4), (5, .int x5)] []) (K1 : ∀ (o_shape_inside : Nat → Int32) (o_tape_ended : Int32) (o_tape_place : Int32), o = (Sum.inl (o_shape_inside, o_tape_ended, o_tape_place)) → WA p l e rm_Head_readRuns_Eye s m args below meth c D A 6 Q 62 [(a_tape, .inr (2, [.int o_tape_place, .int o_tape_ended, .int s_tape_limit, .ref a_tape_bytes])), (a_tape_bytes, .inr (1, [.int s_tape_bytes_count, .ref a_tape_bytes_row])), (a_tape_bytes_row, .inl (ar 2, 2400, .inl s_tape_bytes_row)), (a_shape, .inr (7, [.ref a_shape_inside, .ref a_shape_partOf, .ref a_shape_sizeOf, .ref a_shape_firstOf, .int s_shape_width, .int s_shape_height, .int s_shape_parts, .int s_shape_count, .ref a_shape_queue])), (a_shape_inside, .inl (ar 1, 256, .inl o_shape_inside))] [] []) (K2 : ∀ (o_x2 : Int32) (o_x3 : Int32) (o_shape_inside : Nat → Int32) (o_tape_ended : Int32) (o_tape_place : Int32), o = (Sum.inr (o_x2, o_x3, o_shape_inside, o_tape_ended, o_tape_place)) → WA p l e rm_Head_readRuns_Eye s m args below meth c D A 6 Q 86 [(a_tape, .inr (2, [.int o_tape_place, .int o_tape_ended, .int s_tape_limit, .ref a_tape_bytes])), (a_tape_bytes, .inr (1, [.int s_tape_bytes_count, .ref a_tape_bytes_row])), (a_tape_bytes_row, .inl (ar 2, 2400, .inl s_tape_bytes_row)), (a_shape, .inr (7, [.ref a_shape_inside, .ref a_shape_partOf, .ref a_shape_sizeOf, .ref a_shape_firstOf, .int s_shape_width, .int s_shape_height, .int s_shape_parts, .int s_shape_count, .ref a_shape_queue])), (a_shape_inside, .inl (ar 1, 256, .inl o_shape_inside))] [(0, .ref a_tape), (1, .ref a_shape), (2, .int o_x2), (3, .int o_x3), (4, .int x4)] []) (h : m_Head_readRuns_Eye_b57 fu rec x2 x3 x4 x5 s_shape_height s_shape_width s_shape_inside s_tape_ended s_tape_limit s_tape_place s_tape_bytes_row = some o) : WA p l e rm_Head_readRuns_Eye s m args below meth c D A 6 Q 57 [(a_tape, .inr (2, [.int s_tape_place, .int s_tape_ended, .int s_tape_limit, .ref a_tape_bytes])), (a_tape_bytes, .inr (1, [.int s_tape_bytes_count, .ref a_tape_bytes_row])), (a_tape_bytes_row, .inl (ar 2, 2400, .inl s_tape_bytes_row)), (a_shape, .inr (7, [.ref a_shape_inside, .ref a_shape_partOf, .ref a_shape_sizeOf, .ref a_shape_firstOf, .int s_shape_width, .int s_shape_height, .int s_shape_parts, .int s_shape_count, .ref a_shape_queue])), (a_shape_inside, .inl (ar 1, 256, .inl s_shape_inside))] [(0, .ref a_tape), (1, .ref a_shape), (2, .int x2), (3, .int x3), (4, .int x4), (5, .int x5)] [] := by
  intro H locs ls hP hD hS hl
  obtain ⟨hx, hb, hr, hml, hown, hts, hlocks, hA, hK, hZ⟩ := id C0
  unfold m_Head_readRuns_Eye_b57 at h
  refine lv_iload_n hx hb d_Head_readRuns_57 rfl (lv_at hl 3 rfl) ?_
  refine lv_iconst (v := (1 : Int32)) hx hb d_Head_readRuns_58 (by decide) ?_
  refine lv_icmp_ge (tgt := 64) hx hb d_Head_readRuns_59 (by decide) (fun c_8 => ?_) (fun c_8 => ?_)
  · have h := Eq.trans (if_pos c_8).symm h
    refine lv_aload_n hx hb d_Head_readRuns_64 rfl (lv_at hl 1 rfl) ?_
    refine va_get (D := D) (ci := 7) (v := .ref a_shape_inside) (C := R_Shape) (T := F_Shape) (N := 9) hx hb hts in_Shape hown hK hP 3 rfl rfl 0 (by decide) (hts _ k_72) (fun _ h9 => h9) rfl d_Head_readRuns_65 ?_
    refine lv_iload hx hb d_Head_readRuns_68 (lv_at hl 5 rfl) ?_
    refine lv_iload hx hb d_Head_readRuns_70 (lv_at hl 4 rfl) ?_
    obtain ⟨r_9, hcall, h⟩ := bn1_some h
    refine sd_i (wr := [(a_tape, .inr (2, [.int s_tape_place, .int s_tape_ended, .int s_tape_limit, .ref a_tape_bytes])), (a_tape_bytes, .inr (1, [.int s_tape_bytes_count, .ref a_tape_bytes_row])), (a_tape_bytes_row, .inl (ar 2, 2400, .inl s_tape_bytes_row)), (a_shape, .inr (7, [.ref a_shape_inside, .ref a_shape_partOf, .ref a_shape_sizeOf, .ref a_shape_firstOf, .int s_shape_width, .int s_shape_height, .int s_shape_parts, .int s_shape_count, .ref a_shape_queue])), (a_shape_inside, .inl (ar 1, 256, .inl s_shape_inside))]) (va_runSN (As := [.int x5, .int x4]) (rest := [.ref a_shape_inside]) ⟨hx, hb, hml, hown, hts⟩ (c_FW_sampleOf 0 x5 x4 hcall _) (cw_SN 2 hts (hZ.nw k_427 rfl) k_276 k_29 k_277 rfl rfl (by decide +kernel) ⟨Nat.le_of_ble_eq_true rfl, Nat.le_of_ble_eq_true rfl⟩) (sd_preS hK hP hD hS hA hZ [] (by decide) rfl) rfl rfl hl.1 rfl (lv_room (Nat.le_of_ble_eq_true rfl)) d_Head_readRuns_72 ⟨Nat.le_of_ble_eq_true rfl, Nat.le_of_ble_eq_true rfl⟩) hP hD hS hA [] [0, 1, 2, 3, 4] rfl rfl (by decide) (by decide) (fun H locs hP hD hS => ?_)
    have hP : va_P D vwCl [(a_tape, .inr (2, [.int s_tape_place, .int s_tape_ended, .int s_tape_limit, .ref a_tape_bytes])), (a_tape_bytes, .inr (1, [.int s_tape_bytes_count, .ref a_tape_bytes_row])), (a_tape_bytes_row, .inl (ar 2, 2400, .inl s_tape_bytes_row)), (a_shape, .inr (7, [.ref a_shape_inside, .ref a_shape_partOf, .ref a_shape_sizeOf, .ref a_shape_firstOf, .int s_shape_width, .int s_shape_height, .int s_shape_parts, .int s_shape_count, .ref a_shape_queue])), (a_shape_inside, .inl (ar 1, 256, .inl s_shape_inside))] H := hP
    have hD : va_D A [(a_tape, .inr (2, [.int s_tape_place, .int s_tape_ended, .int s_tape_limit, .ref a_tape_bytes])), (a_tape_bytes, .inr (1, [.int s_tape_bytes_count, .ref a_tape_bytes_row])), (a_tape_bytes_row, .inl (ar 2, 2400, .inl s_tape_bytes_row)), (a_shape, .inr (7, [.ref a_shape_inside, .ref a_shape_partOf, .ref a_shape_sizeOf, .ref a_shape_firstOf, .int s_shape_width, .int s_shape_height, .int s_shape_parts, .int s_shape_count, .ref a_shape_queue])), (a_shape_inside, .inl (ar 1, 256, .inl s_shape_inside))] := hD
    refine lv_iload_n hx hb d_Head_readRuns_75 rfl (lv_at hl 2 rfl) ?_
    obtain ⟨b_10, h⟩ := chk_some h
    refine va_zast hx hb hK hP hD hS 4 1 rfl rfl b_10 d_Head_readRuns_76 (fun H locs hP hD hS => ?_)
    have hP : va_P D vwCl [(a_tape, .inr (2, [.int s_tape_place, .int s_tape_ended, .int s_tape_limit, .ref a_tape_bytes])), (a_tape_bytes, .inr (1, [.int s_tape_bytes_count, .ref a_tape_bytes_row])), (a_tape_bytes_row, .inl (ar 2, 2400, .inl s_tape_bytes_row)), (a_shape, .inr (7, [.ref a_shape_inside, .ref a_shape_partOf, .ref a_shape_sizeOf, .ref a_shape_firstOf, .int s_shape_width, .int s_shape_height, .int s_shape_parts, .int s_shape_count, .ref a_shape_queue])), (a_shape_inside, .inl (ar 1, 256, .inl (upd s_shape_inside (r_9).toNatClampNeg (vp_nar .boolean x2))))] H := hP
    have hD : va_D A [(a_tape, .inr (2, [.int s_tape_place, .int s_tape_ended, .int s_tape_limit, .ref a_tape_bytes])), (a_tape_bytes, .inr (1, [.int s_tape_bytes_count, .ref a_tape_bytes_row])), (a_tape_bytes_row, .inl (ar 2, 2400, .inl s_tape_bytes_row)), (a_shape, .inr (7, [.ref a_shape_inside, .ref a_shape_partOf, .ref a_shape_sizeOf, .ref a_shape_firstOf, .int s_shape_width, .int s_shape_height, .int s_shape_parts, .int s_shape_count, .ref a_shape_queue])), (a_shape_inside, .inl (ar 1, 256, .inl (upd s_shape_inside (r_9).toNatClampNeg (vp_nar .boolean x2))))] := hD
    obtain ⟨x3_11, e_x3_11⟩ : ∃ y : Int32, y = x3 + (-1 : Int32) := ⟨_, rfl⟩
    have h := letB_at e_x3_11 h
    refine lv_iinc (v := x3_11) (lv' := [(3, .int x3_11), (0, .ref a_tape), (1, .ref a_shape), (2, .int x2), (4, .int x4), (5, .int x5)]) hx hb d_Head_readRuns_77 hl (k := 3) rfl (by rw [e_x3_11]; rfl) (by decide) rfl (fun ls hl => ?_)
    obtain ⟨x5_12, e_x5_12⟩ : ∃ y : Int32, y = x5 + (1 : Int32) := ⟨_, rfl⟩
    have h := letB_at e_x5_12 h
    refine lv_iinc (v := x5_12) (lv' := [(5, .int x5_12), (3, .int x3_11), (0, .ref a_tape), (1, .ref a_shape), (2, .int x2), (4, .int x4)]) hx hb d_Head_readRuns_80 hl (k := 5) rfl (by rw [e_x5_12]; rfl) (by decide) rfl (fun ls hl => ?_)
    refine lv_goto (tgt := 29) hx hb d_Head_readRuns_83 (by decide) ?_
    exact hrec x2 x3_11 x5_12 (upd s_shape_inside (r_9).toNatClampNeg (vp_nar .boolean x2)) s_tape_ended s_tape_place h _ _ _ hP hD hS (lv_sub hl [2, 3, 4, 1, 5, 0] rfl)
  · have h := Eq.trans (if_neg c_8).symm h
    cases h
    exact K1 _ _ _ rfl _ _ _ hP hD hS (lv_sub hl [] rfl)
def m_Head_readRuns_Eye_b56 (fu : Nat) (rec : Int32 → Int32 → Int32 → (Nat → Int32) → Int32 → Int32 → Option (((Nat → Int32) × Int32 × Int32) ⊕ (Int32 × Int32 × (Nat → Int32) × Int32 × Int32))) (x3 : Int32) (x4 : Int32) (x5 : Int32) (t0 : Int32) (s_shape_height : Int32) (s_shape_width : Int32) (s_shape_inside : Nat → Int32) (s_tape_ended : Int32) (s_tape_limit : Int32) (s_tape_place : Int32) (s_tape_bytes_row : Nat → Int32) : Option (((Nat → Int32) × Int32 × Int32) ⊕ (Int32 × Int32 × (Nat → Int32) × Int32 × Int32)) :=
  m_Head_readRuns_Eye_b57 fu rec t0 x3 x4 x5 s_shape_height s_shape_width s_shape_inside s_tape_ended s_tape_limit s_tape_place s_tape_bytes_row
set_option maxHeartbeats 4000000 in
set_option maxRecDepth 100000 in
theorem w_Head_readRuns_Eye_b56 {p : Program} {l : Launch} {e : Env} {s : State} {m : MethodId} {args : Array Value} {below : List Frame} {meth : Method} {c : Code} {D : va_G} {ar : Nat → ClassId} {A : Nat → Prop} {Q : State → Prop} {fu : Nat} {a_tape a_shape a_tape_bytes a_tape_bytes_row a_shape_inside a_shape_partOf a_shape_sizeOf a_shape_firstOf a_shape_queue : Nat} {s_tape_bytes_count : Int32} {s_shape_parts : Int32} {s_shape_count : Int32} {o : ((Nat → Int32) × Int32 × Int32) ⊕ (Int32 × Int32 × (Nat → Int32) × Int32 × Int32)} (C0 : CX p s m meth c args prog_4_method_5_code 6 (some .boolean) "FreeWavelets$Head" D ar A) (x3 : Int32) (x4 : Int32) (x5 : Int32) (t0 : Int32) (s_shape_height : Int32) (s_shape_width : Int32) (s_shape_inside : Nat → Int32) (s_tape_ended : Int32) (s_tape_limit : Int32) (s_tape_place : Int32) (s_tape_bytes_row : Nat → Int32) (rec : Int32 → Int32 → Int32 → (Nat → Int32) → Int32 → Int32 → Option (((Nat → Int32) × Int32 × Int32) ⊕ (Int32 × Int32 × (Nat → Int32) × Int32 × Int32))) (hrec : ∀ (x2 : Int32) (x3 : Int32) (x5 : Int32) (s_shape_inside : Nat → Int32) (s_tape_ended : Int32) (s_tape_place : Int32), rec x2 x3 x5 s_shape_inside s_tape_ended s_tape_place = some o → WA p l e rm_Head_readRuns_Eye s m args below meth c D A 6 Q 29 [(a_tape, .inr (2, [.int s_tape_place, .int s_tape_ended, .int s_tape_limit, .ref a_tape_bytes])), (a_tape_bytes, .inr (1, [.int s_tape_bytes_count, .ref a_tape_bytes_row])), (a_tape_bytes_row, .inl (ar 2, 2400, .inl s_tape_bytes_row)), (a_shape, .inr (7, [.ref a_shape_inside, .ref a_shape_partOf, .ref a_shape_sizeOf, .ref a_shape_firstOf, .int s_shape_width, .int s_shape_height, .int s_shape_parts, .int s_shape_count, .ref a_shape_queue])), (a_shape_inside, .inl (ar 1, 256, .inl s_shape_inside))] [(0, .ref a_tape), (1, .ref a_shape), (2, .int x2), (3, .int x3), (4, .int x4), (5, .int x5)] []) (K1 : ∀ (o_shape_inside : Nat → Int32) (o_tape_ended : Int32) (o_tape_place : Int32), o = (Sum.inl (o_shape_inside, o_tape_ended, o_tape_place)) → WA p l e rm_Head_readRuns_Eye s m args below meth c D A 6 Q 62 [(a_tape, .inr (2, [.int o_tape_place, .int o_tape_ended, .int s_tape_limit, .ref a_tape_bytes])), (a_tape_bytes, .inr (1, [.int s_tape_bytes_count, .ref a_tape_bytes_row])), (a_tape_bytes_row, .inl (ar 2, 2400, .inl s_tape_bytes_row)), (a_shape, .inr (7, [.ref a_shape_inside, .ref a_shape_partOf, .ref a_shape_sizeOf, .ref a_shape_firstOf, .int s_shape_width, .int s_shape_height, .int s_shape_parts, .int s_shape_count, .ref a_shape_queue])), (a_shape_inside, .inl (ar 1, 256, .inl o_shape_inside))] [] []) (K2 : ∀ (o_x2 : Int32) (o_x3 : Int32) (o_shape_inside : Nat → Int32) (o_tape_ended : Int32) (o_tape_place : Int32), o = (Sum.inr (o_x2, o_x3, o_shape_inside, o_tape_ended, o_tape_place)) → WA p l e rm_Head_readRuns_Eye s m args below meth c D A 6 Q 86 [(a_tape, .inr (2, [.int o_tape_place, .int o_tape_ended, .int s_tape_limit, .ref a_tape_bytes])), (a_tape_bytes, .inr (1, [.int s_tape_bytes_count, .ref a_tape_bytes_row])), (a_tape_bytes_row, .inl (ar 2, 2400, .inl s_tape_bytes_row)), (a_shape, .inr (7, [.ref a_shape_inside, .ref a_shape_partOf, .ref a_shape_sizeOf, .ref a_shape_firstOf, .int s_shape_width, .int s_shape_height, .int s_shape_parts, .int s_shape_count, .ref a_shape_queue])), (a_shape_inside, .inl (ar 1, 256, .inl o_shape_inside))] [(0, .ref a_tape), (1, .ref a_shape), (2, .int o_x2), (3, .int o_x3), (4, .int x4)] []) (h : m_Head_readRuns_Eye_b56 fu rec x3 x4 x5 t0 s_shape_height s_shape_width s_shape_inside s_tape_ended s_tape_limit s_tape_place s_tape_bytes_row = some o) : WA p l e rm_Head_readRuns_Eye s m args below meth c D A 6 Q 56 [(a_tape, .inr (2, [.int s_tape_place, .int s_tape_ended, .int s_tape_limit, .ref a_tape_bytes])), (a_tape_bytes, .inr (1, [.int s_tape_bytes_count, .ref a_tape_bytes_row])), (a_tape_bytes_row, .inl (ar 2, 2400, .inl s_tape_bytes_row)), (a_shape, .inr (7, [.ref a_shape_inside, .ref a_shape_partOf, .ref a_shape_sizeOf, .ref a_shape_firstOf, .int s_shape_width, .int s_shape_height, .int s_shape_parts, .int s_shape_count, .ref a_shape_queue])), (a_shape_inside, .inl (ar 1, 256, .inl s_shape_inside))] [(0, .ref a_tape), (1, .ref a_shape), (3, .int x3), (4, .int x4), (5, .int x5)] [.int t0] := by
  intro H locs ls hP hD hS hl
  obtain ⟨hx, hb, hr, hml, hown, hts, hlocks, hA, hK, hZ⟩ := id C0
  unfold m_Head_readRuns_Eye_b56 at h
  refine lv_istore_n (lv' := [(2, .int t0), (0, .ref a_tape), (1, .ref a_shape), (3, .int x3), (4, .int x4), (5, .int x5)]) hx hb d_Head_readRuns_56 rfl hl (by decide) rfl (fun ls hl => ?_)
  exact w_Head_readRuns_Eye_b57 C0 t0 x3 x4 x5 s_shape_height s_shape_width s_shape_inside s_tape_ended s_tape_limit s_tape_place s_tape_bytes_row _ hrec K1 K2 h _ _ _ hP hD hS (lv_sub hl [1, 2, 0, 3, 4, 5] rfl)
def m_Head_readRuns_Eye_k29 (fu : Nat) (x4 : Int32) (s_shape_height : Int32) (s_shape_width : Int32) (s_tape_limit : Int32) (s_tape_bytes_row : Nat → Int32) (rec : Int32 → Int32 → Int32 → (Nat → Int32) → Int32 → Int32 → Option (((Nat → Int32) × Int32 × Int32) ⊕ (Int32 × Int32 × (Nat → Int32) × Int32 × Int32))) (x2 : Int32) (x3 : Int32) (x5 : Int32) (s_shape_inside : Nat → Int32) (s_tape_ended : Int32) (s_tape_place : Int32) : Option (((Nat → Int32) × Int32 × Int32) ⊕ (Int32 × Int32 × (Nat → Int32) × Int32 × Int32)) :=
  if s_shape_width ≤ x5 then (some (Sum.inr (x2, x3, s_shape_inside, s_tape_ended, s_tape_place))) else (if x3 = (0 : Int32) then (bn3 (m_Head_readRun_Eye fu s_tape_ended s_tape_limit s_tape_place s_tape_bytes_row) (fun r_13 s_tape_ended_14 s_tape_place_15 => if x2 = (0 : Int32) then (m_Head_readRuns_Eye_b56 fu rec r_13 x4 x5 (1 : Int32) s_shape_height s_shape_width s_shape_inside s_tape_ended_14 s_tape_limit s_tape_place_15 s_tape_bytes_row) else (m_Head_readRuns_Eye_b56 fu rec r_13 x4 x5 (0 : Int32) s_shape_height s_shape_width s_shape_inside s_tape_ended_14 s_tape_limit s_tape_place_15 s_tape_bytes_row))) else (m_Head_readRuns_Eye_b57 fu rec x2 x3 x4 x5 s_shape_height s_shape_width s_shape_inside s_tape_ended s_tape_limit s_tape_place s_tape_bytes_row))
set_option maxHeartbeats 4000000 in
set_option maxRecDepth 100000 in
theorem w_Head_readRuns_Eye_l29 {p : Program} {l : Launch} {e : Env} {s : State} {m : MethodId} {args : Array Value} {below : List Frame} {meth : Method} {c : Code} {D : va_G} {ar : Nat → ClassId} {A : Nat → Prop} {Q : State → Prop} {fu : Nat} {a_tape a_shape a_tape_bytes a_tape_bytes_row a_shape_inside a_shape_partOf a_shape_sizeOf a_shape_firstOf a_shape_queue : Nat} {s_tape_bytes_count : Int32} {s_shape_parts : Int32} {s_shape_count : Int32} (C0 : CX p s m meth c args prog_4_method_5_code 6 (some .boolean) "FreeWavelets$Head" D ar A) (x4 : Int32) (s_shape_height : Int32) (s_shape_width : Int32) (s_tape_limit : Int32) (s_tape_bytes_row : Nat → Int32) : ∀ (n : Nat) (x2 : Int32) (x3 : Int32) (x5 : Int32) (s_shape_inside : Nat → Int32) (s_tape_ended : Int32) (s_tape_place : Int32) (o : ((Nat → Int32) × Int32 × Int32) ⊕ (Int32 × Int32 × (Nat → Int32) × Int32 × Int32)), loop6 (m_Head_readRuns_Eye_k29 fu x4 s_shape_height s_shape_width s_tape_limit s_tape_bytes_row) n x2 x3 x5 s_shape_inside s_tape_ended s_tape_place = some o → (∀ (o_shape_inside : Nat → Int32) (o_tape_ended : Int32) (o_tape_place : Int32), o = (Sum.inl (o_shape_inside, o_tape_ended, o_tape_place)) → WA p l e rm_Head_readRuns_Eye s m args below meth c D A 6 Q 62 [(a_tape, .inr (2, [.int o_tape_place, .int o_tape_ended, .int s_tape_limit, .ref a_tape_bytes])), (a_tape_bytes, .inr (1, [.int s_tape_bytes_count, .ref a_tape_bytes_row])), (a_tape_bytes_row, .inl (ar 2, 2400, .inl s_tape_bytes_row)), (a_shape, .inr (7, [.ref a_shape_inside, .ref a_shape_partOf, .ref a_shape_sizeOf, .ref a_shape_firstOf, .int s_shape_width, .int s_shape_height, .int s_shape_parts, .int s_shape_count, .ref a_shape_queue])), (a_shape_inside, .inl (ar 1, 256, .inl o_shape_inside))] [] []) → (∀ (o_x2 : Int32) (o_x3 : Int32) (o_shape_inside : Nat → Int32) (o_tape_ended : Int32) (o_tape_place : Int32), o = (Sum.inr (o_x2, o_x3, o_shape_inside, o_tape_ended, o_tape_place)) → WA p l e rm_Head_readRuns_Eye s m args below meth c D A 6 Q 86 [(a_tape, .inr (2, [.int o_tape_place, .int o_tape_ended, .int s_tape_limit, .ref a_tape_bytes])), (a_tape_bytes, .inr (1, [.int s_tape_bytes_count, .ref a_tape_bytes_row])), (a_tape_bytes_row, .inl (ar 2, 2400, .inl s_tape_bytes_row)), (a_shape, .inr (7, [.ref a_shape_inside, .ref a_shape_partOf, .ref a_shape_sizeOf, .ref a_shape_firstOf, .int s_shape_width, .int s_shape_height, .int s_shape_parts, .int s_shape_count, .ref a_shape_queue])), (a_shape_inside, .inl (ar 1, 256, .inl o_shape_inside))] [(0, .ref a_tape), (1, .ref a_shape), (2, .int o_x2), (3, .int o_x3), (4, .int x4)] []) → WA p l e rm_Head_readRuns_Eye s m args below meth c D A 6 Q 29 [(a_tape, .inr (2, [.int s_tape_place, .int s_tape_ended, .int s_tape_limit, .ref a_tape_bytes])), (a_tape_bytes, .inr (1, [.int s_tape_bytes_count, .ref a_tape_bytes_row])), (a_tape_bytes_row, .inl (ar 2, 2400, .inl s_tape_bytes_row)), (a_shape, .inr (7, [.ref a_shape_inside, .ref a_shape_partOf, .ref a_shape_sizeOf, .ref a_shape_firstOf, .int s_shape_width, .int s_shape_height, .int s_shape_parts, .int s_shape_count, .ref a_shape_queue])), (a_shape_inside, .inl (ar 1, 256, .inl s_shape_inside))] [(0, .ref a_tape), (1, .ref a_shape), (2, .int x2), (3, .int x3), (4, .int x4), (5, .int x5)] [] := by
  intro n
  induction n with
  | zero => intro x2 x3 x5 s_shape_inside s_tape_ended s_tape_place o h; exact (no0 h).elim
  | succ n ih =>
    intro x2 x3 x5 s_shape_inside s_tape_ended s_tape_place o h K1 K2
    have hrec : ∀ (x2 : Int32) (x3 : Int32) (x5 : Int32) (s_shape_inside : Nat → Int32) (s_tape_ended : Int32) (s_tape_place : Int32), loop6 (m_Head_readRuns_Eye_k29 fu x4 s_shape_height s_shape_width s_tape_limit s_tape_bytes_row) n x2 x3 x5 s_shape_inside s_tape_ended s_tape_place = some o → WA p l e rm_Head_readRuns_Eye s m args below meth c D A 6 Q 29 [(a_tape, .inr (2, [.int s_tape_place, .int s_tape_ended, .int s_tape_limit, .ref a_tape_bytes])), (a_tape_bytes, .inr (1, [.int s_tape_bytes_count, .ref a_tape_bytes_row])), (a_tape_bytes_row, .inl (ar 2, 2400, .inl s_tape_bytes_row)), (a_shape, .inr (7, [.ref a_shape_inside, .ref a_shape_partOf, .ref a_shape_sizeOf, .ref a_shape_firstOf, .int s_shape_width, .int s_shape_height, .int s_shape_parts, .int s_shape_count, .ref a_shape_queue])), (a_shape_inside, .inl (ar 1, 256, .inl s_shape_inside))] [(0, .ref a_tape), (1, .ref a_shape), (2, .int x2), (3, .int x3), (4, .int x4), (5, .int x5)] [] := fun x2 x3 x5 s_shape_inside s_tape_ended s_tape_place h => ih x2 x3 x5 s_shape_inside s_tape_ended s_tape_place o h K1 K2
    clear ih
    intro H locs ls hP hD hS hl
    obtain ⟨hx, hb, hr, hml, hown, hts, hlocks, hA, hK, hZ⟩ := id C0
    have h : m_Head_readRuns_Eye_k29 fu x4 s_shape_height s_shape_width s_tape_limit s_tape_bytes_row (loop6 (m_Head_readRuns_Eye_k29 fu x4 s_shape_height s_shape_width s_tape_limit s_tape_bytes_row) n) x2 x3 x5 s_shape_inside s_tape_ended s_tape_place = some o := h
    unfold m_Head_readRuns_Eye_k29 at h
    refine lv_iload hx hb d_Head_readRuns_29 (lv_at hl 5 rfl) ?_
    refine lv_aload_n hx hb d_Head_readRuns_31 rfl (lv_at hl 1 rfl) ?_
    refine va_get (D := D) (ci := 7) (v := .int s_shape_width) (C := R_Shape) (T := F_Shape) (N := 9) hx hb hts in_Shape hown hK hP 3 rfl rfl 4 (by decide) (hts _ k_83) (fun _ h9 => h9) rfl d_Head_readRuns_32 ?_
    refine lv_icmp_ge (tgt := 86) hx hb d_Head_readRuns_35 (by decide) (fun c_6 => ?_) (fun c_6 => ?_)
    · have h := Eq.trans (if_pos c_6).symm h
      cases h
      exact K2 _ _ _ _ _ rfl _ _ _ hP hD hS (lv_sub hl [0, 1, 2, 3, 4] rfl)
    · have h := Eq.trans (if_neg c_6).symm h
      refine lv_iload_n hx hb d_Head_readRuns_38 rfl (lv_at hl 3 rfl) ?_
      refine lv_if_ne (tgt := 57) hx hb d_Head_readRuns_39 (by decide) (fun c_7 => ?_) (fun c_7 => ?_)
      · have h := Eq.trans (if_neg c_7).symm h
        exact w_Head_readRuns_Eye_b57 C0 x2 x3 x4 x5 s_shape_height s_shape_width s_shape_inside s_tape_ended s_tape_limit s_tape_place s_tape_bytes_row _ hrec K1 K2 h _ _ _ hP hD hS hl
      · have h := Eq.trans (if_pos c_7).symm h
        refine lv_aload_n hx hb d_Head_readRuns_42 rfl (lv_at hl 0 rfl) ?_
        obtain ⟨r_13, s_tape_ended_14, s_tape_place_15, hcall, h⟩ := bn3_some h
        refine sd_i (wr := [(a_shape, .inr (7, [.ref a_shape_inside, .ref a_shape_partOf, .ref a_shape_sizeOf, .ref a_shape_firstOf, .int s_shape_width, .int s_shape_height, .int s_shape_parts, .int s_shape_count, .ref a_shape_queue])), (a_shape_inside, .inl (ar 1, 256, .inl s_shape_inside))]) (va_runS (As := [.ref a_tape]) (rest := []) ⟨hx, hb, hml, hown, hts⟩ (c_Head_readRun_Eye a_tape a_tape_bytes a_tape_bytes_row s_tape_bytes_count s_tape_ended s_tape_limit s_tape_place s_tape_bytes_row hcall _) (cw_S 1 hts k_717 k_718 k_47 k_719 rfl rfl (by decide +kernel) ⟨Nat.le_of_ble_eq_true rfl, Nat.le_of_ble_eq_true rfl⟩) (sd_preS hK hP hD hS hA hZ [0, 1, 2] (by decide) rfl) rfl rfl hl.1 rfl (lv_room (Nat.le_of_ble_eq_true rfl)) d_Head_readRuns_43 ⟨Nat.le_of_ble_eq_true rfl, Nat.le_of_ble_eq_true rfl⟩) hP hD hS hA [0, 1, 2] [3, 4] rfl rfl (by decide) (by decide) (fun H locs hP hD hS => ?_)
        have hP : va_P D vwCl [(a_shape, .inr (7, [.ref a_shape_inside, .ref a_shape_partOf, .ref a_shape_sizeOf, .ref a_shape_firstOf, .int s_shape_width, .int s_shape_height, .int s_shape_parts, .int s_shape_count, .ref a_shape_queue])), (a_shape_inside, .inl (ar 1, 256, .inl s_shape_inside)), (a_tape, .inr (2, [.int s_tape_place_15, .int s_tape_ended_14, .int s_tape_limit, .ref a_tape_bytes])), (a_tape_bytes, .inr (1, [.int s_tape_bytes_count, .ref a_tape_bytes_row])), (a_tape_bytes_row, .inl (ar 2, 2400, .inl s_tape_bytes_row))] H := hP
        have hD : va_D A [(a_shape, .inr (7, [.ref a_shape_inside, .ref a_shape_partOf, .ref a_shape_sizeOf, .ref a_shape_firstOf, .int s_shape_width, .int s_shape_height, .int s_shape_parts, .int s_shape_count, .ref a_shape_queue])), (a_shape_inside, .inl (ar 1, 256, .inl s_shape_inside)), (a_tape, .inr (2, [.int s_tape_place_15, .int s_tape_ended_14, .int s_tape_limit, .ref a_tape_bytes])), (a_tape_bytes, .inr (1, [.int s_tape_bytes_count, .ref a_tape_bytes_row])), (a_tape_bytes_row, .inl (ar 2, 2400, .inl s_tape_bytes_row))] := hD
        refine lv_istore_n (lv' := [(3, .int r_13), (0, .ref a_tape), (1, .ref a_shape), (2, .int x2), (4, .int x4), (5, .int x5)]) hx hb d_Head_readRuns_46 rfl hl (by decide) rfl (fun ls hl => ?_)
        refine lv_iload_n hx hb d_Head_readRuns_47 rfl (lv_at hl 3 rfl) ?_
        refine lv_if_ne (tgt := 55) hx hb d_Head_readRuns_48 (by decide) (fun c_16 => ?_) (fun c_16 => ?_)
        · have h := Eq.trans (if_neg c_16).symm h
          refine lv_iconst (v := (0 : Int32)) hx hb d_Head_readRuns_55 (by decide) ?_
          exact w_Head_readRuns_Eye_b56 C0 r_13 x4 x5 (0 : Int32) s_shape_height s_shape_width s_shape_inside s_tape_ended_14 s_tape_limit s_tape_place_15 s_tape_bytes_row _ hrec K1 K2 h _ _ _ (hP.sub [2, 3, 4, 0, 1] rfl) (hD.sub [2, 3, 4, 0, 1] (by decide) rfl) hS (lv_sub hl [1, 2, 0, 4, 5] rfl)
        · have h := Eq.trans (if_pos c_16).symm h
          refine lv_iconst (v := (1 : Int32)) hx hb d_Head_readRuns_51 (by decide) ?_
          refine lv_goto (tgt := 56) hx hb d_Head_readRuns_52 (by decide) ?_
          exact w_Head_readRuns_Eye_b56 C0 r_13 x4 x5 (1 : Int32) s_shape_height s_shape_width s_shape_inside s_tape_ended_14 s_tape_limit s_tape_place_15 s_tape_bytes_row _ hrec K1 K2 h _ _ _ (hP.sub [2, 3, 4, 0, 1] rfl) (hD.sub [2, 3, 4, 0, 1] (by decide) rfl) hS (lv_sub hl [1, 2, 0, 4, 5] rfl)
def m_Head_readRuns_Eye_k17 (fu : Nat) (s_shape_height : Int32) (s_shape_width : Int32) (s_tape_limit : Int32) (s_tape_bytes_row : Nat → Int32) (rec : Int32 → Int32 → Int32 → (Nat → Int32) → Int32 → Int32 → Option (((Nat → Int32) × Int32 × Int32) ⊕ (Int32 × (Nat → Int32) × Int32 × Int32))) (x2 : Int32) (x3 : Int32) (x4 : Int32) (s_shape_inside : Nat → Int32) (s_tape_ended : Int32) (s_tape_place : Int32) : Option (((Nat → Int32) × Int32 × Int32) ⊕ (Int32 × (Nat → Int32) × Int32 × Int32)) :=
  if s_shape_height ≤ x4 then (some (Sum.inr (x3, s_shape_inside, s_tape_ended, s_tape_place))) else (sm2 (loop6 (m_Head_readRuns_Eye_k29 fu x4 s_shape_height s_shape_width s_tape_limit s_tape_bytes_row) fu x2 x3 (0 : Int32) s_shape_inside s_tape_ended s_tape_place) (fun u => un3 u (fun o_shape_inside_17 o_tape_ended_18 o_tape_place_19 => some (Sum.inl (o_shape_inside_17, o_tape_ended_18, o_tape_place_19)))) (fun u => un5 u (fun o_x2_20 o_x3_21 o_shape_inside_22 o_tape_ended_23 o_tape_place_24 => letB (x4 + (1 : Int32)) (fun x4_25 => rec o_x2_20 o_x3_21 x4_25 o_shape_inside_22 o_tape_ended_23 o_tape_place_24))))
set_option maxHeartbeats 4000000 in
set_option maxRecDepth 100000 in
theorem w_Head_readRuns_Eye_l17 {p : Program} {l : Launch} {e : Env} {s : State} {m : MethodId} {args : Array Value} {below : List Frame} {meth : Method} {c : Code} {D : va_G} {ar : Nat → ClassId} {A : Nat → Prop} {Q : State → Prop} {fu : Nat} {a_tape a_shape a_tape_bytes a_tape_bytes_row a_shape_inside a_shape_partOf a_shape_sizeOf a_shape_firstOf a_shape_queue : Nat} {s_tape_bytes_count : Int32} {s_shape_parts : Int32} {s_shape_count : Int32} (C0 : CX p s m meth c args prog_4_method_5_code 6 (some .boolean) "FreeWavelets$Head" D ar A) (s_shape_height : Int32) (s_shape_width : Int32) (s_tape_limit : Int32) (s_tape_bytes_row : Nat → Int32) : ∀ (n : Nat) (x2 : Int32) (x3 : Int32) (x4 : Int32) (s_shape_inside : Nat → Int32) (s_tape_ended : Int32) (s_tape_place : Int32) (o : ((Nat → Int32) × Int32 × Int32) ⊕ (Int32 × (Nat → Int32) × Int32 × Int32)), loop6 (m_Head_readRuns_Eye_k17 fu s_shape_height s_shape_width s_tape_limit s_tape_bytes_row) n x2 x3 x4 s_shape_inside s_tape_ended s_tape_place = some o → (∀ (o_shape_inside : Nat → Int32) (o_tape_ended : Int32) (o_tape_place : Int32), o = (Sum.inl (o_shape_inside, o_tape_ended, o_tape_place)) → WA p l e rm_Head_readRuns_Eye s m args below meth c D A 6 Q 62 [(a_tape, .inr (2, [.int o_tape_place, .int o_tape_ended, .int s_tape_limit, .ref a_tape_bytes])), (a_tape_bytes, .inr (1, [.int s_tape_bytes_count, .ref a_tape_bytes_row])), (a_tape_bytes_row, .inl (ar 2, 2400, .inl s_tape_bytes_row)), (a_shape, .inr (7, [.ref a_shape_inside, .ref a_shape_partOf, .ref a_shape_sizeOf, .ref a_shape_firstOf, .int s_shape_width, .int s_shape_height, .int s_shape_parts, .int s_shape_count, .ref a_shape_queue])), (a_shape_inside, .inl (ar 1, 256, .inl o_shape_inside))] [] []) → (∀ (o_x3 : Int32) (o_shape_inside : Nat → Int32) (o_tape_ended : Int32) (o_tape_place : Int32), o = (Sum.inr (o_x3, o_shape_inside, o_tape_ended, o_tape_place)) → WA p l e rm_Head_readRuns_Eye s m args below meth c D A 6 Q 92 [(a_tape, .inr (2, [.int o_tape_place, .int o_tape_ended, .int s_tape_limit, .ref a_tape_bytes])), (a_tape_bytes, .inr (1, [.int s_tape_bytes_count, .ref a_tape_bytes_row])), (a_tape_bytes_row, .inl (ar 2, 2400, .inl s_tape_bytes_row)), (a_shape, .inr (7, [.ref a_shape_inside, .ref a_shape_partOf, .ref a_shape_sizeOf, .ref a_shape_firstOf, .int s_shape_width, .int s_shape_height, .int s_shape_parts, .int s_shape_count, .ref a_shape_queue])), (a_shape_inside, .inl (ar 1, 256, .inl o_shape_inside))] [(3, .int o_x3)] []) → WA p l e rm_Head_readRuns_Eye s m args below meth c D A 6 Q 17 [(a_tape, .inr (2, [.int s_tape_place, .int s_tape_ended, .int s_tape_limit, .ref a_tape_bytes])), (a_tape_bytes, .inr (1, [.int s_tape_bytes_count, .ref a_tape_bytes_row])), (a_tape_bytes_row, .inl (ar 2, 2400, .inl s_tape_bytes_row)), (a_shape, .inr (7, [.ref a_shape_inside, .ref a_shape_partOf, .ref a_shape_sizeOf, .ref a_shape_firstOf, .int s_shape_width, .int s_shape_height, .int s_shape_parts, .int s_shape_count, .ref a_shape_queue])), (a_shape_inside, .inl (ar 1, 256, .inl s_shape_inside))] [(0, .ref a_tape), (1, .ref a_shape), (2, .int x2), (3, .int x3), (4, .int x4)] [] := by
  intro n
  induction n with
  | zero => intro x2 x3 x4 s_shape_inside s_tape_ended s_tape_place o h; exact (no0 h).elim
  | succ n ih =>
    intro x2 x3 x4 s_shape_inside s_tape_ended s_tape_place o h K1 K2
    have hrec : ∀ (x2 : Int32) (x3 : Int32) (x4 : Int32) (s_shape_inside : Nat → Int32) (s_tape_ended : Int32) (s_tape_place : Int32), loop6 (m_Head_readRuns_Eye_k17 fu s_shape_height s_shape_width s_tape_limit s_tape_bytes_row) n x2 x3 x4 s_shape_inside s_tape_ended s_tape_place = some o → WA p l e rm_Head_readRuns_Eye s m args below meth c D A 6 Q 17 [(a_tape, .inr (2, [.int s_tape_place, .int s_tape_ended, .int s_tape_limit, .ref a_tape_bytes])), (a_tape_bytes, .inr (1, [.int s_tape_bytes_count, .ref a_tape_bytes_row])), (a_tape_bytes_row, .inl (ar 2, 2400, .inl s_tape_bytes_row)), (a_shape, .inr (7, [.ref a_shape_inside, .ref a_shape_partOf, .ref a_shape_sizeOf, .ref a_shape_firstOf, .int s_shape_width, .int s_shape_height, .int s_shape_parts, .int s_shape_count, .ref a_shape_queue])), (a_shape_inside, .inl (ar 1, 256, .inl s_shape_inside))] [(0, .ref a_tape), (1, .ref a_shape), (2, .int x2), (3, .int x3), (4, .int x4)] [] := fun x2 x3 x4 s_shape_inside s_tape_ended s_tape_place h => ih x2 x3 x4 s_shape_inside s_tape_ended s_tape_place o h K1 K2
    clear ih
    intro H locs ls hP hD hS hl
    obtain ⟨hx, hb, hr, hml, hown, hts, hlocks, hA, hK, hZ⟩ := id C0
    have h : m_Head_readRuns_Eye_k17 fu s_shape_height s_shape_width s_tape_limit s_tape_bytes_row (loop6 (m_Head_readRuns_Eye_k17 fu s_shape_height s_shape_width s_tape_limit s_tape_bytes_row) n) x2 x3 x4 s_shape_inside s_tape_ended s_tape_place = some o := h
    unfold m_Head_readRuns_Eye_k17 at h
    refine lv_iload hx hb d_Head_readRuns_17 (lv_at hl 4 rfl) ?_
    refine lv_aload_n hx hb d_Head_readRuns_19 rfl (lv_at hl 1 rfl) ?_
    refine va_get (D := D) (ci := 7) (v := .int s_shape_height) (C := R_Shape) (T := F_Shape) (N := 9) hx hb hts in_Shape hown hK hP 3 rfl rfl 5 (by decide) (hts _ k_87) (fun _ h9 => h9) rfl d_Head_readRuns_20 ?_
    refine lv_icmp_ge (tgt := 92) hx hb d_Head_readRuns_23 (by decide) (fun c_5 => ?_) (fun c_5 => ?_)
    · have h := Eq.trans (if_pos c_5).symm h
      cases h
      exact K2 _ _ _ _ rfl _ _ _ hP hD hS (lv_sub hl [3] rfl)
    · have h := Eq.trans (if_neg c_5).symm h
      refine lv_iconst (v := (0 : Int32)) hx hb d_Head_readRuns_26 (by decide) ?_
      refine lv_istore (lv' := [(5, .int (0 : Int32)), (0, .ref a_tape), (1, .ref a_shape), (2, .int x2), (3, .int x3), (4, .int x4)]) hx hb d_Head_readRuns_27 hl (by decide) rfl (fun ls hl => ?_)
      obtain ⟨o, hloop, h⟩ := sm2_some h
      refine w_Head_readRuns_Eye_l29 C0 x4 s_shape_height s_shape_width s_tape_limit s_tape_bytes_row fu x2 x3 (0 : Int32) s_shape_inside s_tape_ended s_tape_place o hloop ?_ ?_ _ _ _ hP hD hS (lv_sub hl [1, 2, 3, 4, 5, 0] rfl)
      · clear hP hD hS hl
        intro o_shape_inside_17 o_tape_ended_18 o_tape_place_19 eo H locs ls hP hD hS hl
        subst eo
        have h := sl2_1 h
        have h := un3_at h
        cases h
        exact K1 _ _ _ rfl _ _ _ hP hD hS hl
      · clear hP hD hS hl
        intro o_x2_20 o_x3_21 o_shape_inside_22 o_tape_ended_23 o_tape_place_24 eo H locs ls hP hD hS hl
        subst eo
        have h := sl2_2 h
        have h := un5_at h
        obtain ⟨x4_25, e_x4_25⟩ : ∃ y : Int32, y = x4 + (1 : Int32) := ⟨_, rfl⟩
        have h := letB_at e_x4_25 h
        refine lv_iinc (v := x4_25) (lv' := [(4, .int x4_25), (0, .ref a_tape), (1, .ref a_shape), (2, .int o_x2_20), (3, .int o_x3_21)]) hx hb d_Head_readRuns_86 hl (k := 4) rfl (by rw [e_x4_25]; rfl) (by decide) rfl (fun ls hl => ?_)
        refine lv_goto (tgt := 17) hx hb d_Head_readRuns_89 (by decide) ?_
        exact hrec o_x2_20 o_x3_21 x4_25 o_shape_inside_22 o_tape_ended_23 o_tape_place_24 h _ _ _ hP hD hS (lv_sub hl [1, 2, 3, 4, 0] rfl)
def m_Head_readRuns_Eye_b101 (fu : Nat) (t0 : Int32) (s_shape_height : Int32) (s_shape_width : Int32) (s_shape_inside : Nat → Int32) (s_tape_ended : Int32) (s_tape_limit : Int32) (s_tape_place : Int32) (s_tape_bytes_row : Nat → Int32) : Option (Int32 × (Nat → Int32) × Int32 × Int32) :=
  chkB t0 (some (t0, s_shape_inside, s_tape_ended, s_tape_place))
set_option maxHeartbeats 4000000 in
set_option maxRecDepth 100000 in
theorem w_Head_readRuns_Eye_b101 {p : Program} {l : Launch} {e : Env} {s : State} {m : MethodId} {args : Array Value} {below : List Frame} {meth : Method} {c : Code} {D : va_G} {ar : Nat → ClassId} {A : Nat → Prop} {fu : Nat} {a_tape a_shape a_tape_bytes a_tape_bytes_row a_shape_inside a_shape_partOf a_shape_sizeOf a_shape_firstOf a_shape_queue : Nat} {s_tape_bytes_count : Int32} {s_shape_parts : Int32} {s_shape_count : Int32} {r_v : Int32} {r_shape_inside : Nat → Int32} {r_tape_ended : Int32} {r_tape_place : Int32} (C0 : CX p s m meth c args prog_4_method_5_code 6 (some .boolean) "FreeWavelets$Head" D ar A) (t0 : Int32) (s_shape_height : Int32) (s_shape_width : Int32) (s_shape_inside : Nat → Int32) (s_tape_ended : Int32) (s_tape_limit : Int32) (s_tape_place : Int32) (s_tape_bytes_row : Nat → Int32) (h : m_Head_readRuns_Eye_b101 fu t0 s_shape_height s_shape_width s_shape_inside s_tape_ended s_tape_limit s_tape_place s_tape_bytes_row = some (r_v, r_shape_inside, r_tape_ended, r_tape_place)) : WA p l e rm_Head_readRuns_Eye s m args below meth c D A 6 (MQ below (QI D ar [(a_tape, .inr (2, [.int r_tape_place, .int r_tape_ended, .int s_tape_limit, .ref a_tape_bytes])), (a_tape_bytes, .inr (1, [.int s_tape_bytes_count, .ref a_tape_bytes_row])), (a_tape_bytes_row, .inl (ar 2, 2400, .inl s_tape_bytes_row)), (a_shape, .inr (7, [.ref a_shape_inside, .ref a_shape_partOf, .ref a_shape_sizeOf, .ref a_shape_firstOf, .int s_shape_width, .int s_shape_height, .int s_shape_parts, .int s_shape_count, .ref a_shape_queue])), (a_shape_inside, .inl (ar 1, 256, .inl r_shape_inside))] r_v A) args s 0 0 A) 101 [(a_tape, .inr (2, [.int s_tape_place, .int s_tape_ended, .int s_tape_limit, .ref a_tape_bytes])), (a_tape_bytes, .inr (1, [.int s_tape_bytes_count, .ref a_tape_bytes_row])), (a_tape_bytes_row, .inl (ar 2, 2400, .inl s_tape_bytes_row)), (a_shape, .inr (7, [.ref a_shape_inside, .ref a_shape_partOf, .ref a_shape_sizeOf, .ref a_shape_firstOf, .int s_shape_width, .int s_shape_height, .int s_shape_parts, .int s_shape_count, .ref a_shape_queue])), (a_shape_inside, .inl (ar 1, 256, .inl s_shape_inside))] [] [.int t0] := by
  intro H locs ls hP hD hS hl
  obtain ⟨hx, hb, hr, hml, hown, hts, hlocks, hA, hK, hZ⟩ := id C0
  unfold m_Head_readRuns_Eye_b101 at h
  obtain ⟨b_34, h⟩ := chkB_some h
  cases h
  exact sd_zret (nar_z b_34) hx hb hr hlocks hP hD hK hS d_Head_readRuns_101
def m_Head_readRuns_Eye (fu : Nat) (s_shape_height : Int32) (s_shape_width : Int32) (s_shape_inside : Nat → Int32) (s_tape_ended : Int32) (s_tape_limit : Int32) (s_tape_place : Int32) (s_tape_bytes_row : Nat → Int32) : Option (Int32 × (Nat → Int32) × Int32 × Int32) :=
  bn3 (m_Head_readRun_Eye fu s_tape_ended s_tape_limit s_tape_place s_tape_bytes_row) (fun r_1 s_tape_ended_2 s_tape_place_3 => if r_1 = (-1 : Int32) then (some ((0 : Int32), s_shape_inside, s_tape_ended_2, s_tape_place_3)) else (sm2 (loop6 (m_Head_readRuns_Eye_k17 fu s_shape_height s_shape_width s_tape_limit s_tape_bytes_row) fu (0 : Int32) r_1 (0 : Int32) s_shape_inside s_tape_ended_2 s_tape_place_3) (fun u => un3 u (fun o_shape_inside_26 o_tape_ended_27 o_tape_place_28 => some ((0 : Int32), o_shape_inside_26, o_tape_ended_27, o_tape_place_28))) (fun u => un4 u (fun o_x3_29 o_shape_inside_30 o_tape_ended_31 o_tape_place_32 => if o_x3_29 = (0 : Int32) then (m_Head_readRuns_Eye_b101 fu (1 : Int32) s_shape_height s_shape_width o_shape_inside_30 o_tape_ended_31 s_tape_limit o_tape_place_32 s_tape_bytes_row) else (m_Head_readRuns_Eye_b101 fu (0 : Int32) s_shape_height s_shape_width o_shape_inside_30 o_tape_ended_31 s_tape_limit o_tape_place_32 s_tape_bytes_row)))))
set_option maxHeartbeats 4000000 in
set_option maxRecDepth 100000 in
theorem c_Head_readRuns_Eye {l : Launch} {D : va_G} {ar : Nat → ClassId} {fu : Nat} (a_tape a_shape a_tape_bytes a_tape_bytes_row a_shape_inside a_shape_partOf a_shape_sizeOf a_shape_firstOf a_shape_queue : Nat) (s_tape_bytes_count : Int32) (s_shape_parts : Int32) (s_shape_count : Int32) (s_shape_height : Int32) (s_shape_width : Int32) (s_shape_inside : Nat → Int32) (s_tape_ended : Int32) (s_tape_limit : Int32) (s_tape_place : Int32) (s_tape_bytes_row : Nat → Int32) {r_v : Int32} {r_shape_inside : Nat → Int32} {r_tape_ended : Int32} {r_tape_place : Int32} (h : m_Head_readRuns_Eye fu s_shape_height s_shape_width s_shape_inside s_tape_ended s_tape_limit s_tape_place s_tape_bytes_row = some (r_v, r_shape_inside, r_tape_ended, r_tape_place)) : StdI l y_Head_readRuns ws_Head_readRuns rm_Head_readRuns_Eye D ar [.ref a_tape, .ref a_shape] [(a_tape, .inr (2, [.int s_tape_place, .int s_tape_ended, .int s_tape_limit, .ref a_tape_bytes])), (a_tape_bytes, .inr (1, [.int s_tape_bytes_count, .ref a_tape_bytes_row])), (a_tape_bytes_row, .inl (ar 2, 2400, .inl s_tape_bytes_row)), (a_shape, .inr (7, [.ref a_shape_inside, .ref a_shape_partOf, .ref a_shape_sizeOf, .ref a_shape_firstOf, .int s_shape_width, .int s_shape_height, .int s_shape_parts, .int s_shape_count, .ref a_shape_queue])), (a_shape_inside, .inl (ar 1, 256, .inl s_shape_inside))] [(a_tape, .inr (2, [.int r_tape_place, .int r_tape_ended, .int s_tape_limit, .ref a_tape_bytes])), (a_tape_bytes, .inr (1, [.int s_tape_bytes_count, .ref a_tape_bytes_row])), (a_tape_bytes_row, .inl (ar 2, 2400, .inl s_tape_bytes_row)), (a_shape, .inr (7, [.ref a_shape_inside, .ref a_shape_partOf, .ref a_shape_sizeOf, .ref a_shape_firstOf, .int s_shape_width, .int s_shape_height, .int s_shape_parts, .int s_shape_count, .ref a_shape_queue])), (a_shape_inside, .inl (ar 1, 256, .inl r_shape_inside))] r_v := by
  refine sd_metI (cc := prog_4_method_5_code) (maxL := 6) (ret := (some .boolean)) (own := "FreeWavelets$Head") (by decide) rfl rfl (Nat.le_of_ble_eq_true rfl) ?_
  intro p e s m below meth c A ls C0 hP hD hl
  obtain ⟨hx, hb, hr, hml, hown, hts, hlocks, hA, hK, hZ⟩ := id C0
  have hS : va_S A s.heap s.heap [] := va_S.rf
  have hl : lv_has ls 6 [(0, .ref a_tape), (1, .ref a_shape)] := hl
  unfold m_Head_readRuns_Eye at h
  refine lv_iconst (v := (0 : Int32)) hx hb d_Head_readRuns_0 (by decide) ?_
  refine lv_istore_n (lv' := [(2, .int (0 : Int32)), (0, .ref a_tape), (1, .ref a_shape)]) hx hb d_Head_readRuns_1 rfl hl (by decide) rfl (fun ls hl => ?_)
  refine lv_aload_n hx hb d_Head_readRuns_2 rfl (lv_at hl 1 rfl) ?_
  obtain ⟨r_1, s_tape_ended_2, s_tape_place_3, hcall, h⟩ := bn3_some h
  refine sd_i (wr := [(a_shape, .inr (7, [.ref a_shape_inside, .ref a_shape_partOf, .ref a_shape_sizeOf, .ref a_shape_firstOf, .int s_shape_width, .int s_shape_height, .int s_shape_parts, .int s_shape_count, .ref a_shape_queue])), (a_shape_inside, .inl (ar 1, 256, .inl s_shape_inside))]) (va_runS (As := [.ref a_tape]) (rest := []) ⟨hx, hb, hml, hown, hts⟩ (c_Head_readRun_Eye a_tape a_tape_bytes a_tape_bytes_row s_tape_bytes_count s_tape_ended s_tape_limit s_tape_place s_tape_bytes_row hcall _) (cw_S 1 hts k_717 k_718 k_47 k_719 rfl rfl (by decide +kernel) ⟨Nat.le_of_ble_eq_true rfl, Nat.le_of_ble_eq_true rfl⟩) (sd_preS hK hP hD hS hA hZ [0, 1, 2] (by decide) rfl) rfl rfl hl.1 rfl (lv_room (Nat.le_of_ble_eq_true rfl)) d_Head_readRuns_3 ⟨Nat.le_of_ble_eq_true rfl, Nat.le_of_ble_eq_true rfl⟩) hP hD hS hA [0, 1, 2] [3, 4] rfl rfl (by decide) (by decide) (fun H locs hP hD hS => ?_)
  have hP : va_P D vwCl [(a_shape, .inr (7, [.ref a_shape_inside, .ref a_shape_partOf, .ref a_shape_sizeOf, .ref a_shape_firstOf, .int s_shape_width, .int s_shape_height, .int s_shape_parts, .int s_shape_count, .ref a_shape_queue])), (a_shape_inside, .inl (ar 1, 256, .inl s_shape_inside)), (a_tape, .inr (2, [.int s_tape_place_3, .int s_tape_ended_2, .int s_tape_limit, .ref a_tape_bytes])), (a_tape_bytes, .inr (1, [.int s_tape_bytes_count, .ref a_tape_bytes_row])), (a_tape_bytes_row, .inl (ar 2, 2400, .inl s_tape_bytes_row))] H := hP
  have hD : va_D A [(a_shape, .inr (7, [.ref a_shape_inside, .ref a_shape_partOf, .ref a_shape_sizeOf, .ref a_shape_firstOf, .int s_shape_width, .int s_shape_height, .int s_shape_parts, .int s_shape_count, .ref a_shape_queue])), (a_shape_inside, .inl (ar 1, 256, .inl s_shape_inside)), (a_tape, .inr (2, [.int s_tape_place_3, .int s_tape_ended_2, .int s_tape_limit, .ref a_tape_bytes])), (a_tape_bytes, .inr (1, [.int s_tape_bytes_count, .ref a_tape_bytes_row])), (a_tape_bytes_row, .inl (ar 2, 2400, .inl s_tape_bytes_row))] := hD
  refine lv_istore_n (lv' := [(3, .int r_1), (2, .int (0 : Int32)), (0, .ref a_tape), (1, .ref a_shape)]) hx hb d_Head_readRuns_6 rfl hl (by decide) rfl (fun ls hl => ?_)
  refine lv_iload_n hx hb d_Head_readRuns_7 rfl (lv_at hl 0 rfl) ?_
  refine lv_iconst (v := (-1 : Int32)) hx hb d_Head_readRuns_8 (by decide) ?_
  refine lv_icmp_ne (tgt := 14) hx hb d_Head_readRuns_9 (by decide) (fun c_4 => ?_) (fun c_4 => ?_)
  · have h := Eq.trans (if_neg c_4).symm h
    refine lv_iconst (v := (0 : Int32)) hx hb d_Head_readRuns_14 (by decide) ?_
    refine lv_istore (lv' := [(4, .int (0 : Int32)), (3, .int r_1), (2, .int (0 : Int32)), (0, .ref a_tape), (1, .ref a_shape)]) hx hb d_Head_readRuns_15 hl (by decide) rfl (fun ls hl => ?_)
    obtain ⟨o, hloop, h⟩ := sm2_some h
    refine w_Head_readRuns_Eye_l17 C0 s_shape_height s_shape_width s_tape_limit s_tape_bytes_row fu (0 : Int32) r_1 (0 : Int32) s_shape_inside s_tape_ended_2 s_tape_place_3 o hloop ?_ ?_ _ _ _ (hP.sub [2, 3, 4, 0, 1] rfl) (hD.sub [2, 3, 4, 0, 1] (by decide) rfl) hS (lv_sub hl [3, 4, 2, 1, 0] rfl)
    · clear hP hD hS hl
      intro o_shape_inside_26 o_tape_ended_27 o_tape_place_28 eo H locs ls hP hD hS hl
      subst eo
      have h := sl2_1 h
      have h := un3_at h
      refine lv_iconst (v := (0 : Int32)) hx hb d_Head_readRuns_62 (by decide) ?_
      cases h
      exact sd_zret (by decide) hx hb hr hlocks hP hD hK hS d_Head_readRuns_63
    · clear hP hD hS hl
      intro o_x3_29 o_shape_inside_30 o_tape_ended_31 o_tape_place_32 eo H locs ls hP hD hS hl
      subst eo
      have h := sl2_2 h
      have h := un4_at h
      refine lv_iload_n hx hb d_Head_readRuns_92 rfl (lv_at hl 0 rfl) ?_
      refine lv_if_ne (tgt := 100) hx hb d_Head_readRuns_93 (by decide) (fun c_33 => ?_) (fun c_33 => ?_)
      · have h := Eq.trans (if_neg c_33).symm h
        refine lv_iconst (v := (0 : Int32)) hx hb d_Head_readRuns_100 (by decide) ?_
        exact w_Head_readRuns_Eye_b101 C0 (0 : Int32) s_shape_height s_shape_width o_shape_inside_30 o_tape_ended_31 s_tape_limit o_tape_place_32 s_tape_bytes_row h _ _ _ hP hD hS (lv_sub hl [] rfl)
      · have h := Eq.trans (if_pos c_33).symm h
        refine lv_iconst (v := (1 : Int32)) hx hb d_Head_readRuns_96 (by decide) ?_
        refine lv_goto (tgt := 101) hx hb d_Head_readRuns_97 (by decide) ?_
        exact w_Head_readRuns_Eye_b101 C0 (1 : Int32) s_shape_height s_shape_width o_shape_inside_30 o_tape_ended_31 s_tape_limit o_tape_place_32 s_tape_bytes_row h _ _ _ hP hD hS (lv_sub hl [] rfl)
  · have h := Eq.trans (if_pos c_4).symm h
    refine lv_iconst (v := (0 : Int32)) hx hb d_Head_readRuns_12 (by decide) ?_
    cases h
    exact sd_zret (by decide) hx hb hr hlocks (hP.sub [2, 3, 4, 0, 1] rfl) (hD.sub [2, 3, 4, 0, 1] (by decide) rfl) hK hS d_Head_readRuns_13
abbrev rm_Head_read_Eye : Room := { frames := 6, cells := 0, slots := 0, locals := 136 }
def m_Head_read_Eye_b36 (fu : Nat) (s_picture_planes : Int32) (s_picture_shape_count : Int32) (s_picture_shape_height : Int32) (s_picture_shape_parts : Int32) (s_picture_shape_width : Int32) (s_picture_shape_firstOf : Nat → Int32) (s_picture_shape_inside : Nat → Int32) (s_picture_shape_partOf : Nat → Int32) (s_picture_shape_queue : Nat → Int32) (s_picture_shape_sizeOf : Nat → Int32) (s_picture_waves : Nat → Int32) (s_tape_ended : Int32) (s_tape_limit : Int32) (s_tape_place : Int32) (s_tape_bytes_row : Nat → Int32) : Option (Int32 × Int32 × Int32 × Int32 × Int32 × Int32 × (Nat → Int32) × (Nat → Int32) × (Nat → Int32) × (Nat → Int32) × (Nat → Int32) × (Nat → Int32) × Int32 × Int32) :=
  some ((0 : Int32), s_picture_planes, s_picture_shape_count, s_picture_shape_height, s_picture_shape_parts, s_picture_shape_width, s_picture_shape_firstOf, s_picture_shape_inside, s_picture_shape_partOf, s_picture_shape_queue, s_picture_shape_sizeOf, s_picture_waves, s_tape_ended, s_tape_place)
set_option maxHeartbeats 4000000 in
set_option maxRecDepth 100000 in
theorem w_Head_read_Eye_b36 {p : Program} {l : Launch} {e : Env} {s : State} {m : MethodId} {args : Array Value} {below : List Frame} {meth : Method} {c : Code} {D : va_G} {ar : Nat → ClassId} {A : Nat → Prop} {fu : Nat} {a_tape a_picture a_tape_bytes a_tape_bytes_row a_picture_shape a_picture_samples a_picture_waves a_picture_lifting a_picture_shape_inside a_picture_shape_partOf a_picture_shape_sizeOf a_picture_shape_firstOf a_picture_shape_queue : Nat} {s_tape_bytes_count : Int32} {s_picture_stale : Int32} {r_v : Int32} {r_picture_planes : Int32} {r_picture_shape_count : Int32} {r_picture_shape_height : Int32} {r_picture_shape_parts : Int32} {r_picture_shape_width : Int32} {r_picture_shape_firstOf : Nat → Int32} {r_picture_shape_inside : Nat → Int32} {r_picture_shape_partOf : Nat → Int32} {r_picture_shape_queue : Nat → Int32} {r_picture_shape_sizeOf : Nat → Int32} {r_picture_waves : Nat → Int32} {r_tape_ended : Int32} {r_tape_place : Int32} (C0 : CX p s m meth c args prog_4_method_3_code 5 (some .boolean) "FreeWavelets$Head" D ar A) (s_picture_planes : Int32) (s_picture_shape_count : Int32) (s_picture_shape_height : Int32) (s_picture_shape_parts : Int32) (s_picture_shape_width : Int32) (s_picture_shape_firstOf : Nat → Int32) (s_picture_shape_inside : Nat → Int32) (s_picture_shape_partOf : Nat → Int32) (s_picture_shape_queue : Nat → Int32) (s_picture_shape_sizeOf : Nat → Int32) (s_picture_waves : Nat → Int32) (s_tape_ended : Int32) (s_tape_limit : Int32) (s_tape_place : Int32) (s_tape_bytes_row : Nat → Int32) (h : m_Head_read_Eye_b36 fu s_picture_planes s_picture_shape_count s_picture_shape_height s_picture_shape_parts s_picture_shape_width s_picture_shape_firstOf s_picture_shape_inside s_picture_shape_partOf s_picture_shape_queue s_picture_shape_sizeOf s_picture_waves s_tape_ended s_tape_limit s_tape_place s_tape_bytes_row = some (r_v, r_picture_planes, r_picture_shape_count, r_picture_shape_height, r_picture_shape_parts, r_picture_shape_width, r_picture_shape_firstOf, r_picture_shape_inside, r_picture_shape_partOf, r_picture_shape_queue, r_picture_shape_sizeOf, r_picture_waves, r_tape_ended, r_tape_place)) : WA p l e rm_Head_read_Eye s m args below meth c D A 5 (MQ below (QI D ar [(a_tape, .inr (2, [.int r_tape_place, .int r_tape_ended, .int s_tape_limit, .ref a_tape_bytes])), (a_tape_bytes, .inr (1, [.int s_tape_bytes_count, .ref a_tape_bytes_row])), (a_tape_bytes_row, .inl (ar 2, 2400, .inl s_tape_bytes_row)), (a_picture, .inr (6, [.ref a_picture_shape, .ref a_picture_samples, .ref a_picture_waves, .int r_picture_planes, .ref a_picture_lifting, .int s_picture_stale])), (a_picture_shape, .inr (7, [.ref a_picture_shape_inside, .ref a_picture_shape_partOf, .ref a_picture_shape_sizeOf, .ref a_picture_shape_firstOf, .int r_picture_shape_width, .int r_picture_shape_height, .int r_picture_shape_parts, .int r_picture_shape_count, .ref a_picture_shape_queue])), (a_picture_shape_firstOf, .inl (ar 0, 256, .inl r_picture_shape_firstOf)), (a_picture_shape_inside, .inl (ar 1, 256, .inl r_picture_shape_inside)), (a_picture_shape_partOf, .inl (ar 0, 256, .inl r_picture_shape_partOf)), (a_picture_shape_queue, .inl (ar 0, 256, .inl r_picture_shape_queue)), (a_picture_shape_sizeOf, .inl (ar 0, 256, .inl r_picture_shape_sizeOf)), (a_picture_waves, .inl (ar 0, 256, .inl r_picture_waves))] r_v A) args s 0 0 A) 36 [(a_tape, .inr (2, [.int s_tape_place, .int s_tape_ended, .int s_tape_limit, .ref a_tape_bytes])), (a_tape_bytes, .inr (1, [.int s_tape_bytes_count, .ref a_tape_bytes_row])), (a_tape_bytes_row, .inl (ar 2, 2400, .inl s_tape_bytes_row)), (a_picture, .inr (6, [.ref a_picture_shape, .ref a_picture_samples, .ref a_picture_waves, .int s_picture_planes, .ref a_picture_lifting, .int s_picture_stale])), (a_picture_shape, .inr (7, [.ref a_picture_shape_inside, .ref a_picture_shape_partOf, .ref a_picture_shape_sizeOf, .ref a_picture_shape_firstOf, .int s_picture_shape_width, .int s_picture_shape_height, .int s_picture_shape_parts, .int s_picture_shape_count, .ref a_picture_shape_queue])), (a_picture_shape_firstOf, .inl (ar 0, 256, .inl s_picture_shape_firstOf)), (a_picture_shape_inside, .inl (ar 1, 256, .inl s_picture_shape_inside)), (a_picture_shape_partOf, .inl (ar 0, 256, .inl s_picture_shape_partOf)), (a_picture_shape_queue, .inl (ar 0, 256, .inl s_picture_shape_queue)), (a_picture_shape_sizeOf, .inl (ar 0, 256, .inl s_picture_shape_sizeOf)), (a_picture_waves, .inl (ar 0, 256, .inl s_picture_waves))] [] [] := by
  intro H locs ls hP hD hS hl
  obtain ⟨hx, hb, hr, hml, hown, hts, hlocks, hA, hK, hZ⟩ := id C0
  unfold m_Head_read_Eye_b36 at h
  refine lv_iconst (v := (0 : Int32)) hx hb d_Head_read_36 (by decide) ?_
  cases h
  exact sd_zret (by decide) hx hb hr hlocks hP hD hK hS d_Head_read_37
def m_Head_read_Eye (fu : Nat) (s_picture_planes : Int32) (s_picture_shape_count : Int32) (s_picture_shape_height : Int32) (s_picture_shape_parts : Int32) (s_picture_shape_width : Int32) (s_picture_shape_firstOf : Nat → Int32) (s_picture_shape_inside : Nat → Int32) (s_picture_shape_partOf : Nat → Int32) (s_picture_shape_queue : Nat → Int32) (s_picture_shape_sizeOf : Nat → Int32) (s_picture_waves : Nat → Int32) (s_tape_ended : Int32) (s_tape_limit : Int32) (s_tape_place : Int32) (s_tape_bytes_row : Nat → Int32) : Option (Int32 × Int32 × Int32 × Int32 × Int32 × Int32 × (Nat → Int32) × (Nat → Int32) × (Nat → Int32) × (Nat → Int32) × (Nat → Int32) × (Nat → Int32) × Int32 × Int32) :=
  bn3 (m_Tape_hear_Eye fu (4 : Int32) s_tape_ended s_tape_limit s_tape_place s_tape_bytes_row) (fun r_1 s_tape_ended_2 s_tape_place_3 => letB (r_1 + (1 : Int32)) (fun x2_4 => bn3 (m_Tape_hear_Eye fu (4 : Int32) s_tape_ended_2 s_tape_limit s_tape_place_3 s_tape_bytes_row) (fun r_5 s_tape_ended_6 s_tape_place_7 => letB (r_5 + (1 : Int32)) (fun x3_8 => bn3 (m_Tape_hear_Eye fu (5 : Int32) s_tape_ended_6 s_tape_limit s_tape_place_7 s_tape_bytes_row) (fun r_9 s_tape_ended_10 s_tape_place_11 => if r_9 = (-1 : Int32) then (m_Head_read_Eye_b36 fu s_picture_planes s_picture_shape_count s_picture_shape_height s_picture_shape_parts s_picture_shape_width s_picture_shape_firstOf s_picture_shape_inside s_picture_shape_partOf s_picture_shape_queue s_picture_shape_sizeOf s_picture_waves s_tape_ended_10 s_tape_limit s_tape_place_11 s_tape_bytes_row) else (if r_9 ≤ (20 : Int32) then (bn11 (m_Picture_begin fu x2_4 x3_8 r_9 s_picture_planes s_picture_shape_count s_picture_shape_height s_picture_shape_parts s_picture_shape_width s_picture_shape_firstOf s_picture_shape_inside s_picture_shape_partOf s_picture_shape_queue s_picture_shape_sizeOf s_picture_waves) (fun s_picture_planes_14 s_picture_shape_count_15 s_picture_shape_height_16 s_picture_shape_parts_17 s_picture_shape_width_18 s_picture_shape_firstOf_19 s_picture_shape_inside_20 s_picture_shape_partOf_21 s_picture_shape_queue_22 s_picture_shape_sizeOf_23 s_picture_waves_24 => bn4 (m_Head_readRuns_Eye fu s_picture_shape_height_16 s_picture_shape_width_18 s_picture_shape_inside_20 s_tape_ended_10 s_tape_limit s_tape_place_11 s_tape_bytes_row) (fun r_25 s_picture_shape_inside_26 s_tape_ended_27 s_tape_place_28 => chkB r_25 (some (r_25, s_picture_planes_14, s_picture_shape_count_15, s_picture_shape_height_16, s_picture_shape_parts_17, s_picture_shape_width_18, s_picture_shape_firstOf_19, s_picture_shape_inside_26, s_picture_shape_partOf_21, s_picture_shape_queue_22, s_picture_shape_sizeOf_23, s_picture_waves_24, s_tape_ended_27, s_tape_place_28))))) else (m_Head_read_Eye_b36 fu s_picture_planes s_picture_shape_count s_picture_shape_height s_picture_shape_parts s_picture_shape_width s_picture_shape_firstOf s_picture_shape_inside s_picture_shape_partOf s_picture_shape_queue s_picture_shape_sizeOf s_picture_waves s_tape_ended_10 s_tape_limit s_tape_place_11 s_tape_bytes_row)))))))
set_option maxHeartbeats 4000000 in
set_option maxRecDepth 100000 in
theorem c_Head_read_Eye {l : Launch} {D : va_G} {ar : Nat → ClassId} {fu : Nat} (a_tape a_picture a_tape_bytes a_tape_bytes_row a_picture_shape a_picture_samples a_picture_waves a_picture_lifting a_picture_shape_inside a_picture_shape_partOf a_picture_shape_sizeOf a_picture_shape_firstOf a_picture_shape_queue : Nat) (s_tape_bytes_count : Int32) (s_picture_stale : Int32) (s_picture_planes : Int32) (s_picture_shape_count : Int32) (s_picture_shape_height : Int32) (s_picture_shape_parts : Int32) (s_picture_shape_width : Int32) (s_picture_shape_firstOf : Nat → Int32) (s_picture_shape_inside : Nat → Int32) (s_picture_shape_partOf : Nat → Int32) (s_picture_shape_queue : Nat → Int32) (s_picture_shape_sizeOf : Nat → Int32) (s_picture_waves : Nat → Int32) (s_tape_ended : Int32) (s_tape_limit : Int32) (s_tape_place : Int32) (s_tape_bytes_row : Nat → Int32) {r_v : Int32} {r_picture_planes : Int32} {r_picture_shape_count : Int32} {r_picture_shape_height : Int32} {r_picture_shape_parts : Int32} {r_picture_shape_width : Int32} {r_picture_shape_firstOf : Nat → Int32} {r_picture_shape_inside : Nat → Int32} {r_picture_shape_partOf : Nat → Int32} {r_picture_shape_queue : Nat → Int32} {r_picture_shape_sizeOf : Nat → Int32} {r_picture_waves : Nat → Int32} {r_tape_ended : Int32} {r_tape_place : Int32} (h : m_Head_read_Eye fu s_picture_planes s_picture_shape_count s_picture_shape_height s_picture_shape_parts s_picture_shape_width s_picture_shape_firstOf s_picture_shape_inside s_picture_shape_partOf s_picture_shape_queue s_picture_shape_sizeOf s_picture_waves s_tape_ended s_tape_limit s_tape_place s_tape_bytes_row = some (r_v, r_picture_planes, r_picture_shape_count, r_picture_shape_height, r_picture_shape_parts, r_picture_shape_width, r_picture_shape_firstOf, r_picture_shape_inside, r_picture_shape_partOf, r_picture_shape_queue, r_picture_shape_sizeOf, r_picture_waves, r_tape_ended, r_tape_place)) : StdI l y_Head_read ws_Head_read rm_Head_read_Eye D ar [.ref a_tape, .ref a_picture] [(a_tape, .inr (2, [.int s_tape_place, .int s_tape_ended, .int s_tape_limit, .ref a_tape_bytes])), (a_tape_bytes, .inr (1, [.int s_tape_bytes_count, .ref a_tape_bytes_row])), (a_tape_bytes_row, .inl (ar 2, 2400, .inl s_tape_bytes_row)), (a_picture, .inr (6, [.ref a_picture_shape, .ref a_picture_samples, .ref a_picture_waves, .int s_picture_planes, .ref a_picture_lifting, .int s_picture_stale])), (a_picture_shape, .inr (7, [.ref a_picture_shape_inside, .ref a_picture_shape_partOf, .ref a_picture_shape_sizeOf, .ref a_picture_shape_firstOf, .int s_picture_shape_width, .int s_picture_shape_height, .int s_picture_shape_parts, .int s_picture_shape_count, .ref a_picture_shape_queue])), (a_picture_shape_firstOf, .inl (ar 0, 256, .inl s_picture_shape_firstOf)), (a_picture_shape_inside, .inl (ar 1, 256, .inl s_picture_shape_inside)), (a_picture_shape_partOf, .inl (ar 0, 256, .inl s_picture_shape_partOf)), (a_picture_shape_queue, .inl (ar 0, 256, .inl s_picture_shape_queue)), (a_picture_shape_sizeOf, .inl (ar 0, 256, .inl s_picture_shape_sizeOf)), (a_picture_waves, .inl (ar 0, 256, .inl s_picture_waves))] [(a_tape, .inr (2, [.int r_tape_place, .int r_tape_ended, .int s_tape_limit, .ref a_tape_bytes])), (a_tape_bytes, .inr (1, [.int s_tape_bytes_count, .ref a_tape_bytes_row])), (a_tape_bytes_row, .inl (ar 2, 2400, .inl s_tape_bytes_row)), (a_picture, .inr (6, [.ref a_picture_shape, .ref a_picture_samples, .ref a_picture_waves, .int r_picture_planes, .ref a_picture_lifting, .int s_picture_stale])), (a_picture_shape, .inr (7, [.ref a_picture_shape_inside, .ref a_picture_shape_partOf, .ref a_picture_shape_sizeOf, .ref a_picture_shape_firstOf, .int r_picture_shape_width, .int r_picture_shape_height, .int r_picture_shape_parts, .int r_picture_shape_count, .ref a_picture_shape_queue])), (a_picture_shape_firstOf, .inl (ar 0, 256, .inl r_picture_shape_firstOf)), (a_picture_shape_inside, .inl (ar 1, 256, .inl r_picture_shape_inside)), (a_picture_shape_partOf, .inl (ar 0, 256, .inl r_picture_shape_partOf)), (a_picture_shape_queue, .inl (ar 0, 256, .inl r_picture_shape_queue)), (a_picture_shape_sizeOf, .inl (ar 0, 256, .inl r_picture_shape_sizeOf)), (a_picture_waves, .inl (ar 0, 256, .inl r_picture_waves))] r_v := by
  refine sd_metI (cc := prog_4_method_3_code) (maxL := 5) (ret := (some .boolean)) (own := "FreeWavelets$Head") (by decide) rfl rfl (Nat.le_of_ble_eq_true rfl) ?_
  intro p e s m below meth c A ls C0 hP hD hl
  obtain ⟨hx, hb, hr, hml, hown, hts, hlocks, hA, hK, hZ⟩ := id C0
  have hS : va_S A s.heap s.heap [] := va_S.rf
  have hl : lv_has ls 5 [(0, .ref a_tape), (1, .ref a_picture)] := hl
  unfold m_Head_read_Eye at h
  refine lv_aload_n hx hb d_Head_read_0 rfl (lv_at hl 0 rfl) ?_
  refine lv_iconst (v := (4 : Int32)) hx hb d_Head_read_1 (by decide) ?_
  obtain ⟨r_1, s_tape_ended_2, s_tape_place_3, hcall, h⟩ := bn3_some h
  refine sd_i (wr := [(a_picture, .inr (6, [.ref a_picture_shape, .ref a_picture_samples, .ref a_picture_waves, .int s_picture_planes, .ref a_picture_lifting, .int s_picture_stale])), (a_picture_shape, .inr (7, [.ref a_picture_shape_inside, .ref a_picture_shape_partOf, .ref a_picture_shape_sizeOf, .ref a_picture_shape_firstOf, .int s_picture_shape_width, .int s_picture_shape_height, .int s_picture_shape_parts, .int s_picture_shape_count, .ref a_picture_shape_queue])), (a_picture_shape_firstOf, .inl (ar 0, 256, .inl s_picture_shape_firstOf)), (a_picture_shape_inside, .inl (ar 1, 256, .inl s_picture_shape_inside)), (a_picture_shape_partOf, .inl (ar 0, 256, .inl s_picture_shape_partOf)), (a_picture_shape_queue, .inl (ar 0, 256, .inl s_picture_shape_queue)), (a_picture_shape_sizeOf, .inl (ar 0, 256, .inl s_picture_shape_sizeOf)), (a_picture_waves, .inl (ar 0, 256, .inl s_picture_waves))]) (va_runU (As := [.int (4 : Int32)]) (rest := []) ⟨hx, hb, hml, hown, hts⟩ (c_Tape_hear_Eye a_tape a_tape_bytes a_tape_bytes_row s_tape_bytes_count (4 : Int32) s_tape_ended s_tape_limit s_tape_place s_tape_bytes_row hcall _) (cw_U (owner := "FreeWavelets$Tape") 1 hts k_703 k_706 k_707 k_704 k_34 k_709 rfl rfl rfl (by decide +kernel) ⟨Nat.le_of_ble_eq_true rfl, Nat.le_of_ble_eq_true rfl⟩) (sd_preV hK hP hD hS hA hZ [0, 1, 2] (by decide) rfl (va_recv hK hP (ci := 2) (q0 := 0) rfl rfl)) rfl rfl hl.1 rfl (lv_room (Nat.le_of_ble_eq_true rfl)) d_Head_read_2 ⟨Nat.le_of_ble_eq_true rfl, Nat.le_of_ble_eq_true rfl⟩) hP hD hS hA [0, 1, 2] [3, 4, 5, 6, 7, 8, 9, 10] rfl rfl (by decide) (by decide) (fun H locs hP hD hS => ?_)
  have hP : va_P D vwCl [(a_picture, .inr (6, [.ref a_picture_shape, .ref a_picture_samples, .ref a_picture_waves, .int s_picture_planes, .ref a_picture_lifting, .int s_picture_stale])), (a_picture_shape, .inr (7, [.ref a_picture_shape_inside, .ref a_picture_shape_partOf, .ref a_picture_shape_sizeOf, .ref a_picture_shape_firstOf, .int s_picture_shape_width, .int s_picture_shape_height, .int s_picture_shape_parts, .int s_picture_shape_count, .ref a_picture_shape_queue])), (a_picture_shape_firstOf, .inl (ar 0, 256, .inl s_picture_shape_firstOf)), (a_picture_shape_inside, .inl (ar 1, 256, .inl s_picture_shape_inside)), (a_picture_shape_partOf, .inl (ar 0, 256, .inl s_picture_shape_partOf)), (a_picture_shape_queue, .inl (ar 0, 256, .inl s_picture_shape_queue)), (a_picture_shape_sizeOf, .inl (ar 0, 256, .inl s_picture_shape_sizeOf)), (a_picture_waves, .inl (ar 0, 256, .inl s_picture_waves)), (a_tape, .inr (2, [.int s_tape_place_3, .int s_tape_ended_2, .int s_tape_limit, .ref a_tape_bytes])), (a_tape_bytes, .inr (1, [.int s_tape_bytes_count, .ref a_tape_bytes_row])), (a_tape_bytes_row, .inl (ar 2, 2400, .inl s_tape_bytes_row))] H := hP
  have hD : va_D A [(a_picture, .inr (6, [.ref a_picture_shape, .ref a_picture_samples, .ref a_picture_waves, .int s_picture_planes, .ref a_picture_lifting, .int s_picture_stale])), (a_picture_shape, .inr (7, [.ref a_picture_shape_inside, .ref a_picture_shape_partOf, .ref a_picture_shape_sizeOf, .ref a_picture_shape_firstOf, .int s_picture_shape_width, .int s_picture_shape_height, .int s_picture_shape_parts, .int s_picture_shape_count, .ref a_picture_shape_queue])), (a_picture_shape_firstOf, .inl (ar 0, 256, .inl s_picture_shape_firstOf)), (a_picture_shape_inside, .inl (ar 1, 256, .inl s_picture_shape_inside)), (a_picture_shape_partOf, .inl (ar 0, 256, .inl s_picture_shape_partOf)), (a_picture_shape_queue, .inl (ar 0, 256, .inl s_picture_shape_queue)), (a_picture_shape_sizeOf, .inl (ar 0, 256, .inl s_picture_shape_sizeOf)), (a_picture_waves, .inl (ar 0, 256, .inl s_picture_waves)), (a_tape, .inr (2, [.int s_tape_place_3, .int s_tape_ended_2, .int s_tape_limit, .ref a_tape_bytes])), (a_tape_bytes, .inr (1, [.int s_tape_bytes_count, .ref a_tape_bytes_row])), (a_tape_bytes_row, .inl (ar 2, 2400, .inl s_tape_bytes_row))] := hD
  refine lv_iconst (v := (1 : Int32)) hx hb d_Head_read_5 (by decide) ?_
  refine lv_iadd hx hb d_Head_read_6 ?_
  refine lv_topi (fun x2_4 e_x2_4 => ?_)
  have h := letB_at e_x2_4 h
  refine lv_istore_n (lv' := [(2, .int x2_4), (0, .ref a_tape), (1, .ref a_picture)]) hx hb d_Head_read_7 rfl hl (by decide) rfl (fun ls hl => ?_)
  refine lv_aload_n hx hb d_Head_read_8 rfl (lv_at hl 1 rfl) ?_
  refine lv_iconst (v := (4 : Int32)) hx hb d_Head_read_9 (by decide) ?_
  obtain ⟨r_5, s_tape_ended_6, s_tape_place_7, hcall, h⟩ := bn3_some h
  refine sd_i (wr := [(a_picture, .inr (6, [.ref a_picture_shape, .ref a_picture_samples, .ref a_picture_waves, .int s_picture_planes, .ref a_picture_lifting, .int s_picture_stale])), (a_picture_shape, .inr (7, [.ref a_picture_shape_inside, .ref a_picture_shape_partOf, .ref a_picture_shape_sizeOf, .ref a_picture_shape_firstOf, .int s_picture_shape_width, .int s_picture_shape_height, .int s_picture_shape_parts, .int s_picture_shape_count, .ref a_picture_shape_queue])), (a_picture_shape_firstOf, .inl (ar 0, 256, .inl s_picture_shape_firstOf)), (a_picture_shape_inside, .inl (ar 1, 256, .inl s_picture_shape_inside)), (a_picture_shape_partOf, .inl (ar 0, 256, .inl s_picture_shape_partOf)), (a_picture_shape_queue, .inl (ar 0, 256, .inl s_picture_shape_queue)), (a_picture_shape_sizeOf, .inl (ar 0, 256, .inl s_picture_shape_sizeOf)), (a_picture_waves, .inl (ar 0, 256, .inl s_picture_waves))]) (va_runU (As := [.int (4 : Int32)]) (rest := []) ⟨hx, hb, hml, hown, hts⟩ (c_Tape_hear_Eye a_tape a_tape_bytes a_tape_bytes_row s_tape_bytes_count (4 : Int32) s_tape_ended_2 s_tape_limit s_tape_place_3 s_tape_bytes_row hcall _) (cw_U (owner := "FreeWavelets$Tape") 1 hts k_703 k_706 k_707 k_704 k_34 k_709 rfl rfl rfl (by decide +kernel) ⟨Nat.le_of_ble_eq_true rfl, Nat.le_of_ble_eq_true rfl⟩) (sd_preV hK hP hD hS hA hZ [8, 9, 10] (by decide) rfl (va_recv hK hP (ci := 2) (q0 := 8) rfl rfl)) rfl rfl hl.1 rfl (lv_room (Nat.le_of_ble_eq_true rfl)) d_Head_read_10 ⟨Nat.le_of_ble_eq_true rfl, Nat.le_of_ble_eq_true rfl⟩) hP hD hS hA [8, 9, 10] [0, 1, 2, 3, 4, 5, 6, 7] rfl rfl (by decide) (by decide) (fun H locs hP hD hS => ?_)
  have hP : va_P D vwCl [(a_picture, .inr (6, [.ref a_picture_shape, .ref a_picture_samples, .ref a_picture_waves, .int s_picture_planes, .ref a_picture_lifting, .int s_picture_stale])), (a_picture_shape, .inr (7, [.ref a_picture_shape_inside, .ref a_picture_shape_partOf, .ref a_picture_shape_sizeOf, .ref a_picture_shape_firstOf, .int s_picture_shape_width, .int s_picture_shape_height, .int s_picture_shape_parts, .int s_picture_shape_count, .ref a_picture_shape_queue])), (a_picture_shape_firstOf, .inl (ar 0, 256, .inl s_picture_shape_firstOf)), (a_picture_shape_inside, .inl (ar 1, 256, .inl s_picture_shape_inside)), (a_picture_shape_partOf, .inl (ar 0, 256, .inl s_picture_shape_partOf)), (a_picture_shape_queue, .inl (ar 0, 256, .inl s_picture_shape_queue)), (a_picture_shape_sizeOf, .inl (ar 0, 256, .inl s_picture_shape_sizeOf)), (a_picture_waves, .inl (ar 0, 256, .inl s_picture_waves)), (a_tape, .inr (2, [.int s_tape_place_7, .int s_tape_ended_6, .int s_tape_limit, .ref a_tape_bytes])), (a_tape_bytes, .inr (1, [.int s_tape_bytes_count, .ref a_tape_bytes_row])), (a_tape_bytes_row, .inl (ar 2, 2400, .inl s_tape_bytes_row))] H := hP
  have hD : va_D A [(a_picture, .inr (6, [.ref a_picture_shape, .ref a_picture_samples, .ref a_picture_waves, .int s_picture_planes, .ref a_picture_lifting, .int s_picture_stale])), (a_picture_shape, .inr (7, [.ref a_picture_shape_inside, .ref a_picture_shape_partOf, .ref a_picture_shape_sizeOf, .ref a_picture_shape_firstOf, .int s_picture_shape_width, .int s_picture_shape_height, .int s_picture_shape_parts, .int s_picture_shape_count, .ref a_picture_shape_queue])), (a_picture_shape_firstOf, .inl (ar 0, 256, .inl s_picture_shape_firstOf)), (a_picture_shape_inside, .inl (ar 1, 256, .inl s_picture_shape_inside)), (a_picture_shape_partOf, .inl (ar 0, 256, .inl s_picture_shape_partOf)), (a_picture_shape_queue, .inl (ar 0, 256, .inl s_picture_shape_queue)), (a_picture_shape_sizeOf, .inl (ar 0, 256, .inl s_picture_shape_sizeOf)), (a_picture_waves, .inl (ar 0, 256, .inl s_picture_waves)), (a_tape, .inr (2, [.int s_tape_place_7, .int s_tape_ended_6, .int s_tape_limit, .ref a_tape_bytes])), (a_tape_bytes, .inr (1, [.int s_tape_bytes_count, .ref a_tape_bytes_row])), (a_tape_bytes_row, .inl (ar 2, 2400, .inl s_tape_bytes_row))] := hD
  refine lv_iconst (v := (1 : Int32)) hx hb d_Head_read_13 (by decide) ?_
  refine lv_iadd hx hb d_Head_read_14 ?_
  refine lv_topi (fun x3_8 e_x3_8 => ?_)
  have h := letB_at e_x3_8 h
  refine lv_istore_n (lv' := [(3, .int x3_8), (2, .int x2_4), (0, .ref a_tape), (1, .ref a_picture)]) hx hb d_Head_read_15 rfl hl (by decide) rfl (fun ls hl => ?_)
  refine lv_aload_n hx hb d_Head_read_16 rfl (lv_at hl 2 rfl) ?_
  refine lv_iconst (v := (5 : Int32)) hx hb d_Head_read_17 (by decide) ?_
  obtain ⟨r_9, s_tape_ended_10, s_tape_place_11, hcall, h⟩ := bn3_some h
  refine sd_i (wr := [(a_picture, .inr (6, [.ref a_picture_shape, .ref a_picture_samples, .ref a_picture_waves, .int s_picture_planes, .ref a_picture_lifting, .int s_picture_stale])), (a_picture_shape, .inr (7, [.ref a_picture_shape_inside, .ref a_picture_shape_partOf, .ref a_picture_shape_sizeOf, .ref a_picture_shape_firstOf, .int s_picture_shape_width, .int s_picture_shape_height, .int s_picture_shape_parts, .int s_picture_shape_count, .ref a_picture_shape_queue])), (a_picture_shape_firstOf, .inl (ar 0, 256, .inl s_picture_shape_firstOf)), (a_picture_shape_inside, .inl (ar 1, 256, .inl s_picture_shape_inside)), (a_picture_shape_partOf, .inl (ar 0, 256, .inl s_picture_shape_partOf)), (a_picture_shape_queue, .inl (ar 0, 256, .inl s_picture_shape_queue)), (a_picture_shape_sizeOf, .inl (ar 0, 256, .inl s_picture_shape_sizeOf)), (a_picture_waves, .inl (ar 0, 256, .inl s_picture_waves))]) (va_runU (As := [.int (5 : Int32)]) (rest := []) ⟨hx, hb, hml, hown, hts⟩ (c_Tape_hear_Eye a_tape a_tape_bytes a_tape_bytes_row s_tape_bytes_count (5 : Int32) s_tape_ended_6 s_tape_limit s_tape_place_7 s_tape_bytes_row hcall _) (cw_U (owner := "FreeWavelets$Tape") 1 hts k_703 k_706 k_707 k_704 k_34 k_709 rfl rfl rfl (by decide +kernel) ⟨Nat.le_of_ble_eq_true rfl, Nat.le_of_ble_eq_true rfl⟩) (sd_preV hK hP hD hS hA hZ [8, 9, 10] (by decide) rfl (va_recv hK hP (ci := 2) (q0 := 8) rfl rfl)) rfl rfl hl.1 rfl (lv_room (Nat.le_of_ble_eq_true rfl)) d_Head_read_18 ⟨Nat.le_of_ble_eq_true rfl, Nat.le_of_ble_eq_true rfl⟩) hP hD hS hA [8, 9, 10] [0, 1, 2, 3, 4, 5, 6, 7] rfl rfl (by decide) (by decide) (fun H locs hP hD hS => ?_)
  have hP : va_P D vwCl [(a_picture, .inr (6, [.ref a_picture_shape, .ref a_picture_samples, .ref a_picture_waves, .int s_picture_planes, .ref a_picture_lifting, .int s_picture_stale])), (a_picture_shape, .inr (7, [.ref a_picture_shape_inside, .ref a_picture_shape_partOf, .ref a_picture_shape_sizeOf, .ref a_picture_shape_firstOf, .int s_picture_shape_width, .int s_picture_shape_height, .int s_picture_shape_parts, .int s_picture_shape_count, .ref a_picture_shape_queue])), (a_picture_shape_firstOf, .inl (ar 0, 256, .inl s_picture_shape_firstOf)), (a_picture_shape_inside, .inl (ar 1, 256, .inl s_picture_shape_inside)), (a_picture_shape_partOf, .inl (ar 0, 256, .inl s_picture_shape_partOf)), (a_picture_shape_queue, .inl (ar 0, 256, .inl s_picture_shape_queue)), (a_picture_shape_sizeOf, .inl (ar 0, 256, .inl s_picture_shape_sizeOf)), (a_picture_waves, .inl (ar 0, 256, .inl s_picture_waves)), (a_tape, .inr (2, [.int s_tape_place_11, .int s_tape_ended_10, .int s_tape_limit, .ref a_tape_bytes])), (a_tape_bytes, .inr (1, [.int s_tape_bytes_count, .ref a_tape_bytes_row])), (a_tape_bytes_row, .inl (ar 2, 2400, .inl s_tape_bytes_row))] H := hP
  have hD : va_D A [(a_picture, .inr (6, [.ref a_picture_shape, .ref a_picture_samples, .ref a_picture_waves, .int s_picture_planes, .ref a_picture_lifting, .int s_picture_stale])), (a_picture_shape, .inr (7, [.ref a_picture_shape_inside, .ref a_picture_shape_partOf, .ref a_picture_shape_sizeOf, .ref a_picture_shape_firstOf, .int s_picture_shape_width, .int s_picture_shape_height, .int s_picture_shape_parts, .int s_picture_shape_count, .ref a_picture_shape_queue])), (a_picture_shape_firstOf, .inl (ar 0, 256, .inl s_picture_shape_firstOf)), (a_picture_shape_inside, .inl (ar 1, 256, .inl s_picture_shape_inside)), (a_picture_shape_partOf, .inl (ar 0, 256, .inl s_picture_shape_partOf)), (a_picture_shape_queue, .inl (ar 0, 256, .inl s_picture_shape_queue)), (a_picture_shape_sizeOf, .inl (ar 0, 256, .inl s_picture_shape_sizeOf)), (a_picture_waves, .inl (ar 0, 256, .inl s_picture_waves)), (a_tape, .inr (2, [.int s_tape_place_11, .int s_tape_ended_10, .int s_tape_limit, .ref a_tape_bytes])), (a_tape_bytes, .inr (1, [.int s_tape_bytes_count, .ref a_tape_bytes_row])), (a_tape_bytes_row, .inl (ar 2, 2400, .inl s_tape_bytes_row))] := hD
  refine lv_istore (lv' := [(4, .int r_9), (3, .int x3_8), (2, .int x2_4), (0, .ref a_tape), (1, .ref a_picture)]) hx hb d_Head_read_21 hl (by decide) rfl (fun ls hl => ?_)
  refine lv_iload hx hb d_Head_read_23 (lv_at hl 0 rfl) ?_
  refine lv_iconst (v := (-1 : Int32)) hx hb d_Head_read_25 (by decide) ?_
  refine lv_icmp_eq (tgt := 36) hx hb d_Head_read_26 (by decide) (fun c_12 => ?_) (fun c_12 => ?_)
  · have h := Eq.trans (if_pos c_12).symm h
    exact w_Head_read_Eye_b36 C0 s_picture_planes s_picture_shape_count s_picture_shape_height s_picture_shape_parts s_picture_shape_width s_picture_shape_firstOf s_picture_shape_inside s_picture_shape_partOf s_picture_shape_queue s_picture_shape_sizeOf s_picture_waves s_tape_ended_10 s_tape_limit s_tape_place_11 s_tape_bytes_row h _ _ _ (hP.sub [8, 9, 10, 0, 1, 2, 3, 4, 5, 6, 7] rfl) (hD.sub [8, 9, 10, 0, 1, 2, 3, 4, 5, 6, 7] (by decide) rfl) hS (lv_sub hl [] rfl)
  · have h := Eq.trans (if_neg c_12).symm h
    refine lv_iload hx hb d_Head_read_29 (lv_at hl 0 rfl) ?_
    refine lv_bipush (v := (20 : Int32)) hx hb d_Head_read_31 (by decide) ?_
    refine lv_icmp_le (tgt := 38) hx hb d_Head_read_33 (by decide) (fun c_13 => ?_) (fun c_13 => ?_)
    · have h := Eq.trans (if_pos c_13).symm h
      refine lv_aload_n hx hb d_Head_read_38 rfl (lv_at hl 4 rfl) ?_
      refine lv_iload_n hx hb d_Head_read_39 rfl (lv_at hl 2 rfl) ?_
      refine lv_iload_n hx hb d_Head_read_40 rfl (lv_at hl 1 rfl) ?_
      refine lv_iload hx hb d_Head_read_41 (lv_at hl 0 rfl) ?_
      obtain ⟨s_picture_planes_14, s_picture_shape_count_15, s_picture_shape_height_16, s_picture_shape_parts_17, s_picture_shape_width_18, s_picture_shape_firstOf_19, s_picture_shape_inside_20, s_picture_shape_partOf_21, s_picture_shape_queue_22, s_picture_shape_sizeOf_23, s_picture_waves_24, hcall, h⟩ := bn11_some h
      refine sd_v (wr := [(a_tape, .inr (2, [.int s_tape_place_11, .int s_tape_ended_10, .int s_tape_limit, .ref a_tape_bytes])), (a_tape_bytes, .inr (1, [.int s_tape_bytes_count, .ref a_tape_bytes_row])), (a_tape_bytes_row, .inl (ar 2, 2400, .inl s_tape_bytes_row))]) (va_runV (As := [.int x2_4, .int x3_8, .int r_9]) (rest := []) ⟨hx, hb, hml, hown, hts⟩ (c_Picture_begin a_picture a_picture_shape a_picture_samples a_picture_waves a_picture_lifting a_picture_shape_inside a_picture_shape_partOf a_picture_shape_sizeOf a_picture_shape_firstOf a_picture_shape_queue s_picture_stale x2_4 x3_8 r_9 s_picture_planes s_picture_shape_count s_picture_shape_height s_picture_shape_parts s_picture_shape_width s_picture_shape_firstOf s_picture_shape_inside s_picture_shape_partOf s_picture_shape_queue s_picture_shape_sizeOf s_picture_waves hcall _) (cw_V 3 hts k_710 k_711 k_712 k_30 k_713 rfl rfl (by decide +kernel) ⟨Nat.le_of_ble_eq_true rfl, Nat.le_of_ble_eq_true rfl⟩) (sd_preV hK hP hD hS hA hZ [0, 1, 2, 3, 4, 5, 6, 7] (by decide) rfl (va_recv hK hP (ci := 6) (q0 := 0) rfl rfl)) rfl rfl hl.1 rfl (lv_room (Nat.le_of_ble_eq_true rfl)) d_Head_read_43 ⟨Nat.le_of_ble_eq_true rfl, Nat.le_of_ble_eq_true rfl⟩) hP hD hS hA [0, 1, 2, 3, 4, 5, 6, 7] [8, 9, 10] rfl rfl (by decide) (by decide) (fun H locs hP hD hS => ?_)
      have hP : va_P D vwCl [(a_tape, .inr (2, [.int s_tape_place_11, .int s_tape_ended_10, .int s_tape_limit, .ref a_tape_bytes])), (a_tape_bytes, .inr (1, [.int s_tape_bytes_count, .ref a_tape_bytes_row])), (a_tape_bytes_row, .inl (ar 2, 2400, .inl s_tape_bytes_row)), (a_picture, .inr (6, [.ref a_picture_shape, .ref a_picture_samples, .ref a_picture_waves, .int s_picture_planes_14, .ref a_picture_lifting, .int s_picture_stale])), (a_picture_shape, .inr (7, [.ref a_picture_shape_inside, .ref a_picture_shape_partOf, .ref a_picture_shape_sizeOf, .ref a_picture_shape_firstOf, .int s_picture_shape_width_18, .int s_picture_shape_height_16, .int s_picture_shape_parts_17, .int s_picture_shape_count_15, .ref a_picture_shape_queue])), (a_picture_shape_firstOf, .inl (ar 0, 256, .inl s_picture_shape_firstOf_19)), (a_picture_shape_inside, .inl (ar 1, 256, .inl s_picture_shape_inside_20)), (a_picture_shape_partOf, .inl (ar 0, 256, .inl s_picture_shape_partOf_21)), (a_picture_shape_queue, .inl (ar 0, 256, .inl s_picture_shape_queue_22)), (a_picture_shape_sizeOf, .inl (ar 0, 256, .inl s_picture_shape_sizeOf_23)), (a_picture_waves, .inl (ar 0, 256, .inl s_picture_waves_24))] H := hP
      have hD : va_D A [(a_tape, .inr (2, [.int s_tape_place_11, .int s_tape_ended_10, .int s_tape_limit, .ref a_tape_bytes])), (a_tape_bytes, .inr (1, [.int s_tape_bytes_count, .ref a_tape_bytes_row])), (a_tape_bytes_row, .inl (ar 2, 2400, .inl s_tape_bytes_row)), (a_picture, .inr (6, [.ref a_picture_shape, .ref a_picture_samples, .ref a_picture_waves, .int s_picture_planes_14, .ref a_picture_lifting, .int s_picture_stale])), (a_picture_shape, .inr (7, [.ref a_picture_shape_inside, .ref a_picture_shape_partOf, .ref a_picture_shape_sizeOf, .ref a_picture_shape_firstOf, .int s_picture_shape_width_18, .int s_picture_shape_height_16, .int s_picture_shape_parts_17, .int s_picture_shape_count_15, .ref a_picture_shape_queue])), (a_picture_shape_firstOf, .inl (ar 0, 256, .inl s_picture_shape_firstOf_19)), (a_picture_shape_inside, .inl (ar 1, 256, .inl s_picture_shape_inside_20)), (a_picture_shape_partOf, .inl (ar 0, 256, .inl s_picture_shape_partOf_21)), (a_picture_shape_queue, .inl (ar 0, 256, .inl s_picture_shape_queue_22)), (a_picture_shape_sizeOf, .inl (ar 0, 256, .inl s_picture_shape_sizeOf_23)), (a_picture_waves, .inl (ar 0, 256, .inl s_picture_waves_24))] := hD
      refine lv_aload_n hx hb d_Head_read_46 rfl (lv_at hl 3 rfl) ?_
      refine lv_aload_n hx hb d_Head_read_47 rfl (lv_at hl 4 rfl) ?_
      refine va_get (D := D) (ci := 6) (v := .ref a_picture_shape) (C := R_Picture) (T := F_Picture) (N := 6) hx hb hts in_Picture hown hK hP 3 rfl rfl 0 (by decide) (hts _ k_132) (fun _ h9 => h9) rfl d_Head_read_48 ?_
      obtain ⟨r_25, s_picture_shape_inside_26, s_tape_ended_27, s_tape_place_28, hcall, h⟩ := bn4_some h
      refine sd_i (wr := [(a_picture, .inr (6, [.ref a_picture_shape, .ref a_picture_samples, .ref a_picture_waves, .int s_picture_planes_14, .ref a_picture_lifting, .int s_picture_stale])), (a_picture_shape_firstOf, .inl (ar 0, 256, .inl s_picture_shape_firstOf_19)), (a_picture_shape_partOf, .inl (ar 0, 256, .inl s_picture_shape_partOf_21)), (a_picture_shape_queue, .inl (ar 0, 256, .inl s_picture_shape_queue_22)), (a_picture_shape_sizeOf, .inl (ar 0, 256, .inl s_picture_shape_sizeOf_23)), (a_picture_waves, .inl (ar 0, 256, .inl s_picture_waves_24))]) (va_runS (As := [.ref a_tape, .ref a_picture_shape]) (rest := []) ⟨hx, hb, hml, hown, hts⟩ (c_Head_readRuns_Eye a_tape a_picture_shape a_tape_bytes a_tape_bytes_row a_picture_shape_inside a_picture_shape_partOf a_picture_shape_sizeOf a_picture_shape_firstOf a_picture_shape_queue s_tape_bytes_count s_picture_shape_parts_17 s_picture_shape_count_15 s_picture_shape_height_16 s_picture_shape_width_18 s_picture_shape_inside_20 s_tape_ended_10 s_tape_limit s_tape_place_11 s_tape_bytes_row hcall _) (cw_S 2 hts k_714 k_715 k_47 k_716 rfl rfl (by decide +kernel) ⟨Nat.le_of_ble_eq_true rfl, Nat.le_of_ble_eq_true rfl⟩) (sd_preS hK hP hD hS hA hZ [0, 1, 2, 4, 6] (by decide) rfl) rfl rfl hl.1 rfl (lv_room (Nat.le_of_ble_eq_true rfl)) d_Head_read_51 ⟨Nat.le_of_ble_eq_true rfl, Nat.le_of_ble_eq_true rfl⟩) hP hD hS hA [0, 1, 2, 4, 6] [3, 5, 7, 8, 9, 10] rfl rfl (by decide) (by decide) (fun H locs hP hD hS => ?_)
      have hP : va_P D vwCl [(a_picture, .inr (6, [.ref a_picture_shape, .ref a_picture_samples, .ref a_picture_waves, .int s_picture_planes_14, .ref a_picture_lifting, .int s_picture_stale])), (a_picture_shape_firstOf, .inl (ar 0, 256, .inl s_picture_shape_firstOf_19)), (a_picture_shape_partOf, .inl (ar 0, 256, .inl s_picture_shape_partOf_21)), (a_picture_shape_queue, .inl (ar 0, 256, .inl s_picture_shape_queue_22)), (a_picture_shape_sizeOf, .inl (ar 0, 256, .inl s_picture_shape_sizeOf_23)), (a_picture_waves, .inl (ar 0, 256, .inl s_picture_waves_24)), (a_tape, .inr (2, [.int s_tape_place_28, .int s_tape_ended_27, .int s_tape_limit, .ref a_tape_bytes])), (a_tape_bytes, .inr (1, [.int s_tape_bytes_count, .ref a_tape_bytes_row])), (a_tape_bytes_row, .inl (ar 2, 2400, .inl s_tape_bytes_row)), (a_picture_shape, .inr (7, [.ref a_picture_shape_inside, .ref a_picture_shape_partOf, .ref a_picture_shape_sizeOf, .ref a_picture_shape_firstOf, .int s_picture_shape_width_18, .int s_picture_shape_height_16, .int s_picture_shape_parts_17, .int s_picture_shape_count_15, .ref a_picture_shape_queue])), (a_picture_shape_inside, .inl (ar 1, 256, .inl s_picture_shape_inside_26))] H := hP
      have hD : va_D A [(a_picture, .inr (6, [.ref a_picture_shape, .ref a_picture_samples, .ref a_picture_waves, .int s_picture_planes_14, .ref a_picture_lifting, .int s_picture_stale])), (a_picture_shape_firstOf, .inl (ar 0, 256, .inl s_picture_shape_firstOf_19)), (a_picture_shape_partOf, .inl (ar 0, 256, .inl s_picture_shape_partOf_21)), (a_picture_shape_queue, .inl (ar 0, 256, .inl s_picture_shape_queue_22)), (a_picture_shape_sizeOf, .inl (ar 0, 256, .inl s_picture_shape_sizeOf_23)), (a_picture_waves, .inl (ar 0, 256, .inl s_picture_waves_24)), (a_tape, .inr (2, [.int s_tape_place_28, .int s_tape_ended_27, .int s_tape_limit, .ref a_tape_bytes])), (a_tape_bytes, .inr (1, [.int s_tape_bytes_count, .ref a_tape_bytes_row])), (a_tape_bytes_row, .inl (ar 2, 2400, .inl s_tape_bytes_row)), (a_picture_shape, .inr (7, [.ref a_picture_shape_inside, .ref a_picture_shape_partOf, .ref a_picture_shape_sizeOf, .ref a_picture_shape_firstOf, .int s_picture_shape_width_18, .int s_picture_shape_height_16, .int s_picture_shape_parts_17, .int s_picture_shape_count_15, .ref a_picture_shape_queue])), (a_picture_shape_inside, .inl (ar 1, 256, .inl s_picture_shape_inside_26))] := hD
      obtain ⟨b_29, h⟩ := chkB_some h
      cases h
      exact sd_zret (nar_z b_29) hx hb hr hlocks (hP.sub [6, 7, 8, 0, 9, 1, 10, 2, 3, 4, 5] rfl) (hD.sub [6, 7, 8, 0, 9, 1, 10, 2, 3, 4, 5] (by decide) rfl) hK hS d_Head_read_54
    · have h := Eq.trans (if_neg c_13).symm h
      exact w_Head_read_Eye_b36 C0 s_picture_planes s_picture_shape_count s_picture_shape_height s_picture_shape_parts s_picture_shape_width s_picture_shape_firstOf s_picture_shape_inside s_picture_shape_partOf s_picture_shape_queue s_picture_shape_sizeOf s_picture_waves s_tape_ended_10 s_tape_limit s_tape_place_11 s_tape_bytes_row h _ _ _ (hP.sub [8, 9, 10, 0, 1, 2, 3, 4, 5, 6, 7] rfl) (hD.sub [8, 9, 10, 0, 1, 2, 3, 4, 5, 6, 7] (by decide) rfl) hS (lv_sub hl [] rfl)
abbrev rm_Tape_start_Tape : Room := { frames := 0, cells := 0, slots := 0, locals := 0 }
def m_Tape_start_Tape (fu : Nat) (x1 : Int32) (s_ended : Int32) (s_limit : Int32) (s_place : Int32) : Option (Int32 × Int32 × Int32) :=
  some ((0 : Int32), x1, (0 : Int32))
set_option maxHeartbeats 4000000 in
set_option maxRecDepth 100000 in
theorem c_Tape_start_Tape {l : Launch} {D : va_G} {ar : Nat → ClassId} {fu : Nat} (a_this : Nat) (x1 : Int32) (s_ended : Int32) (s_limit : Int32) (s_place : Int32) {r_ended : Int32} {r_limit : Int32} {r_place : Int32} (h : m_Tape_start_Tape fu x1 s_ended s_limit s_place = some (r_ended, r_limit, r_place)) : StdV l y_Tape_start ws_Tape_start rm_Tape_start_Tape D ar [.ref a_this, .int x1] [(a_this, .inr (4, [.int s_place, .int s_ended, .int s_limit]))] [(a_this, .inr (4, [.int r_place, .int r_ended, .int r_limit]))] := by
  refine sd_metV (cc := prog_9_method_2_code) (maxL := 2) (ret := none) (own := "FreeWavelets$Tape") (by decide) rfl rfl (Nat.le_of_ble_eq_true rfl) ?_
  intro p e s m below meth c A ls C0 hP hD hl
  obtain ⟨hx, hb, hr, hml, hown, hts, hlocks, hA, hK, hZ⟩ := id C0
  have hS : va_S A s.heap s.heap [] := va_S.rf
  have hl : lv_has ls 2 [(0, .ref a_this), (1, .int x1)] := hl
  unfold m_Tape_start_Tape at h
  refine lv_aload_n hx hb d_Tape_start_0 rfl (lv_at hl 0 rfl) ?_
  refine lv_iconst (v := (0 : Int32)) hx hb d_Tape_start_1 (by decide) ?_
  refine va_put (D := D) (ci := 4) (v := .int (0 : Int32)) (ty := .int) (C := R_Tape) (T := F_Tape) (N := 3) hx hb hts in_Tape t_Tape t_Tape_ok n_Tape hown hK hP hD hS 0 rfl rfl 0 (by decide) (hts _ k_185) (fun _ h9 => h9) rfl (by decide +kernel) rfl rfl (Nat.le_of_ble_eq_true rfl) d_Tape_start_2 (fun H locs hP hD hS => ?_)
  have hP : va_P D vwCl [(a_this, .inr (4, [.int (0 : Int32), .int s_ended, .int s_limit]))] H := hP
  have hD : va_D A [(a_this, .inr (4, [.int (0 : Int32), .int s_ended, .int s_limit]))] := hD
  refine lv_aload_n hx hb d_Tape_start_5 rfl (lv_at hl 0 rfl) ?_
  refine lv_iconst (v := (0 : Int32)) hx hb d_Tape_start_6 (by decide) ?_
  refine va_put (D := D) (ci := 4) (v := .int (0 : Int32)) (ty := .boolean) (C := R_Tape) (T := F_Tape) (N := 3) hx hb hts in_Tape t_Tape t_Tape_ok n_Tape hown hK hP hD hS 0 rfl rfl 1 (by decide) (hts _ k_193) (fun _ h9 => h9) rfl (by decide +kernel) rfl rfl (Nat.le_of_ble_eq_true rfl) d_Tape_start_7 (fun H locs hP hD hS => ?_)
  have hP : va_P D vwCl [(a_this, .inr (4, [.int (0 : Int32), .int (0 : Int32), .int s_limit]))] H := hP
  have hD : va_D A [(a_this, .inr (4, [.int (0 : Int32), .int (0 : Int32), .int s_limit]))] := hD
  refine lv_aload_n hx hb d_Tape_start_10 rfl (lv_at hl 0 rfl) ?_
  refine lv_iload_n hx hb d_Tape_start_11 rfl (lv_at hl 1 rfl) ?_
  refine va_put (D := D) (ci := 4) (v := .int x1) (ty := .int) (C := R_Tape) (T := F_Tape) (N := 3) hx hb hts in_Tape t_Tape t_Tape_ok n_Tape hown hK hP hD hS 0 rfl rfl 2 (by decide) (hts _ k_195) (fun _ h9 => h9) rfl (by decide +kernel) rfl rfl (Nat.le_of_ble_eq_true rfl) d_Tape_start_12 (fun H locs hP hD hS => ?_)
  have hP : va_P D vwCl [(a_this, .inr (4, [.int (0 : Int32), .int (0 : Int32), .int x1]))] H := hP
  have hD : va_D A [(a_this, .inr (4, [.int (0 : Int32), .int (0 : Int32), .int x1]))] := hD
  cases h
  exact sd_vret hx hb hr hlocks hP hD hK hS d_Tape_start_15
abbrev rm_Tape_start_Pen : Room := { frames := 0, cells := 0, slots := 0, locals := 0 }
def m_Tape_start_Pen (fu : Nat) (x1 : Int32) (s_ended : Int32) (s_limit : Int32) (s_place : Int32) : Option (Int32 × Int32 × Int32) :=
  some ((0 : Int32), x1, (0 : Int32))
set_option maxHeartbeats 4000000 in
set_option maxRecDepth 100000 in
theorem c_Tape_start_Pen {l : Launch} {D : va_G} {ar : Nat → ClassId} {fu : Nat} (a_this a_this_bytes : Nat) (x1 : Int32) (s_ended : Int32) (s_limit : Int32) (s_place : Int32) {r_ended : Int32} {r_limit : Int32} {r_place : Int32} (h : m_Tape_start_Pen fu x1 s_ended s_limit s_place = some (r_ended, r_limit, r_place)) : StdV l y_Tape_start ws_Tape_start rm_Tape_start_Pen D ar [.ref a_this, .int x1] [(a_this, .inr (3, [.int s_place, .int s_ended, .int s_limit, .ref a_this_bytes]))] [(a_this, .inr (3, [.int r_place, .int r_ended, .int r_limit, .ref a_this_bytes]))] := by
  refine sd_metV (cc := prog_9_method_2_code) (maxL := 2) (ret := none) (own := "FreeWavelets$Tape") (by decide) rfl rfl (Nat.le_of_ble_eq_true rfl) ?_
  intro p e s m below meth c A ls C0 hP hD hl
  obtain ⟨hx, hb, hr, hml, hown, hts, hlocks, hA, hK, hZ⟩ := id C0
  have hS : va_S A s.heap s.heap [] := va_S.rf
  have hl : lv_has ls 2 [(0, .ref a_this), (1, .int x1)] := hl
  unfold m_Tape_start_Pen at h
  refine lv_aload_n hx hb d_Tape_start_0 rfl (lv_at hl 0 rfl) ?_
  refine lv_iconst (v := (0 : Int32)) hx hb d_Tape_start_1 (by decide) ?_
  refine va_put (D := D) (ci := 3) (v := .int (0 : Int32)) (ty := .int) (C := R_Pen) (T := F_Pen) (N := 4) hx hb hts in_Pen t_Pen t_Pen_ok n_Pen hown hK hP hD hS 0 rfl rfl 0 (by decide) (hts _ k_185) (fun _ h9 => h9) rfl (by decide +kernel) rfl rfl (Nat.le_of_ble_eq_true rfl) d_Tape_start_2 (fun H locs hP hD hS => ?_)
  have hP : va_P D vwCl [(a_this, .inr (3, [.int (0 : Int32), .int s_ended, .int s_limit, .ref a_this_bytes]))] H := hP
  have hD : va_D A [(a_this, .inr (3, [.int (0 : Int32), .int s_ended, .int s_limit, .ref a_this_bytes]))] := hD
  refine lv_aload_n hx hb d_Tape_start_5 rfl (lv_at hl 0 rfl) ?_
  refine lv_iconst (v := (0 : Int32)) hx hb d_Tape_start_6 (by decide) ?_
  refine va_put (D := D) (ci := 3) (v := .int (0 : Int32)) (ty := .boolean) (C := R_Pen) (T := F_Pen) (N := 4) hx hb hts in_Pen t_Pen t_Pen_ok n_Pen hown hK hP hD hS 0 rfl rfl 1 (by decide) (hts _ k_193) (fun _ h9 => h9) rfl (by decide +kernel) rfl rfl (Nat.le_of_ble_eq_true rfl) d_Tape_start_7 (fun H locs hP hD hS => ?_)
  have hP : va_P D vwCl [(a_this, .inr (3, [.int (0 : Int32), .int (0 : Int32), .int s_limit, .ref a_this_bytes]))] H := hP
  have hD : va_D A [(a_this, .inr (3, [.int (0 : Int32), .int (0 : Int32), .int s_limit, .ref a_this_bytes]))] := hD
  refine lv_aload_n hx hb d_Tape_start_10 rfl (lv_at hl 0 rfl) ?_
  refine lv_iload_n hx hb d_Tape_start_11 rfl (lv_at hl 1 rfl) ?_
  refine va_put (D := D) (ci := 3) (v := .int x1) (ty := .int) (C := R_Pen) (T := F_Pen) (N := 4) hx hb hts in_Pen t_Pen t_Pen_ok n_Pen hown hK hP hD hS 0 rfl rfl 2 (by decide) (hts _ k_195) (fun _ h9 => h9) rfl (by decide +kernel) rfl rfl (Nat.le_of_ble_eq_true rfl) d_Tape_start_12 (fun H locs hP hD hS => ?_)
  have hP : va_P D vwCl [(a_this, .inr (3, [.int (0 : Int32), .int (0 : Int32), .int x1, .ref a_this_bytes]))] H := hP
  have hD : va_D A [(a_this, .inr (3, [.int (0 : Int32), .int (0 : Int32), .int x1, .ref a_this_bytes]))] := hD
  cases h
  exact sd_vret hx hb hr hlocks hP hD hK hS d_Tape_start_15
abbrev rm_Pen_start_Pen : Room := { frames := 1, cells := 0, slots := 0, locals := 40 }
def m_Pen_start_Pen (fu : Nat) (x1 : Int32) (s_ended : Int32) (s_limit : Int32) (s_place : Int32) (s_bytes_count : Int32) : Option (Int32 × Int32 × Int32 × Int32) :=
  bn3 (m_Tape_start_Pen fu (if (19200 : Int32) < x1 then (19200 : Int32) else x1) s_ended s_limit s_place) (fun s_ended_1 s_limit_2 s_place_3 => some (s_ended_1, s_limit_2, s_place_3, (0 : Int32)))
set_option maxHeartbeats 4000000 in
set_option maxRecDepth 100000 in
theorem c_Pen_start_Pen {l : Launch} {D : va_G} {ar : Nat → ClassId} {fu : Nat} (a_this a_this_bytes a_this_bytes_row : Nat) (x1 : Int32) (s_ended : Int32) (s_limit : Int32) (s_place : Int32) (s_bytes_count : Int32) {r_ended : Int32} {r_limit : Int32} {r_place : Int32} {r_bytes_count : Int32} (h : m_Pen_start_Pen fu x1 s_ended s_limit s_place s_bytes_count = some (r_ended, r_limit, r_place, r_bytes_count)) : StdV l y_Pen_start ws_Pen_start rm_Pen_start_Pen D ar [.ref a_this, .int x1] [(a_this, .inr (3, [.int s_place, .int s_ended, .int s_limit, .ref a_this_bytes])), (a_this_bytes, .inr (1, [.int s_bytes_count, .ref a_this_bytes_row]))] [(a_this, .inr (3, [.int r_place, .int r_ended, .int r_limit, .ref a_this_bytes])), (a_this_bytes, .inr (1, [.int r_bytes_count, .ref a_this_bytes_row]))] := by
  refine sd_metV (cc := prog_6_method_2_code) (maxL := 2) (ret := none) (own := "FreeWavelets$Pen") (by decide) rfl rfl (Nat.le_of_ble_eq_true rfl) ?_
  intro p e s m below meth c A ls C0 hP hD hl
  obtain ⟨hx, hb, hr, hml, hown, hts, hlocks, hA, hK, hZ⟩ := id C0
  have hS : va_S A s.heap s.heap [] := va_S.rf
  have hl : lv_has ls 2 [(0, .ref a_this), (1, .int x1)] := hl
  unfold m_Pen_start_Pen at h
  refine lv_aload_n hx hb d_Pen_start_0 rfl (lv_at hl 0 rfl) ?_
  refine lv_iload_n hx hb d_Pen_start_1 rfl (lv_at hl 1 rfl) ?_
  refine lv_sipush (v := (19200 : Int32)) hx hb d_Pen_start_2 (by decide) ?_
  refine va_mmin hx hb (hml.trans hl.1.symm) hown (hts _ k_383) (hts _ k_259) (hts _ k_38) (hts _ k_260) (Nat.le_of_ble_eq_true rfl) (Nat.le_of_ble_eq_true rfl) (Nat.zero_le _) (Nat.zero_le _) d_Pen_start_5 ?_
  obtain ⟨s_ended_1, s_limit_2, s_place_3, hcall, h⟩ := bn3_some h
  refine sd_v (wr := [(a_this_bytes, .inr (1, [.int s_bytes_count, .ref a_this_bytes_row]))]) (va_runSU (hK.1 3 _ rfl |>.2) (As := [.int (if (19200 : Int32) < x1 then (19200 : Int32) else x1)]) (rest := []) ⟨hx, hb, hml, hown, hts⟩ (c_Tape_start_Pen a_this a_this_bytes (if (19200 : Int32) < x1 then (19200 : Int32) else x1) s_ended s_limit s_place hcall _) (cw_SU 1 hts k_384 k_374 k_204 k_372 k_34 k_385 rfl rfl (by decide +kernel) ⟨Nat.le_of_ble_eq_true rfl, Nat.le_of_ble_eq_true rfl⟩) (sd_preV hK hP hD hS hA hZ [0] (by decide) rfl (va_recv hK hP (ci := 3) (q0 := 0) rfl rfl)) rfl rfl hl.1 rfl (lv_room (Nat.le_of_ble_eq_true rfl)) d_Pen_start_8 ⟨Nat.le_of_ble_eq_true rfl, Nat.le_of_ble_eq_true rfl⟩) hP hD hS hA [0] [1] rfl rfl (by decide) (by decide) (fun H locs hP hD hS => ?_)
  have hP : va_P D vwCl [(a_this_bytes, .inr (1, [.int s_bytes_count, .ref a_this_bytes_row])), (a_this, .inr (3, [.int s_place_3, .int s_ended_1, .int s_limit_2, .ref a_this_bytes]))] H := hP
  have hD : va_D A [(a_this_bytes, .inr (1, [.int s_bytes_count, .ref a_this_bytes_row])), (a_this, .inr (3, [.int s_place_3, .int s_ended_1, .int s_limit_2, .ref a_this_bytes]))] := hD
  refine lv_aload_n hx hb d_Pen_start_11 rfl (lv_at hl 0 rfl) ?_
  refine va_get (D := D) (ci := 3) (v := .ref a_this_bytes) (C := R_Pen) (T := F_Pen) (N := 4) hx hb hts in_Pen hown hK hP 1 rfl rfl 3 (by decide) (hts _ k_184) (fun _ h9 => h9) rfl d_Pen_start_12 ?_
  refine lv_iconst (v := (0 : Int32)) hx hb d_Pen_start_15 (by decide) ?_
  refine va_put (D := D) (ci := 1) (v := .int (0 : Int32)) (ty := .int) (C := R_Bytes) (T := F_Bytes) (N := 2) hx hb hts in_Bytes t_Bytes t_Bytes_ok n_Bytes hown hK hP hD hS 0 rfl rfl 0 (by decide) (hts _ k_166) (fun _ h9 => h9) rfl (by decide +kernel) rfl rfl (Nat.le_of_ble_eq_true rfl) d_Pen_start_16 (fun H locs hP hD hS => ?_)
  have hP : va_P D vwCl [(a_this_bytes, .inr (1, [.int (0 : Int32), .ref a_this_bytes_row])), (a_this, .inr (3, [.int s_place_3, .int s_ended_1, .int s_limit_2, .ref a_this_bytes]))] H := hP
  have hD : va_D A [(a_this_bytes, .inr (1, [.int (0 : Int32), .ref a_this_bytes_row])), (a_this, .inr (3, [.int s_place_3, .int s_ended_1, .int s_limit_2, .ref a_this_bytes]))] := hD
  cases h
  exact sd_vret hx hb hr hlocks (hP.sub [1, 0] rfl) (hD.sub [1, 0] (by decide) rfl) hK hS d_Pen_start_19
abbrev rm_Tape_start_Eye : Room := { frames := 0, cells := 0, slots := 0, locals := 0 }
def m_Tape_start_Eye (fu : Nat) (x1 : Int32) (s_ended : Int32) (s_limit : Int32) (s_place : Int32) : Option (Int32 × Int32 × Int32) :=
  some ((0 : Int32), x1, (0 : Int32))
set_option maxHeartbeats 4000000 in
set_option maxRecDepth 100000 in
theorem c_Tape_start_Eye {l : Launch} {D : va_G} {ar : Nat → ClassId} {fu : Nat} (a_this a_this_bytes : Nat) (x1 : Int32) (s_ended : Int32) (s_limit : Int32) (s_place : Int32) {r_ended : Int32} {r_limit : Int32} {r_place : Int32} (h : m_Tape_start_Eye fu x1 s_ended s_limit s_place = some (r_ended, r_limit, r_place)) : StdV l y_Tape_start ws_Tape_start rm_Tape_start_Eye D ar [.ref a_this, .int x1] [(a_this, .inr (2, [.int s_place, .int s_ended, .int s_limit, .ref a_this_bytes]))] [(a_this, .inr (2, [.int r_place, .int r_ended, .int r_limit, .ref a_this_bytes]))] := by
  refine sd_metV (cc := prog_9_method_2_code) (maxL := 2) (ret := none) (own := "FreeWavelets$Tape") (by decide) rfl rfl (Nat.le_of_ble_eq_true rfl) ?_
  intro p e s m below meth c A ls C0 hP hD hl
  obtain ⟨hx, hb, hr, hml, hown, hts, hlocks, hA, hK, hZ⟩ := id C0
  have hS : va_S A s.heap s.heap [] := va_S.rf
  have hl : lv_has ls 2 [(0, .ref a_this), (1, .int x1)] := hl
  unfold m_Tape_start_Eye at h
  refine lv_aload_n hx hb d_Tape_start_0 rfl (lv_at hl 0 rfl) ?_
  refine lv_iconst (v := (0 : Int32)) hx hb d_Tape_start_1 (by decide) ?_
  refine va_put (D := D) (ci := 2) (v := .int (0 : Int32)) (ty := .int) (C := R_Eye) (T := F_Eye) (N := 4) hx hb hts in_Eye t_Eye t_Eye_ok n_Eye hown hK hP hD hS 0 rfl rfl 0 (by decide) (hts _ k_185) (fun _ h9 => h9) rfl (by decide +kernel) rfl rfl (Nat.le_of_ble_eq_true rfl) d_Tape_start_2 (fun H locs hP hD hS => ?_)
  have hP : va_P D vwCl [(a_this, .inr (2, [.int (0 : Int32), .int s_ended, .int s_limit, .ref a_this_bytes]))] H := hP
  have hD : va_D A [(a_this, .inr (2, [.int (0 : Int32), .int s_ended, .int s_limit, .ref a_this_bytes]))] := hD
  refine lv_aload_n hx hb d_Tape_start_5 rfl (lv_at hl 0 rfl) ?_
  refine lv_iconst (v := (0 : Int32)) hx hb d_Tape_start_6 (by decide) ?_
  refine va_put (D := D) (ci := 2) (v := .int (0 : Int32)) (ty := .boolean) (C := R_Eye) (T := F_Eye) (N := 4) hx hb hts in_Eye t_Eye t_Eye_ok n_Eye hown hK hP hD hS 0 rfl rfl 1 (by decide) (hts _ k_193) (fun _ h9 => h9) rfl (by decide +kernel) rfl rfl (Nat.le_of_ble_eq_true rfl) d_Tape_start_7 (fun H locs hP hD hS => ?_)
  have hP : va_P D vwCl [(a_this, .inr (2, [.int (0 : Int32), .int (0 : Int32), .int s_limit, .ref a_this_bytes]))] H := hP
  have hD : va_D A [(a_this, .inr (2, [.int (0 : Int32), .int (0 : Int32), .int s_limit, .ref a_this_bytes]))] := hD
  refine lv_aload_n hx hb d_Tape_start_10 rfl (lv_at hl 0 rfl) ?_
  refine lv_iload_n hx hb d_Tape_start_11 rfl (lv_at hl 1 rfl) ?_
  refine va_put (D := D) (ci := 2) (v := .int x1) (ty := .int) (C := R_Eye) (T := F_Eye) (N := 4) hx hb hts in_Eye t_Eye t_Eye_ok n_Eye hown hK hP hD hS 0 rfl rfl 2 (by decide) (hts _ k_195) (fun _ h9 => h9) rfl (by decide +kernel) rfl rfl (Nat.le_of_ble_eq_true rfl) d_Tape_start_12 (fun H locs hP hD hS => ?_)
  have hP : va_P D vwCl [(a_this, .inr (2, [.int (0 : Int32), .int (0 : Int32), .int x1, .ref a_this_bytes]))] H := hP
  have hD : va_D A [(a_this, .inr (2, [.int (0 : Int32), .int (0 : Int32), .int x1, .ref a_this_bytes]))] := hD
  cases h
  exact sd_vret hx hb hr hlocks hP hD hK hS d_Tape_start_15
abbrev rm_Eye_start_Eye : Room := { frames := 1, cells := 0, slots := 0, locals := 40 }
def m_Eye_start_Eye (fu : Nat) (x1 : Int32) (s_ended : Int32) (s_limit : Int32) (s_place : Int32) (s_bytes_count : Int32) : Option (Int32 × Int32 × Int32) :=
  bn3 (m_Tape_start_Eye fu (if (s_bytes_count * (8 : Int32)) < x1 then s_bytes_count * (8 : Int32) else x1) s_ended s_limit s_place) (fun s_ended_1 s_limit_2 s_place_3 => some (s_ended_1, s_limit_2, s_place_3))
set_option maxHeartbeats 4000000 in
set_option maxRecDepth 100000 in
theorem c_Eye_start_Eye {l : Launch} {D : va_G} {ar : Nat → ClassId} {fu : Nat} (a_this a_this_bytes a_this_bytes_row : Nat) (x1 : Int32) (s_ended : Int32) (s_limit : Int32) (s_place : Int32) (s_bytes_count : Int32) {r_ended : Int32} {r_limit : Int32} {r_place : Int32} (h : m_Eye_start_Eye fu x1 s_ended s_limit s_place s_bytes_count = some (r_ended, r_limit, r_place)) : StdV l y_Eye_start ws_Eye_start rm_Eye_start_Eye D ar [.ref a_this, .int x1] [(a_this, .inr (2, [.int s_place, .int s_ended, .int s_limit, .ref a_this_bytes])), (a_this_bytes, .inr (1, [.int s_bytes_count, .ref a_this_bytes_row]))] [(a_this, .inr (2, [.int r_place, .int r_ended, .int r_limit, .ref a_this_bytes])), (a_this_bytes, .inr (1, [.int s_bytes_count, .ref a_this_bytes_row]))] := by
  refine sd_metV (cc := prog_3_method_2_code) (maxL := 2) (ret := none) (own := "FreeWavelets$Eye") (by decide) rfl rfl (Nat.le_of_ble_eq_true rfl) ?_
  intro p e s m below meth c A ls C0 hP hD hl
  obtain ⟨hx, hb, hr, hml, hown, hts, hlocks, hA, hK, hZ⟩ := id C0
  have hS : va_S A s.heap s.heap [] := va_S.rf
  have hl : lv_has ls 2 [(0, .ref a_this), (1, .int x1)] := hl
  unfold m_Eye_start_Eye at h
  refine lv_aload_n hx hb d_Eye_start_0 rfl (lv_at hl 0 rfl) ?_
  refine lv_iload_n hx hb d_Eye_start_1 rfl (lv_at hl 1 rfl) ?_
  refine lv_aload_n hx hb d_Eye_start_2 rfl (lv_at hl 0 rfl) ?_
  refine va_get (D := D) (ci := 2) (v := .ref a_this_bytes) (C := R_Eye) (T := F_Eye) (N := 4) hx hb hts in_Eye hown hK hP 0 rfl rfl 3 (by decide) (hts _ k_211) (fun _ h9 => h9) rfl d_Eye_start_3 ?_
  refine va_get (D := D) (ci := 1) (v := .int s_bytes_count) (C := R_Bytes) (T := F_Bytes) (N := 2) hx hb hts in_Bytes hown hK hP 1 rfl rfl 0 (by decide) (hts _ k_165) (fun _ h9 => h9) rfl d_Eye_start_6 ?_
  refine lv_bipush (v := (8 : Int32)) hx hb d_Eye_start_9 (by decide) ?_
  refine lv_imul hx hb d_Eye_start_11 ?_
  refine va_mmin hx hb (hml.trans hl.1.symm) hown (hts _ k_378) (hts _ k_259) (hts _ k_38) (hts _ k_260) (Nat.le_of_ble_eq_true rfl) (Nat.le_of_ble_eq_true rfl) (Nat.zero_le _) (Nat.zero_le _) d_Eye_start_12 ?_
  obtain ⟨s_ended_1, s_limit_2, s_place_3, hcall, h⟩ := bn3_some h
  refine sd_v (wr := [(a_this_bytes, .inr (1, [.int s_bytes_count, .ref a_this_bytes_row]))]) (va_runSU (hK.1 2 _ rfl |>.2) (As := [.int (if (s_bytes_count * (8 : Int32)) < x1 then s_bytes_count * (8 : Int32) else x1)]) (rest := []) ⟨hx, hb, hml, hown, hts⟩ (c_Tape_start_Eye a_this a_this_bytes (if (s_bytes_count * (8 : Int32)) < x1 then s_bytes_count * (8 : Int32) else x1) s_ended s_limit s_place hcall _) (cw_SU 1 hts k_379 k_374 k_217 k_372 k_34 k_385 rfl rfl (by decide +kernel) ⟨Nat.le_of_ble_eq_true rfl, Nat.le_of_ble_eq_true rfl⟩) (sd_preV hK hP hD hS hA hZ [0] (by decide) rfl (va_recv hK hP (ci := 2) (q0 := 0) rfl rfl)) rfl rfl hl.1 rfl (lv_room (Nat.le_of_ble_eq_true rfl)) d_Eye_start_15 ⟨Nat.le_of_ble_eq_true rfl, Nat.le_of_ble_eq_true rfl⟩) hP hD hS hA [0] [1] rfl rfl (by decide) (by decide) (fun H locs hP hD hS => ?_)
  have hP : va_P D vwCl [(a_this_bytes, .inr (1, [.int s_bytes_count, .ref a_this_bytes_row])), (a_this, .inr (2, [.int s_place_3, .int s_ended_1, .int s_limit_2, .ref a_this_bytes]))] H := hP
  have hD : va_D A [(a_this_bytes, .inr (1, [.int s_bytes_count, .ref a_this_bytes_row])), (a_this, .inr (2, [.int s_place_3, .int s_ended_1, .int s_limit_2, .ref a_this_bytes]))] := hD
  cases h
  exact sd_vret hx hb hr hlocks (hP.sub [1, 0] rfl) (hD.sub [1, 0] (by decide) rfl) hK hS d_Eye_start_18
