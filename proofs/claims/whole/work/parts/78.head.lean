theorem thead66 {fu W H i : Nat} {x1 on count limit md : Int32} {fed ins stream waves : Nat → Int32} (hfu : 600 < fu) (hW0 : 0 < W) (hW : W ≤ 16) (hH : H ≤ 16) (hi : i ≤ W * H) :
    Ok (loop1 (m_Md_tellHead_k66 fu x1 (nI i) on count (nI H) limit md (nI W) fed ins stream waves) fu (nI i)) (fun r => ∃ j, r = nI j ∧ i ≤ j ∧ j ≤ W * H ∧ Rm W H ins i on 0 = Rm W H ins j on (j - i) ∧ (j < W * H → px W ins j ≠ on)) := by
  have h256 : W * H ≤ 16 * 16 := Nat.mul_le_mul hW hH
  refine ok_loop1 (fun m x4 => ∃ j, x4 = nI j ∧ i ≤ j ∧ j ≤ W * H ∧ m = W * H - j ∧ Rm W H ins i on 0 = Rm W H ins j on (j - i)) ?_ fu (W * H - i) (nI i) (by omega) ⟨i, rfl, by omega, hi, rfl, by rw [Nat.sub_self]⟩
  rintro rec m _ ⟨j, rfl, h1, h2, rfl, h3⟩ ih
  unfold m_Md_tellHead_k66
  rw [pk_mul]
  refine ok_if (fun c => ?_) (fun c => ?_)
  · have := (nI_leI (by omega) (by omega)).mp c
    exact ok_some ⟨j, rfl, h1, h2, h3, fun q => by omega⟩
  · have c1 : j < W * H := by
      rcases Nat.lt_or_ge j (W * H) with q | q
      · exact q
      · exact absurd (nI_le q (by omega)) c
    have hd : j / W < H := Nat.div_lt_of_lt_mul c1
    have hm : j % W < W := Nat.mod_lt _ hW0
    have hidx : ((16 : Int32) * (nI j / nI W)) + (nI j - nI j / nI W * nI W) = nI (16 * (j / W) + j % W) := by
      rw [pk_rem (by omega) hW0 (by omega), pk_div (by omega) hW0 (by omega), l16, pk_mul, nI_add]
    rw [hidx]
    refine ok_nz (nI_ne0 hW0 (by omega)) (ok_nz (nI_ne0 hW0 (by omega)) (ok_chk (vp_nI (by omega)) ?_))
    rw [nI_clamp (by omega)]
    refine ok_if (fun c2 => ?_) (fun c2 => ?_)
    · refine ok_letB ?_
      rw [nI_1]
      refine ih (W * H - (j + 1)) _ (by omega) ⟨j + 1, rfl, by omega, c1, rfl, ?_⟩
      rw [h3, Rm_eq c1 c2, show j + 1 - i = j - i + 1 by omega]
    · exact ok_some ⟨j, rfl, h1, h2, h3, fun _ q => c2 q⟩
theorem thead124 {fu len : Nat} {x1 x3 x4 count height limit md width : Int32} {fed ins stream waves : Nat → Int32} (hfu : 600 < fu) (hl : len ≤ 256) :
    Ok (loop1 (m_Md_tellHead_k124 fu x1 x3 x4 (nI (len + 1)) count height limit md width fed ins stream waves) fu 0) (fun r => r = nI (Nat.log2 (len + 1))) := by
  have h8 := log_8 hl
  refine ok_loop1 (fun m x6 => ∃ k, x6 = nI k ∧ k ≤ Nat.log2 (len + 1) ∧ m = Nat.log2 (len + 1) - k) ?_ fu (Nat.log2 (len + 1)) 0 (by omega) ⟨0, rfl, by omega, by omega⟩
  rintro rec m _ ⟨k, rfl, h1, rfl⟩ ih
  unfold m_Md_tellHead_k124
  rw [nI_1, shr_nI (by omega) (by omega)]
  have hdl : (len + 1) / 2 ^ (k + 1) ≤ len + 1 := Nat.div_le_self _ _
  refine ok_if (fun c => ?_) (fun c => ?_)
  · have h0 : (len + 1) / 2 ^ (k + 1) ≤ 0 := (nI_leI (b := 0) (by omega) (by decide)).mp c
    have h2 := pow_div0.mp (Nat.eq_zero_of_le_zero h0)
    have := (Nat.log2_lt (n := len + 1) (k := k + 1) (by omega)).mpr h2
    exact ok_some (by rw [show k = Nat.log2 (len + 1) by omega])
  · have c1 : ¬ len + 1 < 2 ^ (k + 1) := fun q => c (by rw [pow_div0.mpr q]; exact Int32.le_refl _)
    have c2 : ¬ Nat.log2 (len + 1) < k + 1 := fun q => c1 ((Nat.log2_lt (by omega)).mp q)
    refine ok_letB ?_
    exact ih (Nat.log2 (len + 1) - (k + 1)) _ (by omega) ⟨k + 1, rfl, by omega, rfl⟩
theorem fl_of {a b : Int32} (ha : a = 0 ∨ a = 1) (hb : b = 0 ∨ b = 1) (h : a ≠ b) : a = fl b := by
  rcases ha with rfl | rfl <;> rcases hb with rfl | rfl
  · exact absurd rfl h
  · rfl
  · rfl
  · exact absurd rfl h
theorem fl_01 {b : Int32} : fl b = 0 ∨ fl b = 1 := by unfold fl; split; exact Or.inr rfl; exact Or.inl rfl
def B01 (ins : Nat → Int32) : Prop := ∀ j, j < 256 → ins j = 0 ∨ ins j = 1
theorem thead50 {fu L W H : Nat} {t : Nat × (Nat → Nat)} {x1 count md : Int32} {fed ins stream waves st0 : Nat → Int32} (hfu : 600 < fu) (hW0 : 0 < W) (hW : W ≤ 16) (hH0 : 0 < H) (hH : H ≤ 16) (hb : B01 ins) (hR : RT md st0 t count stream) (hS : SO t.1 t.2) (hc : t.1 ≤ L) (hL : L ≤ 60000) (hm : md = 0 ∨ md = 1) :
    Ok (loop5 (m_Md_tellHead_k50 fu (nI H) (nI L) md (nI W) fed ins waves) fu x1 0 0 count stream) (fun r => RT md st0 (wrs L (Rm W H ins 0 0 0) t) r.1 r.2 ∧ SO (wrs L (Rm W H ins 0 0 0) t).1 (wrs L (Rm W H ins 0 0 0) t).2) := by
  have h256 : W * H ≤ 16 * 16 := Nat.mul_le_mul hW hH
  have hA : 0 < W * H := Nat.mul_pos hW0 hH0
  generalize hq : wrs L (Rm W H ins 0 0 0) t = R
  refine ok_loop5 (fun m x1 x2 x3 count stream => ∃ i t', x2 = nI i ∧ i ≤ W * H ∧ (x3 = 0 ∨ x3 = 1) ∧ RT md st0 t' count stream ∧ SO t'.1 t'.2 ∧ t'.1 ≤ L ∧ (i < W * H → wrs L (Rm W H ins i x3 0) t' = R) ∧ (i = W * H → t' = R) ∧ ((m = W * H + 1 ∧ i = 0 ∧ x3 = 0) ∨ (m = W * H - i ∧ (i < W * H → px W ins i = x3)))) ?_ fu (W * H + 1) x1 0 0 count stream (by omega) ⟨0, t, rfl, by omega, Or.inl rfl, hR, hS, hc, fun _ => hq, fun q => by omega, Or.inl ⟨rfl, rfl, rfl⟩⟩
  clear hR hS hc hq
  rintro rec m x1 _ on count stream ⟨i, t', rfl, hi, hon, hR, hS, hc, hq1, hq2, hms⟩ ih
  unfold m_Md_tellHead_k50
  rw [pk_mul]
  refine ok_if (fun c => ?_) (fun c => ?_)
  · have := (nI_leI (by omega) (by omega)).mp c
    have e := hq2 (by omega)
    rw [← e]
    exact ok_some ⟨hR, hS⟩
  · have c1 : i < W * H := by
      rcases Nat.lt_or_ge i (W * H) with q | q
      · exact q
      · exact absurd (nI_le q (by omega)) c
    have hq := hq1 c1
    refine ok_bn1 (thead66 hfu hW0 hW hH hi) ?_
    rintro _ ⟨j, rfl, j1, j2, j3, j4⟩
    refine ok_letB ?_
    rw [pk_sub (by omega), nI_1]
    refine ok_bn1 (thead124 hfu (by omega)) ?_
    rintro _ rfl
    have h8 := log_8 (len := j - i) (by omega)
    rw [j3] at hq
    -- what follows once the run is told
    have fin : ∀ (t0 count : Int32) (stream : Nat → Int32), RT md st0 (wrs L (run (j - i)) t') count stream → SO (wrs L (run (j - i)) t').1 (wrs L (run (j - i)) t').2 → Ok (m_Md_tellHead_b172 fu rec on (nI j) t0 count (nI H) (nI L) md (nI W) fed ins stream waves) (fun r => RT md st0 R r.1 r.2 ∧ SO R.1 R.2) := by
      intro t0 count stream gR gS
      have gc := (wrs_le (l := run (j - i)) hc).1
      have key : ∀ o, o = fl on → Ok (rec t0 (nI j) o count stream) (fun r => RT md st0 R r.1 r.2 ∧ SO R.1 R.2) := by
        rintro _ rfl
        rcases Nat.lt_or_ge j (W * H) with q | q
        · have pj : px W ins j = fl on := by
            have hd : j / W < H := Nat.div_lt_of_lt_mul q
            have hmm : j % W < W := Nat.mod_lt _ hW0
            exact fl_of (hb _ (by omega)) hon (j4 q)
          rw [Rm_ne q (j4 q), wrs_app] at hq
          refine ih (W * H - j) _ _ _ _ _ ?_ ⟨j, _, rfl, j2, fl_01, gR, gS, gc, fun _ => ?_, fun q2 => by omega, Or.inr ⟨rfl, fun _ => pj⟩⟩
          · rcases hms with ⟨q1, _, _⟩ | ⟨q1, q2⟩
            · omega
            · have : i ≠ j := fun q3 => j4 q (q3 ▸ q2 c1)
              omega
          · rw [Rm_eq q pj]; exact hq
        · have ej : j = W * H := by omega
          rw [ej, Rm_end, ← ej] at hq
          refine ih 0 _ _ _ _ _ ?_ ⟨j, _, rfl, j2, fl_01, gR, gS, gc, fun q2 => by omega, fun _ => hq, Or.inr ⟨by omega, fun q2 => by omega⟩⟩
          rcases hms with ⟨q1, _, _⟩ | ⟨q1, q2⟩ <;> omega
      unfold m_Md_tellHead_b172 m_Md_tellHead_b185
      refine ok_if (fun c => ?_) (fun c => ?_)
      · exact key _ (if_pos c).symm
      · exact key _ (if_neg c).symm
    have hrun : wrs L (run (j - i)) t' = wrs L (bl (j - i + 1) (Nat.log2 (j - i + 1) + 1)) (wrs L (bl 0 (Nat.log2 (j - i + 1))) t') := wrs_app _ _ _ _
    have hc2 := (wrs_le (l := bl 0 (Nat.log2 (j - i + 1))) hc).1
    refine ok_bn3 (tell_ok (v := 0) (k := Nat.log2 (j - i + 1)) hfu (by decide) (by omega) hR hS hc hL hm) ?_
    rintro r1 count1 stream1 ⟨g1, g2, g3⟩
    dsimp only at g1 g2
    refine ok_if (fun c3 => ?_) (fun c3 => ?_)
    · have e := g1 c3
      rw [wrs_full e] at hrun
      rw [← hrun] at g2 g3
      exact fin _ _ _ g2 g3
    · rw [nI_1]
      refine ok_bn3 (tell_ok (v := j - i + 1) (k := Nat.log2 (j - i + 1) + 1) hfu (by omega) (by omega) g2 g3 hc2 hL hm) ?_
      rintro r2 count2 stream2 ⟨k1, k2, k3⟩
      dsimp only at k2
      rw [← hrun] at k2 k3
      refine ok_if (fun c4 => fin _ _ _ k2 k3) (fun c4 => ok_if (fun c5 => fin _ _ _ k2 k3) (fun c5 => fin _ _ _ k2 k3))
theorem tellHead_ok {fu L W H k : Nat} {t : Nat × (Nat → Nat)} {count md : Int32} {fed ins stream waves st0 : Nat → Int32} (hfu : 600 < fu) (hW0 : 0 < W) (hW : W ≤ 16) (hH0 : 0 < H) (hH : H ≤ 16) (hk : k < 32) (hb : B01 ins) (hpl : Ok (m_Md_planesNow fu ins waves) (fun r => r = nI k)) (hR : RT md st0 t count stream) (hS : SO t.1 t.2) (hc : t.1 ≤ L) (hL : L ≤ 60000) (hm : md = 0 ∨ md = 1) :
    Ok (m_Md_tellHead fu count (nI H) (nI L) md (nI W) fed ins stream waves) (fun r => RT md st0 (wrs L (HB W H k ins) t) r.1 r.2 ∧ SO (wrs L (HB W H k ins) t).1 (wrs L (HB W H k ins) t).2) := by
  have hH4 : wrs L (HB W H k ins) t = wrs L (Rm W H ins 0 0 0) (wrs L (bl k 5) (wrs L (bl (H - 1) 4) (wrs L (bl (W - 1) 4) t))) := by
    unfold HB; rw [wrs_app, wrs_app, wrs_app]
  rw [hH4]
  clear hH4
  have fin : ∀ (t0 count : Int32) (stream : Nat → Int32) (t : Nat × (Nat → Nat)), RT md st0 t count stream → SO t.1 t.2 → t.1 ≤ L → Ok (m_Md_tellHead_b45 fu t0 count (nI H) (nI L) md (nI W) fed ins stream waves) (fun r => RT md st0 (wrs L (Rm W H ins 0 0 0) t) r.1 r.2 ∧ SO (wrs L (Rm W H ins 0 0 0) t).1 (wrs L (Rm W H ins 0 0 0) t).2) := by
    intro t0 count stream t hR hS hc
    unfold m_Md_tellHead_b45
    exact ok_bn2 (thead50 hfu hW0 hW hH0 hH hb hR hS hc hL hm) (fun a1 a2 g => ok_some g)
  have w1 := (wrs_le (l := bl (W - 1) 4) hc).1
  have w2 := (wrs_le (l := bl (H - 1) 4) w1).1
  have w3 := (wrs_le (l := bl k 5) w2).1
  unfold m_Md_tellHead m_Md_tellHead_b44
  rw [nIs1 hW0, nIs1 hH0]
  refine ok_bn3 (tell_ok (v := W - 1) (k := 4) hfu (by omega) (by omega) hR hS hc hL hm) ?_
  rintro r1 c1 s1 ⟨g1, g2, g3⟩
  dsimp only at g1 g2
  refine ok_if (fun q => ?_) (fun q => ?_)
  · have e := g1 q
    rw [wrs_full e, wrs_full e]
    exact fin _ _ _ _ g2 g3 w1
  · refine ok_bn3 (tell_ok (v := H - 1) (k := 4) hfu (by omega) (by omega) g2 g3 w1 hL hm) ?_
    rintro r1 c1 s1 ⟨g1, g2, g3⟩
    dsimp only at g1 g2
    refine ok_if (fun q => ?_) (fun q => ?_)
    · have e := g1 q
      rw [wrs_full e]
      exact fin _ _ _ _ g2 g3 w2
    · refine ok_bn1 hpl ?_
      rintro _ rfl
      refine ok_bn3 (tell_ok (v := k) (k := 5) hfu (by omega) (by omega) g2 g3 w2 hL hm) ?_
      rintro r1 c1 s1 ⟨g1, g2, g3⟩
      exact ok_if (fun _ => fin _ _ _ _ g2 g3 w3) (fun _ => fin _ _ _ _ g2 g3 w3)
