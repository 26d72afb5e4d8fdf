theorem ok_bn23 {α1 α2 α3 α4 α5 α6 α7 α8 α9 α10 α11 α12 α13 α14 α15 α16 α17 α18 α19 α20 α21 α22 α23 ρ : Type} {o : Option (α1 × α2 × α3 × α4 × α5 × α6 × α7 × α8 × α9 × α10 × α11 × α12 × α13 × α14 × α15 × α16 × α17 × α18 × α19 × α20 × α21 × α22 × α23)} {k : α1 → α2 → α3 → α4 → α5 → α6 → α7 → α8 → α9 → α10 → α11 → α12 → α13 → α14 → α15 → α16 → α17 → α18 → α19 → α20 → α21 → α22 → α23 → Option ρ} {P : ρ → Prop} {Q : α1 × α2 × α3 × α4 × α5 × α6 × α7 × α8 × α9 × α10 × α11 × α12 × α13 × α14 × α15 × α16 × α17 × α18 × α19 × α20 × α21 × α22 × α23 → Prop} (h : Ok o Q) (hk : ∀ (a1 : α1) (a2 : α2) (a3 : α3) (a4 : α4) (a5 : α5) (a6 : α6) (a7 : α7) (a8 : α8) (a9 : α9) (a10 : α10) (a11 : α11) (a12 : α12) (a13 : α13) (a14 : α14) (a15 : α15) (a16 : α16) (a17 : α17) (a18 : α18) (a19 : α19) (a20 : α20) (a21 : α21) (a22 : α22) (a23 : α23), Q (a1, a2, a3, a4, a5, a6, a7, a8, a9, a10, a11, a12, a13, a14, a15, a16, a17, a18, a19, a20, a21, a22, a23) → Ok (k a1 a2 a3 a4 a5 a6 a7 a8 a9 a10 a11 a12 a13 a14 a15 a16 a17 a18 a19 a20 a21 a22 a23) P) : Ok (bn23 o k) P := by
  obtain ⟨⟨a1, a2, a3, a4, a5, a6, a7, a8, a9, a10, a11, a12, a13, a14, a15, a16, a17, a18, a19, a20, a21, a22, a23⟩, h1, h2⟩ := h
  rw [bn23_eq h1]
  exact hk a1 a2 a3 a4 a5 a6 a7 a8 a9 a10 a11 a12 a13 a14 a15 a16 a17 a18 a19 a20 a21 a22 a23 h2
/-! THE LAW: what holds of class and reference between two calls -/
def Inv (c : CSt) (r : RSt) : Prop :=
  (∃ W H : Nat, 0 < W ∧ W ≤ 16 ∧ 0 < H ∧ H ≤ 16 ∧ c.1.2.2.2.2.1 = nI H ∧ c.1.2.2.2.2.2.2.1 = nI W ∧ r.2.2.2.1 = nI H ∧ r.2.2.2.2.2.2.2.2.2.2.2.1 = nI W ∧ ID W H c.1.1 c.1.2.1 c.1.2.2.2.1 c.1.2.2.2.2.2.1 c.1.2.2.1 c.1.2.2.2.2.2.2.2.1 c.1.2.2.2.2.2.2.2.2.1 c.1.2.2.2.2.2.2.2.2.2.1 c.1.2.2.2.2.2.2.2.2.2.2.2.1 c.1.2.2.2.2.2.2.2.2.2.2.2.2 r.2.2.2.2.2.2.2.2.2.2.2.2.2.2.1 r.2.2.2.2.2.2.2.2.2.2.2.2.2.2.2.2.2.2.2.2.2.2.2.1) ∧
  IM c.2.2.1.1 c.2.2.1.2 c.2.2.2.2.1.2.2 r.2.2.2.2.2.2.2.2.2.2.1 r.2.2.2.2.2.2.2.2.2.2.2.2.2.2.2.2.2.2.2.2.2.2.1 ∧ (∀ l, l < 4 → c.2.2.2.2.2.2.2.1.2.2.2.1 l = r.2.2.2.2.2.2.2.2.2.2.2.2.2.2.2.2.2.2.2.2.2.2.2.2.2 l) ∧ IF c.2.2.2.1.1 c.2.2.2.1.2 r.2.2.1 r.2.2.2.2.2.2.2.2.2.2.2.2.2.1 ∧
  IR c.2.2.2.2.2.2.2.2.2.2 r.2.2.2.2.1 c.2.1.1 c.2.1.2.2.1 c.2.1.2.2.2.1 c.2.1.2.2.2.2.1 c.2.1.2.2.2.2.2.1 c.2.1.2.1 c.2.1.2.2.2.2.2.2.2.1 r.2.2.2.2.2.2.2.1 r.2.2.2.2.2.2.2.2.1 r.2.2.2.2.2.2.2.2.2.1 r.2.2.2.2.2.2.2.2.2.2.2.2.2.2.2.2.2.2.1 r.2.2.2.2.2.2.2.2.2.2.2.2.2.2.2.2.2.2.2.2.1
theorem lgc (v : Int64) : lg_cmp v v = 0 := by
  unfold lg_cmp
  rw [if_neg (fun q => Int64.lt_irrefl q), if_pos rfl]
theorem tl {fu : Nat} {code rr : Int32} {A : Option Unit} {o v : Int64} (hc : code = rr) (hv : rr = 0 → o = v) (hA : Ok A (fun _ => True)) : Ok (bn1 (m_Md_thrown fu code) (fun r_22 => if r_22 = rr then (if rr = (0 : Int32) then (chk (0 : Int32) 1 (if (lg_cmp o v) = (0 : Int32) then A else none)) else A) else none)) (fun _ => True) := by
  unfold m_Md_thrown
  rw [bn1_eq rfl]
  refine ok_if (fun _ => ok_if (fun z => ok_chk (vp_nI (n := 0) (by decide)) (ok_if (fun _ => hA) (fun q => ?_))) (fun _ => hA)) (fun q => absurd hc q)
  rw [hv z] at q
  exact absurd (lgc v) q
set_option maxHeartbeats 4000000 in
set_option maxRecDepth 100000 in
theorem law_step {fu L : Nat} {xs : Nat → Int32} {rec : Int32 → CSt → RSt → (Nat → Int64) → Option Unit} {x4 : Int32} {cst : CSt} {rst : RSt} {out : Nat → Int64} (hfu : 60000 < fu) (hv : ¬ ((Int32.ofNat L) - (5 : Int32)) < x4 → vp_in x4 L ∧ vp_in (x4 + 1) L ∧ vp_in (x4 + 2) L ∧ vp_in (x4 + 3) L ∧ vp_in (x4 + 4) L) (hI : Inv cst rst) (hr : ¬ ((Int32.ofNat L) - (5 : Int32)) < x4 → ∀ c r o, Inv c r → Ok (rec (x4 + 5) c r o) (fun _ => True)) : Ok (m_Lw_law_k43 fu L xs rec x4 cst rst out) (fun _ => True) := by
  obtain ⟨⟨p0, p1, p2, p3, p4, p5, p6, p7, p8, p9, p10, p11, p12⟩, ⟨s0, s1, s2, s3, s4, s5, s6, s7, s8, s9, s10, s11⟩, ⟨m0, m1⟩, ⟨f0, f1⟩, ⟨n0, n1, n2⟩, ⟨y0, y1, y2⟩, ⟨u0, u1, u2⟩, ⟨w0, w1, w2, w3, w4⟩, ⟨v0, v1, v2, v3, v4⟩, ⟨k0, k1, k2, k3, k4⟩, wr⟩ := cst
  obtain ⟨r0, r1, r2, r3, r4, r5, r6, r7, r8, r9, r10, r11, r12, r13, r14, r15, r16, r17, r18, r19, r20, r21, r22, r23, r24, r25⟩ := rst
  have hI0 := hI
  unfold Inv at hI
  dsimp only at hI
  obtain ⟨⟨W, H, hW0, hW, hH0, hH, rfl, rfl, rfl, rfl, hD⟩, hM, hZ, hF, hR⟩ := hI
  have hfu6 : 600 < fu := by omega
  have hfu2 : 2000 < fu := by omega
  unfold m_Lw_law_k43
  dsimp only
  refine ok_if (fun _ => ok_some True.intro) (fun c0 => ?_)
  obtain ⟨h0, h1, h2, h3, h4⟩ := hv c0
  replace hr := hr c0
  refine ok_chk h0 ?_
  refine ok_if (fun _ => ?_) (fun _ => ?_)
  · refine ok_chk h1 (ok_chk h2 (ok_chk h3 (ok_chk h4 (ok_if (fun c => ?_) (fun c => ?_)))))
    · unfold m_Lw_law_b165
      dsimp only
      refine ok_bn4 (L_mask (code := r0) (on := 0) hfu6 hW hH (Or.inl rfl) hD.2.2.2.2.1 hD.2.1 hD.1) ?_
      rintro a0 a1 a2 a3 hb
      refine ok_chk h1 (ok_chk h2 (ok_chk h3 (ok_chk h4 (ok_if (fun _ => ?_) (fun q => absurd c q)))))
      unfold m_Lw_law_b204
      dsimp only
      refine ok_bn3 hb ?_
      rintro b0 b1 b2 ⟨q1, q2, q3, q4, q5, q6⟩
      refine tl q1 q2 ?_
      unfold m_Lw_law_b237 m_Lw_law_b1055
      refine ok_letB (hr _ _ _ ?_)
      unfold Inv
      exact ⟨⟨W, H, hW0, hW, hH0, hH, rfl, rfl, rfl, rfl, ⟨q6, q5, hD.2.2.1, hD.2.2.2.1, q3, fun q => by obtain ⟨e1, e2⟩ := q4 q; dsimp only at e2; subst e2; exact hD.2.2.2.2.2 e1⟩⟩, hM, hZ, hF, hR⟩
    · unfold m_Lw_law_b165
      dsimp only
      refine ok_bn4 (L_mask (code := r0) (on := 1) hfu6 hW hH (Or.inr rfl) hD.2.2.2.2.1 hD.2.1 hD.1) ?_
      rintro a0 a1 a2 a3 hb
      refine ok_chk h1 (ok_chk h2 (ok_chk h3 (ok_chk h4 (ok_if (fun q => absurd q c) (fun _ => ?_)))))
      unfold m_Lw_law_b204
      dsimp only
      refine ok_bn3 hb ?_
      rintro b0 b1 b2 ⟨q1, q2, q3, q4, q5, q6⟩
      refine tl q1 q2 ?_
      unfold m_Lw_law_b237 m_Lw_law_b1055
      refine ok_letB (hr _ _ _ ?_)
      unfold Inv
      exact ⟨⟨W, H, hW0, hW, hH0, hH, rfl, rfl, rfl, rfl, ⟨q6, q5, hD.2.2.1, hD.2.2.2.1, q3, fun q => by obtain ⟨e1, e2⟩ := q4 q; dsimp only at e2; subst e2; exact hD.2.2.2.2.2 e1⟩⟩, hM, hZ, hF, hR⟩
  refine ok_if (fun _ => ?_) (fun _ => ?_)
  · refine ok_chk h1 (ok_chk h2 (ok_chk h3 (ok_chk h4 (ok_bn4 (L_put (code := r0) hfu6 hW hH hD.2.2.2.2.1 hD.2.2.2.1 hD.2.2.1) ?_))))
    rintro a0 a1 a2 a3 hb
    refine ok_chk h1 (ok_chk h2 (ok_chk h3 (ok_chk h4 (ok_bn3 hb ?_))))
    rintro b0 b1 b2 ⟨q1, q2, q3, q4, q5, q6⟩
    refine tl q1 q2 ?_
    unfold m_Lw_law_b329 m_Lw_law_b1055
    refine ok_letB (hr _ _ _ ?_)
    unfold Inv
    exact ⟨⟨W, H, hW0, hW, hH0, hH, rfl, rfl, rfl, rfl, ⟨hD.1, hD.2.1, q6, q5, q3, fun q => by obtain ⟨e1, e2⟩ := q4 q; dsimp only at e2; subst e2; exact hD.2.2.2.2.2 e1⟩⟩, hM, hZ, hF, hR⟩
  refine ok_if (fun _ => ?_) (fun _ => ?_)
  · refine ok_chk h1 (ok_chk h2 (ok_bn11 (L_wave (code := r0) (rP := r16) (pile := r17) (rw' := r24) hfu6 hW hH hD) ?_))
    rintro a0 a1 a2 a3 a4 a5 a6 a7 a8 a9 a10 hb
    refine ok_chk h1 (ok_chk h2 (ok_bn5 hb ?_))
    rintro b0 b1 b2 b3 b4 ⟨q1, q2, q3⟩
    refine tl q1 q2 ?_
    unfold m_Lw_law_b397 m_Lw_law_b1055
    refine ok_letB (hr _ _ _ ?_)
    unfold Inv
    exact ⟨⟨W, H, hW0, hW, hH0, hH, rfl, rfl, rfl, rfl, q3⟩, hM, hZ, hF, hR⟩
  refine ok_if (fun _ => ?_) (fun _ => ?_)
  · refine ok_chk h1 (ok_bn21 (L_encode (code := r0) (cnt := r1) (lim := r5) (md := r6) (below := r12) (fed := r13) (opn := r15) (rP := r16) (pile := r17) (sizes := r21) (rw' := r24) hfu2 hW0 hW hH0 hH hD hM hZ) ?_)
    rintro a0 a1 a2 a3 a4 a5 a6 a7 a8 a9 a10 a11 a12 a13 a14 a15 a16 a17 a18 a19 a20 hb
    refine ok_chk h1 (ok_bn14 hb ?_)
    rintro b0 b1 b2 b3 b4 b5 b6 b7 b8 b9 b10 b11 b12 b13 ⟨q1, q2, q3, q4, q5⟩
    refine tl q1 q2 ?_
    unfold m_Lw_law_b453 m_Lw_law_b1055
    refine ok_letB (hr _ _ _ ?_)
    unfold Inv
    exact ⟨⟨W, H, hW0, hW, hH0, hH, rfl, rfl, rfl, rfl, q3⟩, q4, q5, hF, hR⟩
  refine ok_if (fun _ => ?_) (fun _ => ?_)
  · refine ok_chk h1 (ok_bn2 (L_byteAt (code := r0) hM) ?_)
    rintro a0 a1 hb
    refine ok_chk h1 (ok_bn2 hb ?_)
    rintro b0 b1 ⟨q1, q2⟩
    refine tl q1 q2 ?_
    unfold m_Lw_law_b509 m_Lw_law_b1055
    refine ok_letB (hr _ _ _ ?_)
    unfold Inv
    exact ⟨⟨W, H, hW0, hW, hH0, hH, rfl, rfl, rfl, rfl, hD⟩, hM, hZ, hF, hR⟩
  refine ok_if (fun _ => ?_) (fun _ => ?_)
  · refine ok_chk h1 (ok_bn2 (L_zeros (code := r0) hZ) ?_)
    rintro a0 a1 hb
    refine ok_chk h1 (ok_bn2 hb ?_)
    rintro b0 b1 ⟨q1, q2⟩
    refine tl q1 q2 ?_
    unfold m_Lw_law_b565 m_Lw_law_b1055
    refine ok_letB (hr _ _ _ ?_)
    unfold Inv
    exact ⟨⟨W, H, hW0, hW, hH0, hH, rfl, rfl, rfl, rfl, hD⟩, hM, hZ, hF, hR⟩
  refine ok_if (fun _ => ?_) (fun _ => ?_)
  · refine ok_chk h1 (ok_chk h2 (ok_bn19 (L_error (code := r0) (cnt := r1) (lim := r5) (md := r6) (below := r12) (fed := r13) (opn := r15) (rP := r16) (pile := r17) (sizes := r21) (stream := r22) (rw' := r24) (zeros := r25) hfu2 hW0 hW hH0 hH hD) ?_))
    rintro a0 a1 a2 a3 a4 a5 a6 a7 a8 a9 a10 a11 a12 a13 a14 a15 a16 a17 a18 hb
    refine ok_chk h1 (ok_chk h2 (ok_bn13 hb ?_))
    rintro b0 b1 b2 b3 b4 b5 b6 b7 b8 b9 b10 b11 b12 ⟨q1, q2, q3, q4, q5⟩
    refine tl q1 q2 ?_
    unfold m_Lw_law_b632 m_Lw_law_b1055
    refine ok_letB (hr _ _ _ ?_)
    unfold Inv
    exact ⟨⟨W, H, hW0, hW, hH0, hH, rfl, rfl, rfl, rfl, q3⟩, (by dsimp only at q4; rw [q4]; exact hM), (fun l hl => (hZ l hl).trans (q5 l hl).symm), hF, hR⟩
  refine ok_if (fun _ => ?_) (fun _ => ?_)
  · refine ok_chk h1 (ok_bn4 (L_feed (code := r0) hF) ?_)
    rintro a0 a1 a2 a3 hb
    refine ok_chk h1 (ok_bn4 hb ?_)
    rintro b0 b1 b2 b3 ⟨q1, q2, q3⟩
    refine tl q1 q2 ?_
    unfold m_Lw_law_b688 m_Lw_law_b1055
    refine ok_letB (hr _ _ _ ?_)
    unfold Inv
    exact ⟨⟨W, H, hW0, hW, hH0, hH, rfl, rfl, rfl, rfl, hD⟩, hM, hZ, q3, hR⟩
  refine ok_if (fun _ => ?_) (fun _ => ?_)
  · refine ok_chk h1 (ok_chk h2 (ok_bn4 (L_pass (code := r0) hfu hF hM) ?_))
    rintro a0 a1 a2 a3 hb
    refine ok_chk h1 (ok_chk h2 (ok_bn4 hb ?_))
    rintro b0 b1 b2 b3 ⟨q1, q2, q3⟩
    refine tl q1 q2 ?_
    unfold m_Lw_law_b756 m_Lw_law_b1055
    refine ok_letB (hr _ _ _ ?_)
    unfold Inv
    exact ⟨⟨W, H, hW0, hW, hH0, hH, rfl, rfl, rfl, rfl, hD⟩, hM, hZ, q3, hR⟩
  refine ok_if (fun _ => ?_) (fun _ => ?_)
  · refine ok_chk h1 (ok_chk h2 (ok_bn3 (L_alter (code := r0) hF) ?_))
    rintro a0 a1 a2 hb
    refine ok_chk h1 (ok_chk h2 (ok_bn3 hb ?_))
    rintro b0 b1 b2 ⟨q1, q2, q3⟩
    refine tl q1 q2 ?_
    unfold m_Lw_law_b824 m_Lw_law_b1055
    refine ok_letB (hr _ _ _ ?_)
    unfold Inv
    exact ⟨⟨W, H, hW0, hW, hH0, hH, rfl, rfl, rfl, rfl, hD⟩, hM, hZ, q3, hR⟩
  refine ok_if (fun _ => ?_) (fun _ => ?_)
  · refine ok_chk h1 (ok_bn23 (L_decode (code := r0) (cnt := r1) (lim := r5) (md := r6) (below := r12) (opn := r15) (pile := r17) (rPart := r19) (sizes := r21) (stream := r22) (zeros := r25) hfu2 hF hR) ?_)
    rintro a0 a1 a2 a3 a4 a5 a6 a7 a8 a9 a10 a11 a12 a13 a14 a15 a16 a17 a18 a19 a20 a21 a22 hb
    refine ok_chk h1 (ok_bn18 hb ?_)
    rintro b0 b1 b2 b3 b4 b5 b6 b7 b8 b9 b10 b11 b12 b13 b14 b15 b16 b17 ⟨q1, q2, q3, q4, q5⟩
    refine tl q1 q2 ?_
    unfold m_Lw_law_b880 m_Lw_law_b1055
    refine ok_letB (hr _ _ _ ?_)
    unfold Inv
    exact ⟨⟨W, H, hW0, hW, hH0, hH, rfl, rfl, rfl, rfl, hD⟩, (by dsimp only at q3; rw [q3]; exact hM), (fun l hl => (hZ l hl).trans (q4 l hl).symm), hF, q5⟩
  refine ok_if (fun _ => ?_) (fun _ => ?_)
  · refine ok_chk h1 (ok_chk h2 (ok_bn2 (L_at (code := r0) hR) ?_))
    rintro a0 a1 hb
    refine ok_chk h1 (ok_chk h2 (ok_bn2 hb ?_))
    rintro b0 b1 ⟨q1, q2⟩
    refine tl q1 q2 ?_
    unfold m_Lw_law_b948 m_Lw_law_b1055
    refine ok_letB (hr _ _ _ ?_)
    unfold Inv
    exact ⟨⟨W, H, hW0, hW, hH0, hH, rfl, rfl, rfl, rfl, hD⟩, hM, hZ, hF, hR⟩
  refine ok_if (fun _ => ?_) (fun _ => ?_)
  · refine ok_chk h1 (ok_chk h2 (ok_bn11 (L_part (code := r0) (rP := r16) (pile := r17) hfu6 hW hH hD) ?_))
    rintro a0 a1 a2 a3 a4 a5 a6 a7 a8 a9 a10 hb
    refine ok_chk h1 (ok_chk h2 (ok_bn4 hb ?_))
    rintro b0 b1 b2 b3 ⟨q1, q2, q3⟩
    refine tl q1 q2 ?_
    unfold m_Lw_law_b1016 m_Lw_law_b1055
    refine ok_letB (hr _ _ _ ?_)
    unfold Inv
    exact ⟨⟨W, H, hW0, hW, hH0, hH, rfl, rfl, rfl, rfl, q3⟩, hM, hZ, hF, hR⟩
  refine ok_if (fun _ => ?_) (fun _ => ?_)
  · obtain ⟨n', s', g1, g2, g3, g4, g5⟩ := hM
    obtain ⟨m', F', i1, i2, i3, i4, i5⟩ := hF
    refine ok_chk h1 (ok_bn13 (L_told (code := r0) (cnt := r1) (lim := r5) (md := r6) (below := r12) (fed := r13) (opn := r15) (rP := r16) (pile := r17) (rPart := r19) (sizes := r21) (stream := r22) (rw' := r24) hfu2 hW0 hW hH0 hH hD (g3.trans g4.symm) (i2.trans i3.symm) hR) ?_)
    rintro a0 a1 a2 a3 a4 a5 a6 a7 a8 a9 a10 a11 a12 hb
    refine ok_chk h1 (ok_bn13 hb ?_)
    rintro b0 b1 b2 b3 b4 b5 b6 b7 b8 b9 b10 b11 b12 ⟨q1, q2, q3⟩
    refine ok_if (fun _ => ?_) (fun q => absurd q1 q)
    unfold m_Lw_law_b1055
    refine ok_letB (hr _ _ _ ?_)
    unfold Inv
    dsimp only at q3
    subst q3
    exact ⟨⟨W, H, hW0, hW, hH0, hH, rfl, rfl, rfl, rfl, q2⟩, ⟨n', s', g1, g2, g3, g4, g5⟩, hZ, ⟨m', F', i1, i2, i3, i4, i5⟩, hR⟩
  refine ok_if (fun _ => ?_) (fun _ => ?_)
  · obtain ⟨m', F', i1, i2, i3, i4, i5⟩ := hF
    refine ok_bn20 (L_clear (code := r0) (fm := r2) (isRead := r4) (sb := r10) (rin := r14) (rval := r23) (zeros := r25) hfu6 hW hH) ?_
    rintro a0 a1 a2 a3 a4 a5 a6 a7 a8 a9 a10 a11 a12 a13 a14 a15 a16 a17 a18 a19 hb
    refine ok_bn7 hb ?_
    rintro b0 b1 b2 b3 b4 b5 b6 ⟨q1, q2, q3, q4, q5, q6, q7, q8, q9, q10, z1, z2, z3, z4, z5, z6, z7⟩
    dsimp only at q1 q2 q3 q4 q5 q6 q7 q8 q9 q10 z1 z2 z3 z4 z5 z6 z7
    unfold m_Lw_law_b1055
    refine ok_letB (hr _ _ _ ?_)
    unfold Inv
    exact ⟨⟨W, H, hW0, hW, hH0, hH, q3, q4, rfl, rfl, ⟨fun j hj => Or.inl (q6 j hj), fun j hj _ => q6 j hj⟩, fun j hj => (q6 j hj).trans (z5 j hj).symm, fun j hj => (by show 0 ≤ (a2 j).toInt ∧ (a2 j).toInt ≤ 255; rw [q5 j hj]; decide), fun j hj => (q5 j hj).trans (z6 j hj).symm, Or.inr q2, fun q => absurd (q2.symm.trans q) (by decide)⟩, ⟨0, fun _ => 0, by decide, q8, q9, z4, fun j hj => absurd hj (Nat.not_lt_zero _)⟩, fun l hl => (q10 l hl).trans (z7 l hl).symm, ⟨0, F', by decide, q7, z2, i4, i5⟩, Or.inl ⟨q1, z3⟩⟩
  unfold m_Lw_law_b1055
  exact ok_letB (hr _ _ _ hI0)
theorem law_run {fu L : Nat} {xs : Nat → Int32} {cst : CSt} {rst : RSt} {out : Nat → Int64} (hfu : 60000 < fu) (hL : L ≤ 2562) (hI : Inv cst rst) : Ok (loop4 (m_Lw_law_k43 fu L xs) 513 2 cst rst out) (fun _ => True) := by
  refine ok_loop4 (fun m x4 c r o => ∃ i, x4 = nI i ∧ i ≤ 3000 ∧ m = (L - i) / 5 ∧ Inv c r) ?_ 513 ((L - 2) / 5) 2 cst rst out (by omega) ⟨2, rfl, by omega, rfl, hI⟩
  clear hI
  rintro rec m _ c r o ⟨i, rfl, hi, rfl, hI⟩ ih
  have key : ¬ ((Int32.ofNat L) - (5 : Int32)) < nI i → i + 5 ≤ L := by
    intro h
    have e : ((Int32.ofNat L) - (5 : Int32)).toInt = (L : Int) - 5 := pk_sub_toInt (a := L) (b := 5) (by omega) (by decide)
    rw [Int32.lt_iff_toInt_lt, e, nI_toInt (by omega)] at h
    omega
  refine law_step hfu (fun h => ?_) hI (fun h c r o hc => ?_)
  · have hk := key h
    have e1 : nI i + 1 = nI (i + 1) := nI_add i 1
    have e2 : nI i + 2 = nI (i + 2) := nI_add i 2
    have e3 : nI i + 3 = nI (i + 3) := nI_add i 3
    have e4 : nI i + 4 = nI (i + 4) := nI_add i 4
    rw [e1, e2, e3, e4]
    exact ⟨vp_nI (by omega) (by omega), vp_nI (by omega) (by omega), vp_nI (by omega) (by omega), vp_nI (by omega) (by omega), vp_nI (by omega) (by omega)⟩
  · have hk := key h
    exact ih ((L - (i + 5)) / 5) _ _ _ _ (by omega) ⟨i + 5, nI_add i 5, by omega, rfl, hc⟩
theorem side_or (fu : Nat) (X : Int32) : ∃ W : Nat, 0 < W ∧ W ≤ 16 ∧ m_FW_nearestSide fu X = some (nI W) ∧ clW X = nI W := by
  unfold m_FW_nearestSide clW
  have h16 : (16 : Int32).toInt = 16 := by decide
  have h1 : (1 : Int32).toInt = 1 := by decide
  by_cases c : X < 16
  · have c' := c
    rw [Int32.lt_iff_toInt_lt, h16] at c'
    by_cases d : (1 : Int32) ≤ X
    · have d' := d
      rw [Int32.le_iff_toInt_le, h1] at d'
      refine ⟨X.toInt.toNat, by omega, by omega, ?_, ?_⟩
      · have e : X = nI X.toInt.toNat := of_toInt (by omega) (by omega)
        rw [if_pos c, ← e]
        by_cases g : (1 : Int32) < X
        · rw [if_pos g]
        · rw [if_neg g]
          rw [Int32.lt_iff_toInt_lt, h1] at g
          exact congrArg some (Int32.toInt_inj.mp (by rw [h1]; omega))
      · rw [if_pos d, if_pos (show X ≤ 16 by rw [Int32.le_iff_toInt_le, h16]; omega)]
        exact of_toInt (by omega) (by omega)
    · have d' := d
      rw [Int32.le_iff_toInt_le, h1] at d'
      refine ⟨1, by decide, by decide, ?_, ?_⟩
      · rw [if_pos c, if_neg (show ¬ (1 : Int32) < X by rw [Int32.lt_iff_toInt_lt, h1]; omega)]
        rfl
      · rw [if_neg d]
        rfl
  · have c' := c
    rw [Int32.lt_iff_toInt_lt, h16] at c'
    refine ⟨16, by decide, by decide, ?_, ?_⟩
    · rw [if_neg c, if_pos (show (1 : Int32) < 16 by decide)]
      rfl
    · rw [if_pos (show (1 : Int32) ≤ X by rw [Int32.le_iff_toInt_le, h1]; omega)]
      by_cases g : X ≤ 16
      · rw [if_pos g]
        rw [Int32.le_iff_toInt_le, h16] at g
        exact of_toInt (by omega) (by decide)
      · rw [if_neg g]
        rfl
theorem ls0 {L v : Nat → Int32} {st : Nat} {ac od bk : Int32} (hL : ∀ j, j < 256 → L j = -1) : EqT (ls L st ac od bk v) v := fun j hj => ls_n (fun q => q.1 (hL j hj))
theorem fwd0 {L v : Nat → Int32} (hL : ∀ j, j < 256 → L j = -1) : EqT (fwd L v) v := by
  have h4 : ∀ (st : Nat) (v : Nat → Int32), EqT (f4 L st v) v := fun st v => (ls0 hL).trans ((ls0 hL).trans ((ls0 hL).trans (ls0 hL)))
  exact (h4 _ _).trans ((h4 _ _).trans (h4 _ _))
theorem mxf0 {ins w : Nat → Int32} {n : Nat} (h : ∀ j, j < 256 → ins j = 0) (hn : n ≤ 256) : mxf ins w n = 0 := by
  induction n with
  | zero => rfl
  | succ n ih => rw [mxf_succ, if_pos (h n (by omega))]; exact ih (by omega)
