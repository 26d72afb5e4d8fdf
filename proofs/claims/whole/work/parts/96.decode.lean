/-! FACES: decode -/
def clp (x : Int32) : Int32 := if 0 ≤ x then (if x ≤ 255 then x else 255) else 0
theorem clp_c (x : Int32) : (if (0 : Int32) < (if x < 255 then x else 255) then (if x < 255 then x else 255) else 0) = clp x := by
  unfold clp
  have h255 : (255 : Int32).toInt = 255 := by decide
  by_cases c : x < 255
  · rw [if_pos c]
    have c' := c
    rw [Int32.lt_iff_toInt_lt, h255] at c'
    by_cases d : (0 : Int32) ≤ x
    · have d' := d
      rw [Int32.le_iff_toInt_le, i32_0] at d'
      rw [if_pos d, if_pos (show x ≤ 255 by rw [Int32.le_iff_toInt_le, h255]; omega)]
      by_cases e : (0 : Int32) < x
      · rw [if_pos e]
      · rw [if_neg e]
        rw [Int32.lt_iff_toInt_lt, i32_0] at e
        have e0 : x.toInt = 0 := by omega
        exact Int32.toInt_inj.mp (by rw [i32_0, e0])
    · have d' := d
      rw [Int32.le_iff_toInt_le, i32_0] at d'
      rw [if_neg d, if_neg (show ¬ (0 : Int32) < x by rw [Int32.lt_iff_toInt_lt, i32_0]; omega)]
  · rw [if_neg c, if_pos (show (0 : Int32) < 255 by decide)]
    have c' := c
    rw [Int32.lt_iff_toInt_lt, h255] at c'
    rw [if_pos (show (0 : Int32) ≤ x by rw [Int32.le_iff_toInt_le, i32_0]; omega)]
    by_cases e : x ≤ 255
    · rw [if_pos e]
      rw [Int32.le_iff_toInt_le, h255] at e
      exact Int32.toInt_inj.mp (by rw [h255]; omega)
    · rw [if_neg e]
theorem restore_ok {fu W H : Nat} {smp P waves known : Nat → Int32} (hfu : 600 < fu) (hW : W ≤ 16) (hH : H ≤ 16) (hO : POut W H P) : Ok (m_Picture_restore fu smp (nI H) (nI W) P waves known) (fun r => ∀ j, j < 256 → r.1 j = clp (bwd P known j)) := by
  unfold m_Picture_restore
  refine ok_bn1 (back_ok hfu hW hH hO) ?_
  rintro w hw
  have hw2 : EqT w (bwd P known) := hw.trans (bwd_congr EqT.refl cpy_eqT)
  refine ok_bn1 (Q := fun r => ∀ j, j < 256 → r j = clp (bwd P known j)) ?_ (fun o h => ok_some h)
  refine ok_loop2 (fun m x s => ∃ i, x = nI i ∧ i ≤ 256 ∧ m = 256 - i ∧ ∀ j, j < i → s j = clp (bwd P known j)) ?_ fu 256 0 smp (by omega) ⟨0, rfl, by omega, rfl, fun j hj => absurd hj (Nat.not_lt_zero _)⟩
  rintro rec m _ s ⟨i, rfl, q1, rfl, q3⟩ ih
  unfold m_Picture_restore_k22
  refine ok_if (fun c => ?_) (fun c => ?_)
  · have := (nI_leI (a := 256) (by decide) (by omega)).mp c
    exact ok_some (fun j hj => q3 j (by omega))
  · have c1 : i < 256 := by
      rcases Nat.lt_or_ge i 256 with r | r
      · exact r
      · exact absurd (nI_le (a := 256) r (by omega)) c
    rw [nI_clamp (by omega), clp_c]
    refine ok_chk (vp_nI c1) (ok_letB (ok_chk (vp_nI c1) (ok_letB ?_)))
    rw [nI_1]
    refine ih (256 - (i + 1)) _ _ (by omega) ⟨i + 1, rfl, c1, rfl, fun j hj => ?_⟩
    by_cases e : j = i
    · rw [e, pk_us, hw2 i c1]
    · rw [pk_un e]; exact q3 j (by omega)
theorem dec71 {fu : Nat} {x0 x1 x2 x3 x4 x5 x6 x7 x8 : Int32} {v0 v1 v2 v3 v4 v5 v6 v7 v8 vals : Nat → Int32} (hfu : 600 < fu) : Ok (loop2 (m_Md_decode_k71 fu x0 x1 x2 x3 x4 x5 x6 x7 x8 v0 v1 v2 v3 v4 v5 v6 v7 v8) fu 0 vals) (fun r => ∀ j, j < 256 → r j = 0) := by
  refine ok_loop2 (fun m x s => ∃ i, x = nI i ∧ i ≤ 256 ∧ m = 256 - i ∧ ∀ j, j < i → s j = 0) ?_ fu 256 0 vals (by omega) ⟨0, rfl, by omega, rfl, fun j hj => absurd hj (Nat.not_lt_zero _)⟩
  rintro rec m _ s ⟨i, rfl, q1, rfl, q3⟩ ih
  unfold m_Md_decode_k71
  refine ok_if (fun c => ?_) (fun c => ?_)
  · have := (nI_leI (a := 256) (by decide) (by omega)).mp c
    exact ok_some (fun j hj => q3 j (by omega))
  · have c1 : i < 256 := by
      rcases Nat.lt_or_ge i 256 with r | r
      · exact r
      · exact absurd (nI_le (a := 256) r (by omega)) c
    refine ok_chk (vp_nI c1) (ok_letB ?_)
    rw [nI_1, nI_clamp (by omega)]
    refine ih (256 - (i + 1)) _ _ (by omega) ⟨i + 1, rfl, c1, rfl, fun j hj => ?_⟩
    by_cases e : j = i
    · rw [e, pk_us]
    · rw [pk_un e]; exact q3 j (by omega)
theorem dec122 {fu : Nat} {x0 x1 x2 x3 x4 x5 x6 x7 x8 : Int32} {below v1 v2 v3 v4 v5 sizes v7 v8 vals : Nat → Int32} (hfu : 600 < fu) : Ok (loop2 (m_Md_decode_k122 fu x0 x1 x2 x3 x4 x5 x6 x7 x8 below v1 v2 v3 v4 v5 sizes v7 v8) fu 0 vals) (fun r => ∀ j, j < 256 → r j = if below j = 0 then sizes j else -(sizes j)) := by
  refine ok_loop2 (fun m x s => ∃ i, x = nI i ∧ i ≤ 256 ∧ m = 256 - i ∧ ∀ j, j < i → s j = if below j = 0 then sizes j else -(sizes j)) ?_ fu 256 0 vals (by omega) ⟨0, rfl, by omega, rfl, fun j hj => absurd hj (Nat.not_lt_zero _)⟩
  rintro rec m _ s ⟨i, rfl, q1, rfl, q3⟩ ih
  unfold m_Md_decode_k122 m_Md_decode_b159
  refine ok_if (fun c => ?_) (fun c => ?_)
  · have := (nI_leI (a := 256) (by decide) (by omega)).mp c
    exact ok_some (fun j hj => q3 j (by omega))
  · have c1 : i < 256 := by
      rcases Nat.lt_or_ge i 256 with r | r
      · exact r
      · exact absurd (nI_le (a := 256) r (by omega)) c
    rw [nI_clamp (by omega), nI_1]
    have fin : ∀ v, v = (if below i = 0 then sizes i else -(sizes i)) → Ok (rec (nI (i + 1)) (upd s i v)) (fun r => ∀ j, j < 256 → r j = if below j = 0 then sizes j else -(sizes j)) := by
      rintro _ rfl
      refine ih (256 - (i + 1)) _ _ (by omega) ⟨i + 1, rfl, c1, rfl, fun j hj => ?_⟩
      by_cases e : j = i
      · rw [e, pk_us]
      · rw [pk_un e]; exact q3 j (by omega)
    exact ok_chk (vp_nI c1) (ok_if (fun c2 => ok_chk (vp_nI c1) (ok_chk (vp_nI c1) (ok_letB (fin _ (if_pos c2).symm)))) (fun c2 => ok_chk (vp_nI c1) (ok_chk (vp_nI c1) (ok_letB (fin _ (if_neg c2).symm)))))
theorem dec179 {fu : Nat} {x0 x1 x2 x3 x4 x5 x6 x7 x8 : Int32} {v0 v1 v2 v3 v4 v5 v6 v7 v8 vals : Nat → Int32} (hfu : 600 < fu) : Ok (loop2 (m_Md_decode_k179 fu x0 x1 x2 x3 x4 x5 x6 x7 x8 v0 v1 v2 v3 v4 v5 v6 v7 v8) fu 0 vals) (fun r => ∀ j, j < 256 → r j = clp (vals j)) := by
  refine ok_loop2 (fun m x s => ∃ i, x = nI i ∧ i ≤ 256 ∧ m = 256 - i ∧ (∀ j, j < i → s j = clp (vals j)) ∧ ∀ j, i ≤ j → s j = vals j) ?_ fu 256 0 vals (by omega) ⟨0, rfl, by omega, rfl, fun j hj => absurd hj (Nat.not_lt_zero _), fun _ _ => rfl⟩
  rintro rec m _ s ⟨i, rfl, q1, rfl, q3, q4⟩ ih
  unfold m_Md_decode_k179 m_Md_decode_b228
  refine ok_if (fun c => ?_) (fun c => ?_)
  · have := (nI_leI (a := 256) (by decide) (by omega)).mp c
    exact ok_some (fun j hj => q3 j (by omega))
  · have c1 : i < 256 := by
      rcases Nat.lt_or_ge i 256 with r | r
      · exact r
      · exact absurd (nI_le (a := 256) r (by omega)) c
    rw [nI_clamp (by omega), nI_1, q4 i (Nat.le_refl _)]
    have fin : ∀ v, v = clp (vals i) → Ok (rec (nI (i + 1)) (upd s i v)) (fun r => ∀ j, j < 256 → r j = clp (vals j)) := by
      rintro _ rfl
      refine ih (256 - (i + 1)) _ _ (by omega) ⟨i + 1, rfl, c1, rfl, fun j hj => ?_, fun j hj => ?_⟩
      · by_cases e : j = i
        · rw [e, pk_us]
        · rw [pk_un e]; exact q3 j (by omega)
      · rw [pk_un (by omega)]; exact q4 j (by omega)
    unfold clp at fin
    refine ok_chk (vp_nI c1) (ok_if (fun c2 => ok_chk (vp_nI c1) (ok_if (fun c3 => ok_chk (vp_nI c1) (ok_chk (vp_nI c1) (ok_letB (fin _ ?_)))) (fun c3 => ok_chk (vp_nI c1) (ok_letB (fin _ ?_))))) (fun c2 => ok_chk (vp_nI c1) (ok_letB (fin _ ?_))))
    · rw [if_pos c2, if_pos c3]
    · rw [if_pos c2, if_neg c3]
    · rw [if_neg c2]
/-- what is read -/
noncomputable def ZZ (F : Nat → Nat) (L k : Nat) (t : Nat × (Nat → Nat)) (ins : Nat → Int32) : (Nat × (Nat → Nat)) × Bool × (Nat → Nat) × (Nat → Int32) × (Nat → Int32) × (Nat → Int32) := gos 2 F L ins (fun _ => 0) k (xx t)
noncomputable def VV (F : Nat → Nat) (L k : Nat) (t : Nat × (Nat → Nat)) (ins : Nat → Int32) : Nat → Int32 := bwd (lab ins 256).1 (kv (ZZ F L k t ins).2.2.1 (ZZ F L k t ins).2.2.2.1)
theorem bd0 : Bd 0 (fun _ => (0 : Int32)) := fun _ _ => by show -(0 : Int) ≤ (0 : Int32).toInt ∧ (0 : Int32).toInt ≤ 0; decide
theorem C_dec {fu L m : Nat} {F : Nat → Nat} {X wasRead ee el ep rpl planes count height parts width : Int32} {frow rg rk rl ro smp f ins P q z waves : Nat → Int32} (hfu : 600 < fu) (hm : m ≤ 2400) (hF : FE F frow) (hX : ¬ X < 0 ∧ X ≤ 60000) (hL : (if (nI m * 8) < X then nI m * 8 else X) = nI L) (hL2 : L ≤ 19200) :
    Ok (m_FW_decode fu X wasRead ee el ep (nI m) frow rpl rg rk rl ro planes smp count height parts width f ins P q z waves) (Sum.elim (fun u => (RH L F t00 = none ∧ u.1 = -1 ∧ u.2.1 = 0) ∨ (∃ W H k t' insS, RH L F t00 = some (W, H, k, t', insS) ∧ TS L t' ∧ u.1 = nI (ZZ F L k t' insS).1.1 ∧ u.2.1 = 1 ∧ u.2.2.2.2.2.2.2.2.2.2.1 = nI k ∧ u.2.2.2.2.2.2.2.2.2.2.2.2.2.1 = nI H ∧ u.2.2.2.2.2.2.2.2.2.2.2.2.2.2.2.1 = nI W ∧ EqT u.2.2.2.2.2.2.2.2.2.2.2.2.2.2.2.2.2.1 insS ∧ u.2.2.2.2.2.2.2.2.2.2.2.2.1 = nI (cn (lab insS 256).1 256) ∧ u.2.2.2.2.2.2.2.2.2.2.2.2.2.2.1 = nI (lab insS 256).2 ∧ ∀ j, j < 256 → u.2.2.2.2.2.2.2.2.2.2.2.1 j = clp (VV F L k t' insS j))) (fun _ => False)) := by
  unfold m_FW_decode m_Eye_start_Eye m_Tape_start_Eye
  refine ok_if (fun c => absurd c hX.1) (fun _ => ok_if (fun _ => ?_) (fun c => absurd hX.2 c))
  rw [hL]
  refine ok_bn3 (Q := fun r => r = (0, nI L, 0)) (ok_bn3 (Q := fun r => r = (0, nI L, 0)) (ok_some rfl) (fun c1 c2 c3 hc => ?_)) ?_
  · have e1 : c1 = 0 := congrArg Prod.fst hc
    have e2 : c2 = nI L := congrArg (fun u => u.2.1) hc
    have e3 : c3 = 0 := congrArg (fun u => u.2.2) hc
    subst e1 e2 e3
    exact ok_some rfl
  rintro c1 c2 c3 hc
  have e1 : c1 = 0 := congrArg Prod.fst hc
  have e2 : c2 = nI L := congrArg (fun u => u.2.1) hc
  have e3 : c3 = 0 := congrArg (fun u => u.2.2) hc
  subst e1 e2 e3
  have hC : CX_Eye L F frow := ⟨hL2, hF⟩
  have htp : TP_Eye L t00 0 0 := ⟨rfl, Nat.zero_le _, Or.inl rfl, SO.zero⟩
  refine ok_bn14 (read_Eye hfu hC htp) ?_
  rintro r d1 d2 d3 d4 d5 d6 d7 d8 d9 d10 d11 d12 d13 (⟨g1, g2⟩ | ⟨g1, W, H, k, t', insS, g2, g3, g4, g5, g6, g7, g8⟩)
  · exact ok_if (fun _ => ok_some (Or.inl ⟨g2, rfl, rfl⟩)) (fun c => absurd g1 c)
  · dsimp only at g1 g3 g4 g5 g6 g7 g8
    obtain ⟨hW0, hW, hH0, hH, hk, hG⟩ := RH_facts g2
    subst g1 g3 g4 g5
    refine ok_if (fun c => absurd c (by decide)) (fun _ => ?_)
    have hO : Out W H d7 := fun j hj h2 => by rw [g6 j hj]; exact hG.2 j hj h2
    refine ok_bn6 (find_ok hfu hW hH hO) ?_
    rintro e1 e2 e3 e4 e5 e6 hFP
    dsimp only at hFP
    have hB : Bd 0 d11 := bd0.congr g7
    obtain ⟨b0, hb0, hb1⟩ := CE_of g8.2.2.1
    refine ok_bn7 (cwalk_Eye (F := F) (b0 := b0) hfu hC hk hB (by decide) ⟨g8.2.2.2, g8.2.1⟩ ⟨g8, hb0⟩ True.intro) ?_
    rintro h1 h2 h3 h4 h5 h6 h7 ⟨hT, hN⟩
    dsimp only at hT hN
    rw [gos_congr g6 (w := d11) (v := fun _ => 0) g7] at hT hN
    have hgb := gos_b (md := 2) (F := F) (L := L) (k := k) (ins := insS) (w := fun _ => 0) hb1
    have hZ1 : (gos 2 F L insS (fun _ => 0) k (t', b0, fun _ => 0, fun _ => 0, fun _ => 0, fun _ => 0)).1 = (ZZ F L k t' insS).1 := hgb.1
    have hZ2 : (gos 2 F L insS (fun _ => 0) k (t', b0, fun _ => 0, fun _ => 0, fun _ => 0, fun _ => 0)).2.2 = (ZZ F L k t' insS).2.2 := hgb.2
    have hkn := hN.1
    have hpl := hT.1.1
    rw [hZ2] at hkn
    rw [hZ1] at hpl
    have hlab : lab d7 256 = lab insS 256 := lab_congr g6 (Nat.le_refl _)
    have hpart : EqT e4 (lab insS 256).1 := by rw [← hlab]; exact hFP.part
    have hPO : POut W H e4 := fun j hj h2 => by rw [hFP.part j hj]; exact lab_out hO j hj h2
    refine ok_bn2 (restore_ok hfu hW hH hPO) ?_
    rintro i1 i2 hs
    dsimp only at hs
    refine ok_some (Or.inr ⟨W, H, k, t', insS, g2, ⟨g8.2.2.2, g8.2.1⟩, hpl, rfl, rfl, rfl, rfl, g6, ?_, ?_, fun j hj => ?_⟩)
    · rw [← hlab]; exact hFP.count
    · rw [← hlab]; exact hFP.parts
    · refine (hs j hj).trans ?_
      unfold VV
      rw [bwd_congr hpart hkn j hj]
theorem R_dec {fu L m : Nat} {F : Nat → Nat} {X code cnt isRead lim md rHigh rPlanes rWide : Int32} {below fed opn pile rIns rPart rVal sizes stream zeros : Nat → Int32} (hfu : 2000 < fu) (hF : FD F fed) (hX : ¬ X < 0 ∧ X ≤ 60000) (hL : (if (8 : Int32) * nI m ≤ X then (8 : Int32) * nI m else X) = nI L) (hL2 : L ≤ 19200) :
    Ok (m_Md_decode fu X code cnt (nI m) isRead lim md rHigh rPlanes rWide below fed opn pile rIns rPart rVal sizes stream zeros) (fun b => b.2.1 = 0 ∧ b.2.2.2.2.2.2.2.2.2.2.2.2.2.2.2.2.1 = stream ∧ (∀ l, l < 4 → b.2.2.2.2.2.2.2.2.2.2.2.2.2.2.2.2.2 l = zeros l) ∧ ((RH L F t00 = none ∧ b.1 = -1 ∧ b.2.2.2.1 = 0) ∨ (∃ W H k t' insS, RH L F t00 = some (W, H, k, t', insS) ∧ b.1 = nI (ZZ F L k t' insS).1.1 ∧ b.2.2.2.1 = 1 ∧ b.2.2.2.2.2.2.1 = nI H ∧ b.2.2.2.2.2.2.2.1 = nI k ∧ b.2.2.2.2.2.2.2.2.1 = nI W ∧ EqT b.2.2.2.2.2.2.2.2.2.2.2.2.1 insS ∧ ∀ j, j < 256 → b.2.2.2.2.2.2.2.2.2.2.2.2.2.2.1 j = clp (VV F L k t' insS j)))) := by
  unfold m_Md_decode m_Md_decode_b13
  have hcut : m_Md_isCut fu X = some 1 := by rw [isCut_eq, if_pos hX]
  rw [bn1_eq hcut]
  refine ok_if (fun c => absurd c (by decide)) (fun _ => ok_if (fun _ => ?_) (fun c => absurd (by decide) c))
  have hit : ∀ {ρ : Type} (g : Int32 → Option ρ) (P : ρ → Prop), Ok (g (nI L)) P → Ok (if (8 : Int32) * nI m ≤ X then g ((8 : Int32) * nI m) else g X) P := by
    intro ρ g P h
    refine ok_if (fun c => ?_) (fun c => ?_)
    · rw [if_pos c] at hL; rw [hL]; exact h
    · rw [if_neg c] at hL; rw [hL]; exact h
  refine hit (fun t0 => m_Md_decode_b49 fu t0 (2 : Int32) 0 cnt (nI m) isRead lim md rHigh rPlanes rWide below fed opn pile rIns rPart rVal sizes stream zeros) _ ?_
  unfold m_Md_decode_b49
  refine ok_bn6 (begin_ok hfu) ?_
  rintro e1 e2 e3 e4 e5 e6 ⟨h1, h2, h3, h4, h5, h6⟩
  dsimp only at h1 h2 h3 h4 h5 h6
  subst h2 h3
  have hrt : RT 2 stream t00 e1 stream := ⟨h1, fun q => absurd q (by decide), fun _ => rfl⟩
  refine ok_bn7 (hearHead_ok (L := L) (F := F) (st0 := stream) (by omega) hL2 hF hrt ⟨SO.zero, Nat.zero_le _⟩) ?_
  rintro r c1 c2 c3 c4 c5 c6 ⟨⟨g1, g2⟩ | ⟨g1, W, H, k, t', insS, g2, g3, g4, g5, g6, g7, g8⟩, gs⟩
  · dsimp only at g1 gs
    subst g1 gs
    exact ok_chkB (Or.inl rfl) (ok_if (fun _ => ok_some ⟨rfl, rfl, fun _ _ => rfl, Or.inl ⟨g2, rfl, rfl⟩⟩) (fun c => absurd rfl c))
  · dsimp only at g1 g3 g5 g6 g7 g8 gs
    obtain ⟨hW0, hW, hH0, hH, hk, hG⟩ := RH_facts g2
    subst g1 g5 g6 g7
    refine ok_chkB (Or.inr rfl) (ok_if (fun c => absurd c (by decide)) (fun _ => ?_))
    refine ok_bn1 (dec71 (by omega)) ?_
    rintro v0 hv0
    have hB : Bd 0 v0 := bd0.congr hv0
    have hMD : MD 2 L F fed := ⟨by omega, Or.inr (Or.inr ⟨rfl, hL2, hF⟩)⟩
    have hRR0 : RR 2 stream zeros (xx t') c1 e4 e5 e6 c6 zeros := rr0 g3 h4 h5 h6 (fun q => absurd q (by decide)) (fun _ _ _ => rfl)
    refine ok_bn6 (goThrough_ok (k := k) (F := F) (by omega) hMD hk hB (by decide) rfl (xx_IV hk g4) hRR0) ?_
    rintro r1 r2 r3 r4 r5 r6 hRR
    dsimp only at hRR
    rw [gos_congr g8 (w := v0) (v := fun _ => 0) hv0] at hRR
    have hZ : gos 2 F L insS (fun _ => 0) k (xx t') = ZZ F L k t' insS := rfl
    rw [hZ] at hRR
    refine ok_bn3 (number_ok (by omega)) ?_
    rintro n1 n2 n3 ⟨_, hn⟩
    dsimp only at hn
    rw [lab_congr g8 (Nat.le_refl _)] at hn
    refine ok_bn1 (dec122 (by omega)) ?_
    rintro v1 hv1
    have hkv : EqT v1 (kv (ZZ F L k t' insS).2.2.1 (ZZ F L k t' insS).2.2.2.1) := by
      intro j hj
      rw [hv1 j hj, hRR.2.1 j hj, hRR.2.2.2.1 j hj]
      rfl
    have hbd : Bd 1048576 v1 := (kv_bd (gos_sz (xx_IV hk g4) (fun j _ => Nat.zero_le _))).congr hkv
    refine ok_bn1 (liftBack_ok (by omega) hbd) ?_
    rintro v2 hv2
    refine ok_bn1 (dec179 (by omega)) ?_
    rintro v3 hv3
    refine ok_some ⟨rfl, hRR.1.2.2 (by decide), hRR.2.2.2.2.2 (by decide), Or.inr ⟨W, H, k, t', insS, g2, hRR.1.1, rfl, rfl, rfl, rfl, g8, fun j hj => ?_⟩⟩
    refine (hv3 j hj).trans ?_
    unfold VV
    rw [hv2 j hj, bwd_congr hn hkv j hj]
theorem L_decode {fu : Nat} {X wasRead ee el ep fc fm rpl planes count height parts width code cnt isRead lim md rHigh rPlanes rWide : Int32} {out : Nat → Int64} {frow rg rk rl ro smp f ins P q z waves below fed opn pile rIns rPart rVal sizes stream zeros : Nat → Int32} (hfu : 2000 < fu) (hI : IF fc frow fm fed) (hR : IR wasRead isRead planes count height parts width smp ins rHigh rPlanes rWide rIns rVal) :
    Ok (m_Lw_decode fu X out wasRead ee el ep fc frow rpl rg rk rl ro planes smp count height parts width f ins P q z waves) (fun a => Ok (m_Md_decode fu X code cnt fm isRead lim md rHigh rPlanes rWide below fed opn pile rIns rPart rVal sizes stream zeros) (fun b => b.2.1 = a.1 ∧ (a.1 = 0 → a.2.1 ((0 : Int32)).toNatClampNeg = b.1.toInt64) ∧ b.2.2.2.2.2.2.2.2.2.2.2.2.2.2.2.2.1 = stream ∧ (∀ l, l < 4 → b.2.2.2.2.2.2.2.2.2.2.2.2.2.2.2.2.2 l = zeros l) ∧ IR a.2.2.1 b.2.2.2.1 a.2.2.2.2.2.2.2.2.2.2.2.1 a.2.2.2.2.2.2.2.2.2.2.2.2.2.1 a.2.2.2.2.2.2.2.2.2.2.2.2.2.2.1 a.2.2.2.2.2.2.2.2.2.2.2.2.2.2.2.1 a.2.2.2.2.2.2.2.2.2.2.2.2.2.2.2.2.1 a.2.2.2.2.2.2.2.2.2.2.2.2.1 a.2.2.2.2.2.2.2.2.2.2.2.2.2.2.2.2.2.2.1 b.2.2.2.2.2.2.1 b.2.2.2.2.2.2.2.1 b.2.2.2.2.2.2.2.2.1 b.2.2.2.2.2.2.2.2.2.2.2.2.1 b.2.2.2.2.2.2.2.2.2.2.2.2.2.2.1)) := by
  obtain ⟨m, F, hm, rfl, rfl, hE, hD⟩ := hI
  unfold m_Lw_decode
  by_cases good : ¬ X < 0 ∧ X ≤ 60000
  · obtain ⟨n, hn, rfl⟩ := pos_nI (le0.mpr good.1)
    obtain ⟨L, hL⟩ : ∃ L, L = (if 8 * m < n then 8 * m else n) := ⟨_, rfl⟩
    have hL2 : L ≤ 19200 := by rw [hL]; split <;> omega
    have hc : (if (nI m * 8) < nI n then nI m * 8 else nI n) = nI L := by
      rw [l8, pk_mul, Nat.mul_comm m 8, hL]
      by_cases c : 8 * m < n
      · rw [if_pos c, if_pos (nI_lt c hn)]
      · rw [if_neg c, if_neg (nI_nlt (by omega) (by omega))]
    have hr : (if (8 : Int32) * nI m ≤ nI n then (8 : Int32) * nI m else nI n) = nI L := by
      rw [l8, pk_mul, hL]
      by_cases c : 8 * m < n
      · rw [if_pos c, if_pos (nI_le (by omega) hn)]
      · rw [if_neg c]
        by_cases d : 8 * m = n
        · rw [if_pos (by rw [d]; exact Int32.le_refl _), d]
        · rw [if_neg (nI_ge (by omega) (by omega))]
    refine ok_sm2 (C_dec (by omega) hm hE good hc hL2) ?_ (fun _ h => absurd h id)
    rintro ⟨u0, u1, u2, u3, u4, u5, u6, u7, u8, u9, u10, u11, u12, u13, u14, u15, u16, u17, u18, u19, u20, u21⟩ hu
    dsimp only at hu
    refine ok_un22 (ok_some ?_)
    refine ok_mono (R_dec hfu hD good hr hL2) ?_
    rintro b ⟨w1, w2, w3, w4⟩
    have hup : vp_updL out ((0 : Int32)).toNatClampNeg u0.toInt64 ((0 : Int32)).toNatClampNeg = u0.toInt64 := upL0
    rcases hu with ⟨v1, v2, v3⟩ | ⟨W, H, k, t', insS, v1, v2, v3, v4, v5, v6, v7, v8, v9, v10, v11⟩
    · rcases w4 with ⟨x1, x2, x3⟩ | ⟨W, H, k, t', insS, x1, _⟩
      · refine ⟨w1, fun _ => hup.trans (by rw [v2, x2]), w2, w3, Or.inl ⟨v3, x3⟩⟩
      · rw [v1] at x1; exact absurd x1 (by simp)
    · rcases w4 with ⟨x1, _⟩ | ⟨W', H', k', t'', insS', x1, x2, x3, x4, x5, x6, x7, x8⟩
      · rw [v1] at x1; exact absurd x1 (by simp)
      · obtain ⟨hW0, hW, hH0, hH, hk, hG⟩ := RH_facts v1
        rw [v1] at x1
        have h6 := Option.some.inj x1
        simp only [Prod.mk.injEq] at h6
        obtain ⟨e1, e2, e3, e4, e5⟩ := h6
        subst e1 e2 e3 e4 e5
        have hlab : lab u17 256 = lab insS 256 := lab_congr v8 (Nat.le_refl _)
        refine ⟨w1, fun _ => hup.trans (by rw [v3, x2]), w2, w3, Or.inr ⟨v4, x3, W, H, k, hW0, hW, hH0, hH, v7, x6, v6, x4, v5, x5, ?_, v8.trans x7.symm, fun j hj => (v11 j hj).trans (x8 j hj).symm, ?_, ?_⟩⟩
        · exact ⟨fun j hj => by show u17 j = 0 ∨ u17 j = 1; rw [v8 j hj]; exact hG.1 j hj, fun j hj h2 => by show u17 j = 0; rw [v8 j hj]; exact hG.2 j hj h2⟩
        · show u12 = nI (cn (lab u17 256).1 256)
          rw [hlab]; exact v9
        · show u14 = nI (lab u17 256).2
          rw [hlab]; exact v10
  · unfold m_FW_decode m_FW_decode_b10
    refine ok_sm2 (Q1 := fun _ => False) (Q2 := fun u => u = (2, wasRead, ee, el, ep, rpl, rg, rk, rl, ro, planes, smp, count, height, parts, width, f, ins, P, q, z, waves)) ?_ (fun _ h => absurd h id) ?_
    · exact ok_if (fun _ => ok_some rfl) (fun c => ok_if (fun d => absurd ⟨c, d⟩ good) (fun _ => ok_some rfl))
    · rintro _ rfl
      refine ok_un22 (ok_if (fun _ => ok_some ?_) (fun c => absurd rfl c))
      unfold m_Md_decode m_Md_decode_b13
      have hcut : m_Md_isCut fu X = some 0 := by rw [isCut_eq, if_neg good]
      rw [bn1_eq hcut]
      exact ok_if (fun _ => ok_if (fun c => absurd c (by decide)) (fun _ => ok_some ⟨rfl, fun q => absurd (show (1 : Int32) = 0 from q) (by decide), rfl, fun _ _ => rfl, hR⟩)) (fun c => absurd rfl c)
