/-! FACES: error -/
theorem bmod64 {x : Int} (h1 : -9223372036854775808 ≤ x) (h2 : x < 9223372036854775808) : x.bmod (2 ^ 64) = x := by
  rw [Int.bmod_def]
  split <;> omega
theorem sub64 {a b : Int32} (ha : -1048576 ≤ a.toInt ∧ a.toInt ≤ 1048576) (hb : -1048576 ≤ b.toInt ∧ b.toInt ≤ 1048576) : (a - b).toInt64 = a.toInt64 - b.toInt64 := by
  apply Int64.toInt_inj.mp
  rw [Int64.toInt_sub, Int32.toInt_toInt64, Int32.toInt_toInt64, Int32.toInt_toInt64, sub_toInt (by omega) (by omega), bmod64 (by omega) (by omega)]
def dsm (P w kn : Nat → Int32) (X : Int32) : Nat → Int64
  | 0 => 0
  | i + 1 => if P i = X then dsm P w kn X i + ((w i).toInt64 - (kn i).toInt64) * ((w i).toInt64 - (kn i).toInt64) else dsm P w kn X i
theorem dsm_congr {P w kn P2 w2 kn2 : Nat → Int32} {X : Int32} {n : Nat} (hn : n ≤ 256) (h1 : EqT P P2) (h2 : EqT w w2) (h3 : EqT kn kn2) : dsm P w kn X n = dsm P2 w2 kn2 X n := by
  induction n with
  | zero => rfl
  | succ n ih =>
    show (if P n = X then dsm P w kn X n + ((w n).toInt64 - (kn n).toInt64) * ((w n).toInt64 - (kn n).toInt64) else dsm P w kn X n) = (if P2 n = X then dsm P2 w2 kn2 X n + ((w2 n).toInt64 - (kn2 n).toInt64) * ((w2 n).toInt64 - (kn2 n).toInt64) else dsm P2 w2 kn2 X n)
    rw [ih (by omega), h1 n (by omega), h2 n (by omega), h3 n (by omega)]
theorem distance_ok {fu : Nat} {X : Int32} {P w kn : Nat → Int32} (hfu : 600 < fu) : Ok (m_Picture_distance fu X P w kn) (fun r => r = dsm P w kn X 256) := by
  unfold m_Picture_distance
  refine ok_bn1 (Q := fun r => r = dsm P w kn X 256) ?_ (fun o h => ok_some h)
  refine ok_loop2 (fun m x3 x5 => ∃ i, x5 = nI i ∧ i ≤ 256 ∧ m = 256 - i ∧ x3 = dsm P w kn X i) ?_ fu 256 0 0 (by omega) ⟨0, rfl, by omega, rfl, rfl⟩
  rintro rec m _ _ ⟨i, rfl, h1, rfl, rfl⟩ ih
  unfold m_Picture_distance_k5 m_Picture_distance_b51
  refine ok_if (fun c => ?_) (fun c => ?_)
  · have := (nI_leI (a := 256) (by decide) (by omega)).mp c
    have e : i = 256 := by omega
    subst e
    exact ok_some rfl
  · have c1 : i < 256 := by
      rcases Nat.lt_or_ge i 256 with q | q
      · exact q
      · exact absurd (nI_le (a := 256) q (by omega)) c
    have hs : dsm P w kn X (i + 1) = if P i = X then dsm P w kn X i + ((w i).toInt64 - (kn i).toInt64) * ((w i).toInt64 - (kn i).toInt64) else dsm P w kn X i := rfl
    rw [nI_clamp (by omega)]
    refine ok_chk (vp_nI c1) (ok_if (fun c2 => ?_) (fun c2 => ?_))
    · refine ok_chk (vp_nI c1) (ok_chk (vp_nI c1) (ok_letB (ok_letB (ok_letB ?_))))
      rw [nI_1]
      exact ih (256 - (i + 1)) _ _ (by omega) ⟨i + 1, rfl, c1, rfl, by rw [hs, if_pos c2]⟩
    · refine ok_letB ?_
      rw [nI_1]
      exact ih (256 - (i + 1)) _ _ (by omega) ⟨i + 1, rfl, c1, rfl, by rw [hs, if_neg c2]⟩
theorem err90 {fu : Nat} {X code c1 c2 c3 c4 c5 : Int32} {below fed ins opn P pile sizes stream vals w zeros kn : Nat → Int32} (hfu : 600 < fu) (hw : Bd 1048576 w) (hkn : Bd 1048576 kn) (hk : ∀ j, j < 256 → kn j = if below j = 0 then sizes j else -(sizes j)) :
    Ok (loop2 (m_Md_error_k90 fu X code c1 c2 c3 c4 c5 below fed ins opn P pile sizes stream vals w zeros) fu 0 0) (fun r => r = dsm P w kn X 256) := by
  refine ok_loop2 (fun m x3 x5 => ∃ i, x5 = nI i ∧ i ≤ 256 ∧ m = 256 - i ∧ x3 = dsm P w kn X i) ?_ fu 256 0 0 (by omega) ⟨0, rfl, by omega, rfl, rfl⟩
  rintro rec m _ _ ⟨i, rfl, h1, rfl, rfl⟩ ih
  unfold m_Md_error_k90 m_Md_error_b133 m_Md_error_b159
  refine ok_if (fun c => ?_) (fun c => ?_)
  · have := (nI_leI (a := 256) (by decide) (by omega)).mp c
    have e : i = 256 := by omega
    subst e
    exact ok_some rfl
  · have q1 : i < 256 := by
      rcases Nat.lt_or_ge i 256 with q | q
      · exact q
      · exact absurd (nI_le (a := 256) q (by omega)) c
    have hs : dsm P w kn X (i + 1) = if P i = X then dsm P w kn X i + ((w i).toInt64 - (kn i).toInt64) * ((w i).toInt64 - (kn i).toInt64) else dsm P w kn X i := rfl
    have hsub := sub64 (hw i q1) (hkn i q1)
    rw [nI_clamp (by omega)]
    have fin : ∀ t0, kn i = t0 → Ok (letB ((w i - t0).toInt64) (fun x7_29 => chk (nI i) 256 (if P i = X then (letB (dsm P w kn X i + (x7_29 * x7_29)) (fun x4_32 => letB (nI i + (1 : Int32)) (fun x6_33 => rec x4_32 x6_33))) else (letB (dsm P w kn X i + (0 : Int64)) (fun x4_32 => letB (nI i + (1 : Int32)) (fun x6_33 => rec x4_32 x6_33)))))) (fun r => r = dsm P w kn X 256) := by
      rintro _ rfl
      refine ok_letB (ok_chk (vp_nI q1) ?_)
      rw [hsub, nI_1]
      refine ok_if (fun c2 => ok_letB (ok_letB ?_)) (fun c2 => ok_letB (ok_letB ?_))
      · exact ih (256 - (i + 1)) _ _ (by omega) ⟨i + 1, rfl, q1, rfl, by rw [hs, if_pos c2]⟩
      · exact ih (256 - (i + 1)) _ _ (by omega) ⟨i + 1, rfl, q1, rfl, by rw [hs, if_neg c2, Int64.add_zero]⟩
    refine ok_chk (vp_nI q1) (ok_chk (vp_nI q1) (ok_if (fun c2 => ok_chk (vp_nI q1) (fin _ ?_)) (fun c2 => ok_chk (vp_nI q1) (fin _ ?_))))
    · rw [hk i q1, if_pos c2]
    · rw [hk i q1, if_neg c2]
theorem YY_kv {md : Int32} {F : Nat → Nat} {L W H k : Nat} {ins smp : Nat → Int32} (hk : k ≤ 20) (hT : SO (wrs L (HB W H k ins) t00).1 (wrs L (HB W H k ins) t00).2) : Bd 1048576 (kv (YY md F L W H k ins smp).2.2.1 (YY md F L W H k ins smp).2.2.2.1) := by
  have hle := wrs_le (l := HB W H k ins) (t := t00) (L := L) (Nat.zero_le _)
  exact kv_bd (gos_sz (xx_IV hk ⟨hT, hle.1⟩) (fun j _ => Nat.zero_le _))
theorem C_err {fu L W H k : Nat} {Y planes stale count parts re rl rp wp : Int32} {smp f ins P q z waves rin rval wg wk wl wo : Nat → Int32} (hfu : 600 < fu) (hW0 : 0 < W) (hW : W ≤ 16) (hH0 : 0 < H) (hH : H ≤ 16) (hL : L ≤ 60000) (hY : ¬ Y < 0 ∧ Y < nI (lab ins 256).2) (hI : ID W H planes stale count parts smp f ins P z waves rin rval) (hPL : PL (mxf ins (fwd (lab ins 256).1 smp) 256) k) (hk : k ≤ 18) :
    Ok (m_FW_error fu (nI L) Y planes stale smp count (nI H) parts (nI W) f ins P q z waves re rl rp wp wg wk wl wo) (Sum.elim (fun u => u.1 = dsm (lab ins 256).1 (fwd (lab ins 256).1 smp) (kv (YY 1 (fun _ => 0) L W H k ins smp).2.2.1 (YY 1 (fun _ => 0) L W H k ins smp).2.2.2.1) Y 256 ∧ SO (wrs L (HB W H k ins) t00).1 (wrs L (HB W H k ins) t00).2 ∧ ID W H u.2.1 u.2.2.1 u.2.2.2.1 u.2.2.2.2.1 smp u.2.2.2.2.2.1 ins u.2.2.2.2.2.2.1 u.2.2.2.2.2.2.2.2.1 u.2.2.2.2.2.2.2.2.2.1 rin rval) (fun _ => False)) := by
  unfold m_FW_error m_Tape_start_Tape
  refine ok_if (fun c => absurd c (nI_pos (by omega))) (fun _ => ok_if (fun _ => ?_) (fun c => absurd (nI_le (b := 60000) hL (by decide)) c))
  refine ok_bn9 (hI.renew hfu hW hH) ?_
  rintro a1 a2 a3 a4 a5 a6 a7 a8 a9 ⟨g1, g2⟩
  dsimp only at g1 g2
  obtain ⟨k', ek, _, hPL'⟩ := g1.k hI.2.2.1
  have hkk := hPL'.uniq hPL
  subst hkk
  subst ek
  have hparts : a4 = nI (lab ins 256).2 := g1.1.parts
  subst hparts
  have hw : EqT a9 (fwd (lab ins 256).1 smp) := g1.2.1
  have hB : Bd 186259 a9 := (fwd_bd hI.2.2.1.bd).congr hw
  refine ok_if (fun c => absurd c hY.1) (fun _ => ok_if (fun _ => ?_) (fun c => absurd hY.2 c))
  refine ok_bn3 (Q := fun r => r = (0, nI L, 0)) (ok_some rfl) ?_
  rintro c1 c2 c3 hc
  have e1 : c1 = 0 := congrArg Prod.fst hc
  have e2 : c2 = nI L := congrArg (fun u => u.2.1) hc
  have e3 : c3 = 0 := congrArg (fun u => u.2.2) hc
  subst e1 e2 e3
  have htp : TP_Tape L t00 0 0 := ⟨rfl, Nat.zero_le _, Or.inl rfl, SO.zero⟩
  refine ok_bn2 (whead_Tape (L := L) hfu hW0 hW hH0 hH (by omega) hL htp True.intro) ?_
  rintro d1 d2 hd
  dsimp only at hd
  obtain ⟨b0, hb0, hb1⟩ := CE_of hd.2.2.1
  refine ok_bn7 (cwalk_Tape (F := fun _ => 0) (b0 := b0) hfu hL (by omega) hB (by decide) ⟨hd.2.2.2, hd.2.1⟩ ⟨hd, hb0⟩ True.intro) ?_
  rintro e1 e2 e3 e4 e5 e6 e7 ⟨hT, hN⟩
  dsimp only at hT hN
  rw [gos_congr EqT.refl hw] at hT hN
  have hgb := gos_b (md := 1) (F := fun _ => 0) (L := L) (k := k') (ins := ins) (w := fwd (lab ins 256).1 smp) hb1
  have hY2 : (gos 1 (fun _ => 0) L ins (fwd (lab ins 256).1 smp) k' (wrs L (HB W H k' ins) t00, b0, fun _ => 0, fun _ => 0, fun _ => 0, fun _ => 0)).2.2 = (YY 1 (fun _ => 0) L W H k' ins smp).2.2 := hgb.2
  have hkn := hN.1
  rw [hY2] at hkn
  refine ok_bn1 (distance_ok hfu) ?_
  rintro _ rfl
  exact ok_some ⟨dsm_congr (Nat.le_refl _) g1.1.part hw hkn, hd.2.2.2, g2⟩
theorem R_err {fu L W H k : Nat} {Y code cnt lim md : Int32} {ins rin smp rval below fed opn rP pile sizes stream rw' zeros : Nat → Int32} (hfu : 2000 < fu) (hW0 : 0 < W) (hW : W ≤ 16) (hH0 : 0 < H) (hH : H ≤ 16) (hL : L ≤ 60000) (hY : ¬ Y < 0 ∧ Y < nI (lab ins 256).2) (hE : EqT ins rin) (hG : B01 ins) (h8 : V8 smp) (hV : EqT smp rval) (hPL : PL (mxf ins (fwd (lab ins 256).1 smp) 256) k) (hk : k ≤ 18) (hSO : SO (wrs L (HB W H k ins) t00).1 (wrs L (HB W H k ins) t00).2) :
    Ok (m_Md_error fu (nI L) Y code cnt (nI H) lim md (nI W) below fed rin opn rP pile sizes stream rval rw' zeros) (fun b => b.2.1 = 0 ∧ b.1 = dsm (lab ins 256).1 (fwd (lab ins 256).1 smp) (kv (YY 1 (fun _ => 0) L W H k ins smp).2.2.1 (YY 1 (fun _ => 0) L W H k ins smp).2.2.2.1) Y 256 ∧ b.2.2.2.2.2.2.2.2.2.2.1 = stream ∧ ∀ l, l < 4 → b.2.2.2.2.2.2.2.2.2.2.2.2 l = zeros l) := by
  unfold m_Md_error m_Md_error_b13 m_Md_error_b38 m_Md_error_b42 m_Md_error_b46
  have hcut : m_Md_isCut fu (nI L) = some 1 := by rw [isCut_eq, if_pos ⟨nI_pos (by omega), nI_le (b := 60000) hL (by decide)⟩]
  rw [bn1_eq hcut]
  refine ok_if (fun c => absurd c (by decide)) (fun _ => ?_)
  refine ok_bn4 (mw_ok (by omega) hE hV h8) ?_
  rintro b1 b2 b3 b4 ⟨k1, k2, k3⟩
  dsimp only at k1 k2 k3
  subst k1
  refine ok_if (fun _ => ok_if (fun c => absurd c hY.1) (fun _ => ok_if (fun _ => ok_if (fun _ => ?_) (fun c => absurd (by decide) c)) (fun c => absurd hY.2 c))) (fun c => absurd rfl c)
  refine ok_bn6 (begin_ok hfu) ?_
  rintro e1 e2 e3 e4 e5 e6 ⟨h1, h2, h3, h4, h5, h6⟩
  dsimp only at h1 h2 h3 h4 h5 h6
  subst h2 h3
  have hrw := R_walk (z0 := zeros) (fu := fu) (fed := fed) (stream := stream) (zeros := zeros) (L := L) (md := 1) (by omega) hW0 hW hH0 hH hL (Or.inr rfl) hE hG h8 k3 hPL hk h1 h4 h5 h6 (fun q => absurd q (by decide)) (fun _ _ _ => rfl)
  obtain ⟨⟨r1, r2, r3, r4, r5, r6⟩, hq, hRR⟩ := hrw
  obtain ⟨w1, w2, v1, v2⟩ := bn2_some hq
  obtain ⟨w3, v3, v4⟩ := bn1_some v2
  rw [bn2_eq v1, bn1_eq v3, bn6_eq v4]
  dsimp only at hRR
  have hkv := YY_kv (md := 1) (F := fun _ => 0) (L := L) (W := W) (H := H) (k := k) (ins := ins) (smp := smp) (by omega) hSO
  have hB : Bd 1048576 b4 := ((fwd_bd h8.bd).congr k3).mono (by decide)
  refine ok_bn1 (err90 (by omega) hB hkv (fun j hj => ?_)) ?_
  · unfold kv
    rw [hRR.2.1 j hj, hRR.2.2.2.1 j hj]
  · rintro _ rfl
    exact ok_some ⟨rfl, dsm_congr (Nat.le_refl _) k2 k3 EqT.refl, hRR.1.2.2 (by decide), hRR.2.2.2.2.2 (by decide)⟩
theorem L_error {fu W H : Nat} {X Y planes stale count parts re rl rp wp code cnt lim md : Int32} {out : Nat → Int64} {smp f ins P q z waves rin rval wg wk wl wo below fed opn rP pile sizes stream rw' zeros : Nat → Int32} (hfu : 2000 < fu) (hW0 : 0 < W) (hW : W ≤ 16) (hH0 : 0 < H) (hH : H ≤ 16) (hI : ID W H planes stale count parts smp f ins P z waves rin rval) :
    Ok (m_Lw_error fu X Y out planes stale smp count (nI H) parts (nI W) f ins P q z waves re rl rp wp wg wk wl wo) (fun a => Ok (m_Md_error fu X Y code cnt (nI H) lim md (nI W) below fed rin opn rP pile sizes stream rval rw' zeros) (fun b => b.2.1 = a.1 ∧ (a.1 = 0 → a.2.1 ((0 : Int32)).toNatClampNeg = b.1) ∧ ID W H a.2.2.1 a.2.2.2.1 a.2.2.2.2.1 a.2.2.2.2.2.1 smp a.2.2.2.2.2.2.1 ins a.2.2.2.2.2.2.2.1 a.2.2.2.2.2.2.2.2.2.1 a.2.2.2.2.2.2.2.2.2.2.1 rin rval ∧ b.2.2.2.2.2.2.2.2.2.2.1 = stream ∧ ∀ l, l < 4 → b.2.2.2.2.2.2.2.2.2.2.2.2 l = zeros l)) := by
  unfold m_Lw_error
  by_cases good : ¬ X < 0 ∧ X ≤ 60000
  · obtain ⟨L, hL, rfl⟩ := pos_nI (le0.mpr good.1)
    have hL2 : L ≤ 60000 := (nI_leI (b := 60000) hL (by decide)).mp good.2
    by_cases hY : ¬ Y < 0 ∧ Y < nI (lab ins 256).2
    · obtain ⟨k, hPL⟩ := PL_ex (mxf ins (fwd (lab ins 256).1 smp) 256)
      have hk : k ≤ 18 := hPL.le (by have := mxf_le (ins := ins) (n := 256) (fwd_bd (L := (lab ins 256).1) hI.2.2.1.bd) (Nat.le_refl _); omega)
      refine ok_sm2 (C_err (by omega) hW0 hW hH0 hH hL2 hY hI hPL hk) ?_ (fun _ h => absurd h id)
      rintro ⟨u0, u1, u2, u3, u4, u5, u6, u7, u8, u9, u10, u11, u12, u13, u14, u15, u16, u17⟩ ⟨v1, v2, v3⟩
      dsimp only at v1 v2 v3
      refine ok_un18 (ok_some ?_)
      refine ok_mono (R_err hfu hW0 hW hH0 hH hL2 hY hI.2.1 hI.1.1 hI.2.2.1 hI.2.2.2.1 hPL hk v2) ?_
      rintro b ⟨w1, w2, w3, w4⟩
      refine ⟨w1, fun _ => ?_, v3, w3, w4⟩
      refine (upL0 (f := out) (v := u0)).trans ?_
      rw [v1, w2]
    · unfold m_FW_error m_FW_error_b45
      refine ok_sm2 (Q1 := fun _ => False) (Q2 := fun u => u.1 = 1 ∧ ID W H u.2.1 u.2.2.1 u.2.2.2.1 u.2.2.2.2.1 smp u.2.2.2.2.2.1 ins u.2.2.2.2.2.2.1 u.2.2.2.2.2.2.2.2.1 u.2.2.2.2.2.2.2.2.2.1 rin rval) ?_ (fun _ h => absurd h id) ?_
      · refine ok_if (fun c => absurd c good.1) (fun _ => ok_if (fun _ => ?_) (fun c => absurd good.2 c))
        refine ok_bn9 (hI.renew (by omega) hW hH) ?_
        rintro a1 a2 a3 a4 a5 a6 a7 a8 a9 ⟨g1, g2⟩
        dsimp only at g1 g2
        refine ok_if (fun _ => ok_some ⟨rfl, g2⟩) (fun c => ok_if (fun d => ?_) (fun _ => ok_some ⟨rfl, g2⟩))
        rw [g1.1.parts] at d
        exact absurd ⟨c, d⟩ hY
      · rintro ⟨u0, u1, u2, u3, u4, u5, u6, u7, u8, u9, u10, u11, u12, u13, u14, u15, u16, u17⟩ ⟨v1, v3⟩
        dsimp only at v1 v3
        subst v1
        refine ok_un18 (ok_if (fun c => absurd c (by decide)) (fun _ => ok_if (fun _ => ok_some ?_) (fun c => absurd rfl c)))
        unfold m_Md_error m_Md_error_b13 m_Md_error_b38 m_Md_error_b42 m_Md_error_b46
        have hcut : m_Md_isCut fu (nI L) = some 1 := by rw [isCut_eq, if_pos good]
        rw [bn1_eq hcut]
        refine ok_if (fun c => absurd c (by decide)) (fun _ => ?_)
        refine ok_bn4 (mw_ok (by omega) hI.2.1 hI.2.2.2.1 hI.2.2.1) ?_
        rintro b1 b2 b3 b4 ⟨k1, k2, k3⟩
        dsimp only at k1
        subst k1
        refine ok_if (fun _ => ok_if (fun _ => ok_if (fun q => absurd q (by decide)) (fun _ => ok_some ⟨rfl, fun q => absurd (show (2 : Int32) = 0 from q) (by decide), v3, rfl, fun _ _ => rfl⟩)) (fun c => ok_if (fun d => absurd ⟨c, d⟩ hY) (fun _ => ok_if (fun q => absurd q (by decide)) (fun _ => ok_some ⟨rfl, fun q => absurd (show (2 : Int32) = 0 from q) (by decide), v3, rfl, fun _ _ => rfl⟩)))) (fun c => absurd rfl c)
  · unfold m_FW_error m_FW_error_b10
    refine ok_sm2 (Q1 := fun _ => False) (Q2 := fun u => u = (2, planes, stale, count, parts, f, P, q, z, waves, re, rl, rp, wp, wg, wk, wl, wo)) ?_ (fun _ h => absurd h id) ?_
    · exact ok_if (fun _ => ok_some rfl) (fun c => ok_if (fun d => absurd ⟨c, d⟩ good) (fun _ => ok_some rfl))
    · rintro _ rfl
      refine ok_un18 (ok_if (fun _ => ok_some ?_) (fun c => absurd rfl c))
      unfold m_Md_error m_Md_error_b13 m_Md_error_b42 m_Md_error_b46
      have hcut : m_Md_isCut fu X = some 0 := by rw [isCut_eq, if_neg good]
      rw [bn1_eq hcut]
      refine ok_if (fun _ => ?_) (fun c => absurd rfl c)
      refine ok_bn4 (mw_ok (by omega) hI.2.1 hI.2.2.2.1 hI.2.2.1) ?_
      rintro b1 b2 b3 b4 _
      exact ok_if (fun c => absurd c (by decide)) (fun _ => ok_if (fun c => absurd c (by decide)) (fun _ => ok_some ⟨rfl, fun q => absurd (show (1 : Int32) = 0 from q) (by decide), hI, rfl, fun _ _ => rfl⟩))
