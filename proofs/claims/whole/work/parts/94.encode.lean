/-! FACES: encode and error -/
theorem leaf_congr {md : Int32} {F : Nat → Nat} {L pl s : Nat} {w v : Nat → Int32} {was : Bool} {x : (Nat × (Nat → Nat)) × Bool × (Nat → Nat) × (Nat → Int32) × (Nat → Int32) × (Nat → Int32)} (h : w s = v s) : leaf md F L pl w s was x = leaf md F L pl v s was x := by
  unfold leaf
  rw [h]
theorem go_congr {md : Int32} {F : Nat → Nat} {L pl l : Nat} {ins jns w v : Nat → Int32} (h1 : EqT ins jns) (h2 : EqT w v) : ∀ (p : Nat) (x : (Nat × (Nat → Nat)) × Bool × (Nat → Nat) × (Nat → Int32) × (Nat → Int32) × (Nat → Int32)), PS l p → go md F L pl ins w l p x = go md F L pl jns v l p x := by
  induction l with
  | zero =>
    intro p x hP
    have hG : G ins w 0 p = G jns v 0 p := gN_congr hP.rng h1 h2
    have hl : (fun (was : Bool) (x : (Nat × (Nat → Nat)) × Bool × (Nat → Nat) × (Nat → Int32) × (Nat → Int32) × (Nat → Int32)) => leaf md F L pl w (smp p) was x) = (fun was x => leaf md F L pl v (smp p) was x) := funext fun _ => funext fun _ => leaf_congr (h2 _ (smp_inv p hP.lt).2)
    show ent md F L pl (G ins w 0 p) 0 p (fun was x => leaf md F L pl w (smp p) was x) x = ent md F L pl (G jns v 0 p) 0 p (fun was x => leaf md F L pl v (smp p) was x) x
    rw [hG, hl]
  | succ l ih =>
    intro p x hP
    have hG : G ins w (l + 1) p = G jns v (l + 1) p := gN_congr hP.rng h1 h2
    have hl : (fun (_ : Bool) (x : (Nat × (Nat → Nat)) × Bool × (Nat → Nat) × (Nat → Int32) × (Nat → Int32) × (Nat → Int32)) => go md F L pl ins w l (4 * p + 3) (go md F L pl ins w l (4 * p + 2) (go md F L pl ins w l (4 * p + 1) (go md F L pl ins w l (4 * p + 0) x)))) = (fun _ x => go md F L pl jns v l (4 * p + 3) (go md F L pl jns v l (4 * p + 2) (go md F L pl jns v l (4 * p + 1) (go md F L pl jns v l (4 * p + 0) x)))) := by
      funext _ x
      rw [ih (4 * p + 0) x (hP.kid (by decide)), ih (4 * p + 1) _ (hP.kid (by decide)), ih (4 * p + 2) _ (hP.kid (by decide)), ih (4 * p + 3) _ (hP.kid (by decide))]
    show ent md F L pl (G ins w (l + 1) p) (l + 1) p (fun _ x => go md F L pl ins w l (4 * p + 3) (go md F L pl ins w l (4 * p + 2) (go md F L pl ins w l (4 * p + 1) (go md F L pl ins w l (4 * p + 0) x)))) x = ent md F L pl (G jns v (l + 1) p) (l + 1) p (fun _ x => go md F L pl jns v l (4 * p + 3) (go md F L pl jns v l (4 * p + 2) (go md F L pl jns v l (4 * p + 1) (go md F L pl jns v l (4 * p + 0) x)))) x
    rw [hG, hl]
theorem gos_congr {md : Int32} {F : Nat → Nat} {L k : Nat} {ins jns w v : Nat → Int32} {x : (Nat × (Nat → Nat)) × Bool × (Nat → Nat) × (Nat → Int32) × (Nat → Int32) × (Nat → Int32)} (h1 : EqT ins jns) (h2 : EqT w v) : gos md F L ins w k x = gos md F L jns v k x := by
  induction k generalizing x with
  | zero => rfl
  | succ k ih =>
    have hg : gop md F L k ins w x = gop md F L k jns v x := by
      unfold gop
      rw [go_congr h1 h2 0 x (ps3 (by decide)), go_congr h1 h2 1 _ (ps3 (by decide)), go_congr h1 h2 2 _ (ps3 (by decide)), go_congr h1 h2 3 _ (ps3 (by decide))]
    show gos md F L ins w k (gop md F L k ins w x) = gos md F L jns v k (gop md F L k jns v x)
    rw [hg]
    exact ih
theorem gos_up {md : Int32} {F : Nat → Nat} {L k : Nat} {ins w : Nat → Int32} {x : (Nat × (Nat → Nat)) × Bool × (Nat → Nat) × (Nat → Int32) × (Nat → Int32) × (Nat → Int32)} : (gos md F L ins w k x).1.1 ≤ x.1.1 + 596 * k := by
  induction k generalizing x with
  | zero => exact Nat.le_refl _
  | succ k ih =>
    have h1 := gop_up (md := md) (F := F) (L := L) (pl := k) (ins := ins) (w := w) (x := x)
    have h2 := ih (x := gop md F L k ins w x)
    show (gos md F L ins w k (gop md F L k ins w x)).1.1 ≤ _
    omega
def z00 : (Nat → Nat) × (Nat → Int32) × (Nat → Int32) × (Nat → Int32) := (fun _ => 0, fun _ => 0, fun _ => 0, fun _ => 0)
def xx (t : Nat × (Nat → Nat)) : (Nat × (Nat → Nat)) × Bool × (Nat → Nat) × (Nat → Int32) × (Nat → Int32) × (Nat → Int32) := (t, false, z00)
theorem gos_b {md : Int32} {F : Nat → Nat} {L k : Nat} {ins w : Nat → Int32} {t : Nat × (Nat → Nat)} {b0 : Bool} (h : b0 = true → t.1 = L) : (gos md F L ins w k (t, b0, fun _ => 0, fun _ => 0, fun _ => 0, fun _ => 0)).1 = (gos md F L ins w k (xx t)).1 ∧ (gos md F L ins w k (t, b0, fun _ => 0, fun _ => 0, fun _ => 0, fun _ => 0)).2.2 = (gos md F L ins w k (xx t)).2.2 := by
  cases b0 with
  | false => exact ⟨rfl, rfl⟩
  | true =>
    have a := gos_full (md := md) (F := F) (L := L) (k := k) (ins := ins) (w := w) (x := xx t) (h rfl)
    rw [gos_en (x := (t, true, fun _ => 0, fun _ => 0, fun _ => 0, fun _ => 0)) rfl]
    exact ⟨a.1.symm, a.2.symm⟩
theorem xx_IV {L k : Nat} {t : Nat × (Nat → Nat)} (hk : k ≤ 20) (hT : TS L t) : k = 0 ∨ IV L (k - 1) 0 (xx t) := by
  rcases Nat.eq_zero_or_pos k with r | r
  · exact Or.inl r
  · have h1 : 2 ^ (k - 1 + 1) ≤ 2 ^ 20 := Nat.pow_le_pow_right (by decide) (by omega)
    have h2 : 2 ^ (k - 1) ≤ 2 ^ 20 := Nat.pow_le_pow_right (by decide) (by omega)
    exact Or.inr ⟨hT, fun _ _ _ => by show 0 + 2 ^ (k - 1 + 1) ≤ _; omega, fun _ _ => by show 0 + 2 ^ (k - 1) ≤ _; omega, fun _ _ => Or.inl rfl, fun _ _ => Or.inl rfl, fun _ _ _ => rfl⟩
theorem PL_ex (n : Nat) : ∃ k, PL n k := by
  cases n with
  | zero => exact ⟨0, by decide, fun i hi => absurd hi (Nat.not_lt_zero _)⟩
  | succ n => exact ⟨Nat.log2 (n + 1) + 1, Nat.lt_log2_self, fun i hi => Nat.le_trans (Nat.pow_le_pow_right (by decide) (by omega)) (Nat.log2_self_le (by omega))⟩
theorem isCut_eq (fu : Nat) (X : Int32) : m_Md_isCut fu X = some (if ¬ X < 0 ∧ X ≤ 60000 then 1 else 0) := by
  unfold m_Md_isCut m_Md_isCut_b14 m_Md_isCut_b15
  have e : X ≤ 60000 ↔ ¬ (60000 : Int32) < X := by rw [Int32.le_iff_toInt_le, Int32.lt_iff_toInt_lt]; omega
  by_cases c : X < 0
  · rw [if_pos c, if_neg (fun q => q.1 c), chkB_ok (Or.inl rfl)]
  · rw [if_neg c]
    by_cases d : X ≤ 60000
    · rw [if_neg (e.mp d), if_pos ⟨c, d⟩, chkB_ok (Or.inr rfl)]
    · rw [if_pos (Decidable.of_not_not (fun q => d (e.mpr q))), if_neg (fun q => d q.2), chkB_ok (Or.inl rfl)]
theorem CE_of {e : Int32} {L : Nat} {t : Nat × (Nat → Nat)} (h : e = 0 ∨ (e = 1 ∧ t.1 = L)) : ∃ b0 : Bool, CE e b0 ∧ (b0 = true → t.1 = L) := by
  rcases h with h | ⟨h, h2⟩
  · exact ⟨false, Or.inl ⟨h, rfl⟩, fun q => absurd q (by decide)⟩
  · exact ⟨true, Or.inr ⟨h, rfl⟩, fun _ => h2⟩
/-- what the walk leaves, where it begins behind a head -/
noncomputable def YY (md : Int32) (F : Nat → Nat) (L W H k : Nat) (ins smp : Nat → Int32) : (Nat × (Nat → Nat)) × Bool × (Nat → Nat) × (Nat → Int32) × (Nat → Int32) × (Nat → Int32) := gos md F L ins (fwd (lab ins 256).1 smp) k (xx (wrs L (HB W H k ins) t00))
theorem YY_le {md : Int32} {F : Nat → Nat} {L W H k : Nat} {ins smp : Nat → Int32} (hW : W ≤ 16) (hH : H ≤ 16) (hk : k ≤ 18) : (YY md F L W H k ins smp).1.1 ≤ 11510 := by
  have h1 := HB_len (k := k) (ins := ins) hW hH
  have h2 := wrs_le (l := HB W H k ins) (t := t00) (L := L) (Nat.zero_le _)
  have h3 := gos_up (md := md) (F := F) (L := L) (k := k) (ins := ins) (w := fwd (lab ins 256).1 smp) (x := xx (wrs L (HB W H k ins) t00))
  have h4 : t00.1 = 0 := rfl
  unfold YY
  have h5 : (xx (wrs L (HB W H k ins) t00)).1.1 = (wrs L (HB W H k ins) t00).1 := rfl
  omega
theorem C_enc {fu L W H k : Nat} {planes stale count parts mc pe pli pp wp : Int32} {smp f ins P q z waves rin rval mrow wg wk wl wo : Nat → Int32} (hfu : 600 < fu) (hW0 : 0 < W) (hW : W ≤ 16) (hH0 : 0 < H) (hH : H ≤ 16) (hL : L ≤ 60000) (hI : ID W H planes stale count parts smp f ins P z waves rin rval) (hPL : PL (mxf ins (fwd (lab ins 256).1 smp) 256) k) (hk : k ≤ 18) :
    Ok (m_FW_encode fu (nI L) planes stale smp count (nI H) parts (nI W) f ins P q z waves mc mrow pe pli pp wp wg wk wl wo) (Sum.elim (fun u => u.1 = nI (YY 0 (fun _ => 0) L W H k ins smp).1.1 ∧ ID W H u.2.1 u.2.2.1 u.2.2.2.1 u.2.2.2.2.1 smp u.2.2.2.2.2.1 ins u.2.2.2.2.2.2.1 u.2.2.2.2.2.2.2.2.1 u.2.2.2.2.2.2.2.2.2.1 rin rval ∧ u.2.2.2.2.2.2.2.2.2.2.1 = nI (((YY 0 (fun _ => 0) L W H k ins smp).1.1 + 7) / 8) ∧ u.2.2.2.2.2.2.2.2.2.2.2.2.2.2.1 = nI (YY 0 (fun _ => 0) L W H k ins smp).1.1 ∧ (∀ j, 8 * j < (YY 0 (fun _ => 0) L W H k ins smp).1.1 → (YY 0 (fun _ => 0) L W H k ins smp).1.2 j < 256 ∧ u.2.2.2.2.2.2.2.2.2.2.2.1 j &&& 255 = nI ((YY 0 (fun _ => 0) L W H k ins smp).1.2 j)) ∧ ∀ l, l < 4 → u.2.2.2.2.2.2.2.2.2.2.2.2.2.2.2.2.2.2.1 l = (YY 0 (fun _ => 0) L W H k ins smp).2.2.2.2.2 l) (fun _ => False)) := by
  unfold m_FW_encode m_Pen_start_Pen m_Tape_start_Pen
  refine ok_if (fun c => absurd c (nI_pos (by omega))) (fun _ => ok_if (fun _ => ?_) (fun c => absurd (nI_le (b := 60000) hL (by decide)) c))
  refine ok_bn9 (hI.renew hfu hW hH) ?_
  rintro a1 a2 a3 a4 a5 a6 a7 a8 a9 ⟨g1, g2⟩
  dsimp only at g1 g2
  obtain ⟨k', ek, _, hPL'⟩ := g1.k hI.2.2.1
  have hkk := hPL'.uniq hPL
  subst hkk
  subst ek
  have hw : EqT a9 (fwd (lab ins 256).1 smp) := g1.2.1
  have hB : Bd 186259 a9 := (fwd_bd hI.2.2.1.bd).congr hw
  refine ok_bn4 (Q := fun r => r = (0, LM_Pen L, 0, 0)) (ok_bn3 (Q := fun r => r = (0, LM_Pen L, 0)) (ok_some rfl) (fun c1 c2 c3 hc => ?_)) ?_
  · have e1 : c1 = 0 := congrArg Prod.fst hc
    have e2 : c2 = LM_Pen L := congrArg (fun u => u.2.1) hc
    have e3 : c3 = 0 := congrArg (fun u => u.2.2) hc
    subst e1 e2 e3
    exact ok_some rfl
  · rintro c1 c2 c3 c4 hc
    have e1 : c1 = 0 := congrArg Prod.fst hc
    have e2 : c2 = LM_Pen L := congrArg (fun u => u.2.1) hc
    have e3 : c3 = 0 := congrArg (fun u => u.2.2.1) hc
    have e4 : c4 = 0 := congrArg (fun u => u.2.2.2) hc
    subst e1 e2 e3 e4
    have hlen := HB_len (k := k') (ins := ins) hW hH
    have htp : TP_Pen L t00 0 0 0 mrow := ⟨rfl, Nat.zero_le _, Or.inl rfl, SO.zero, rfl, fun j hj => absurd hj (Nat.not_lt_zero _)⟩
    have h0 : t00.1 = 0 := rfl
    refine ok_bn4 (whead_Pen (L := L) hfu hW0 hW hH0 hH (by omega) hL htp (by show t00.1 + _ ≤ 19200; omega)) ?_
    rintro d1 d2 d3 d4 hd
    dsimp only at hd
    have hle := wrs_le (l := HB W H k' ins) (t := t00) (L := L) (Nat.zero_le _)
    obtain ⟨b0, hb0, hb1⟩ := CE_of hd.2.2.1
    refine ok_bn9 (cwalk_Pen (F := fun _ => 0) (b0 := b0) hfu hL (by omega) hB (by decide) ⟨hd.2.2.2.1, hd.2.1⟩ ⟨hd, hb0⟩ (by show (wrs L (HB W H k' ins) t00).1 + _ ≤ 19200; omega)) ?_
    rintro e1 e2 e3 e4 e5 e6 e7 e8 e9 ⟨hT, hN⟩
    dsimp only at hT hN
    rw [gos_congr EqT.refl hw] at hT hN
    have hgb := gos_b (md := 0) (F := fun _ => 0) (L := L) (k := k') (ins := ins) (w := fwd (lab ins 256).1 smp) hb1
    have hY1 : (YY 0 (fun _ => 0) L W H k' ins smp).1 = (gos 0 (fun _ => 0) L ins (fwd (lab ins 256).1 smp) k' (wrs L (HB W H k' ins) t00, b0, fun _ => 0, fun _ => 0, fun _ => 0, fun _ => 0)).1 := hgb.1.symm
    have hY2 : (YY 0 (fun _ => 0) L W H k' ins smp).2.2 = (gos 0 (fun _ => 0) L ins (fwd (lab ins 256).1 smp) k' (wrs L (HB W H k' ins) t00, b0, fun _ => 0, fun _ => 0, fun _ => 0, fun _ => 0)).2.2 := hgb.2.symm
    rw [hY1, hY2]
    obtain ⟨t1, t2, t3, t4, t5, t6⟩ := hT.1
    exact ok_some ⟨t1, g2, t5, t1, fun j hj => ⟨(t4 j hj).1, t6 j hj⟩, hN.2.1⟩
theorem rr0 {md : Int32} {st0 z0 : Nat → Int32} {t : Nat × (Nat → Nat)} {c : Int32} {below opn sizes stream zeros : Nat → Int32} (hR : RT md st0 t c stream) (hb : ∀ j, j < 256 → below j = 0) (ho : ∀ j, j < 1024 → opn j = 0) (hs : ∀ j, j < 256 → sizes j = 0) (hz : md = 0 → ∀ l, l < 4 → zeros l = 0) (hz2 : md ≠ 0 → ∀ l, l < 4 → zeros l = z0 l) : RR md st0 z0 (xx t) c below opn sizes stream zeros :=
  ⟨hR, hb, fun s h => ho _ (rks_inv s h).2, hs, hz, hz2⟩
theorem R_walk {fu L W H k : Nat} {md count : Int32} {ins rin smp rw' fed below opn sizes stream zeros z0 : Nat → Int32} (hfu : 600 < fu) (hW0 : 0 < W) (hW : W ≤ 16) (hH0 : 0 < H) (hH : H ≤ 16) (hL : L ≤ 60000) (hm : md = 0 ∨ md = 1) (hE : EqT ins rin) (hG : B01 ins) (h8 : V8 smp) (hw : EqT rw' (fwd (lab ins 256).1 smp)) (hPL : PL (mxf ins (fwd (lab ins 256).1 smp) 256) k) (hk : k ≤ 18) (hc : count = 0) (hb : ∀ j, j < 256 → below j = 0) (ho : ∀ j, j < 1024 → opn j = 0) (hs : ∀ j, j < 256 → sizes j = 0) (hz : md = 0 → ∀ l, l < 4 → zeros l = 0) (hz2 : md ≠ 0 → ∀ l, l < 4 → zeros l = z0 l) :
    Ok (bn2 (m_Md_tellHead fu count (nI H) (nI L) md (nI W) fed rin stream rw') (fun s_count_18 s_stream_19 => bn1 (m_Md_planesNow fu rin rw') (fun r_20 => m_Md_goThrough fu r_20 s_count_18 (nI L) md below fed opn sizes s_stream_19 zeros rin rw'))) (fun r => RR md stream z0 (YY md (fun _ => 0) L W H k ins smp) r.1 r.2.1 r.2.2.1 r.2.2.2.1 r.2.2.2.2.1 r.2.2.2.2.2) := by
  have hrt : RT md stream t00 count stream := ⟨hc, fun _ j hj => absurd hj (Nat.not_lt_zero _), fun _ => rfl⟩
  have hB : Bd 186259 rw' := (fwd_bd h8.bd).congr hw
  refine ok_bn2 (tellHead_ok (L := L) hfu hW0 hW hH0 hH (by omega) (fun j hj => by rw [← hE j hj]; exact hG j hj) (pn_ok hfu hE h8 hw hPL) hrt SO.zero (Nat.zero_le _) hL hm) ?_
  rintro c1 s1 ⟨h1, h2⟩
  dsimp only at h1
  rw [← HB_congr hW0 hW hH hE] at h1 h2
  refine ok_bn1 (pn_ok hfu hE h8 hw hPL) ?_
  rintro _ rfl
  have hle := wrs_le (l := HB W H k ins) (t := t00) (L := L) (Nat.zero_le _)
  have hM : MD md L (fun _ => 0) fed := ⟨hL, by rcases hm with r | r; exact Or.inl r; exact Or.inr (Or.inl r)⟩
  have := goThrough_ok (fu := fu) (k := k) (F := fun _ => 0) (ins := rin) hfu hM (by omega) hB (by decide) rfl (xx_IV (t := wrs L (HB W H k ins) t00) (by omega) ⟨h2, hle.1⟩) (rr0 (z0 := z0) (st0 := stream) h1 hb ho hs hz hz2)
  rw [gos_congr hE.symm hw] at this
  exact this
theorem R_enc {fu L W H k : Nat} {code cnt lim md sb : Int32} {ins rin smp rval below fed opn rP pile sizes stream rw' zeros : Nat → Int32} (hfu : 2000 < fu) (hW0 : 0 < W) (hW : W ≤ 16) (hH0 : 0 < H) (hH : H ≤ 16) (hL : L ≤ 60000) (hE : EqT ins rin) (hG : B01 ins) (h8 : V8 smp) (hV : EqT smp rval) (hPL : PL (mxf ins (fwd (lab ins 256).1 smp) 256) k) (hk : k ≤ 18) :
    Ok (m_Md_encode fu (nI L) code cnt (nI H) lim md sb (nI W) below fed rin opn rP pile sizes stream rval rw' zeros) (fun b => b.2.1 = 0 ∧ b.1 = nI (YY 0 (fun _ => 0) L W H k ins smp).1.1 ∧ b.2.2.2.2.2.1 = nI (YY 0 (fun _ => 0) L W H k ins smp).1.1 ∧ (∀ j, 8 * j < (YY 0 (fun _ => 0) L W H k ins smp).1.1 → b.2.2.2.2.2.2.2.2.2.2.2.1 j = nI ((YY 0 (fun _ => 0) L W H k ins smp).1.2 j)) ∧ ∀ l, l < 4 → b.2.2.2.2.2.2.2.2.2.2.2.2.2 l = (YY 0 (fun _ => 0) L W H k ins smp).2.2.2.2.2 l) := by
  unfold m_Md_encode m_Md_encode_b13
  have hcut : m_Md_isCut fu (nI L) = some 1 := by rw [isCut_eq, if_pos ⟨nI_pos (by omega), nI_le (b := 60000) hL (by decide)⟩]
  rw [bn1_eq hcut]
  refine ok_if (fun c => absurd c (by decide)) (fun _ => ok_if (fun _ => ?_) (fun c => absurd (by decide) c))
  refine ok_bn4 (mw_ok (by omega) hE hV h8) ?_
  rintro b1 b2 b3 b4 ⟨k1, k2, k3⟩
  dsimp only at k3
  refine ok_bn1 (Q := fun r => ∀ j, j < 4 → r j = 0) ?_ ?_
  · refine ok_loop2 (fun m x s => ∃ i, x = nI i ∧ i ≤ 4 ∧ m = 4 - i ∧ ∀ j, j < i → s j = 0) ?_ fu 4 0 zeros (by omega) ⟨0, rfl, by omega, rfl, fun j hj => absurd hj (Nat.not_lt_zero _)⟩
    rintro rec m _ s ⟨i, rfl, q1, rfl, q3⟩ ih
    unfold m_Md_encode_k32
    refine ok_if (fun c => ?_) (fun c => ?_)
    · have := (nI_leI (a := 4) (by decide) (by omega)).mp c
      exact ok_some (fun j hj => q3 j (by omega))
    · have c1 : i < 4 := by
        rcases Nat.lt_or_ge i 4 with r | r
        · exact r
        · exact absurd (nI_le (a := 4) r (by omega)) c
      refine ok_chk (vp_nI c1) (ok_letB ?_)
      rw [nI_1, nI_clamp (by omega)]
      refine ih (4 - (i + 1)) _ _ (by omega) ⟨i + 1, rfl, c1, rfl, fun j hj => ?_⟩
      by_cases e : j = i
      · rw [e, pk_us]
      · rw [pk_un e]; exact q3 j (by omega)
  · rintro zz hz
    refine ok_bn6 (begin_ok hfu) ?_
    rintro e1 e2 e3 e4 e5 e6 ⟨h1, h2, h3, h4, h5, h6⟩
    dsimp only at h1 h2 h3 h4 h5 h6
    subst h2 h3
    have hrw := R_walk (z0 := zz) (fu := fu) (fed := fed) (stream := stream) (L := L) (md := 0) (by omega) hW0 hW hH0 hH hL (Or.inl rfl) hE hG h8 k3 hPL hk h1 h4 h5 h6 (fun _ => hz) (fun q => absurd rfl q)
    obtain ⟨⟨r1, r2, r3, r4, r5, r6⟩, hq, hRR⟩ := hrw
    have hq2 := bn2_some hq
    obtain ⟨w1, w2, v1, v2⟩ := hq2
    have hq3 := bn1_some v2
    obtain ⟨w3, v3, v4⟩ := hq3
    rw [bn2_eq v1, bn1_eq v3, bn6_eq v4]
    dsimp only at hRR
    exact ok_some ⟨rfl, hRR.1.1, hRR.1.1, hRR.1.2.1 rfl, hRR.2.2.2.2.1 rfl⟩
theorem L_encode {fu W H : Nat} {X planes stale count parts mc pe pli pp wp code cnt lim md sb : Int32} {out : Nat → Int64} {smp f ins P q z waves rin rval mrow wg wk wl wo below fed opn rP pile sizes stream rw' zeros : Nat → Int32} (hfu : 2000 < fu) (hW0 : 0 < W) (hW : W ≤ 16) (hH0 : 0 < H) (hH : H ≤ 16) (hI : ID W H planes stale count parts smp f ins P z waves rin rval) (hM : IM mc mrow pp sb stream) (hZ : ∀ l, l < 4 → wl l = zeros l) :
    Ok (m_Lw_encode fu X out planes stale smp count (nI H) parts (nI W) f ins P q z waves mc mrow pe pli pp wp wg wk wl wo) (fun a => Ok (m_Md_encode fu X code cnt (nI H) lim md sb (nI W) below fed rin opn rP pile sizes stream rval rw' zeros) (fun b => b.2.1 = a.1 ∧ (a.1 = 0 → a.2.1 ((0 : Int32)).toNatClampNeg = b.1.toInt64) ∧ ID W H a.2.2.1 a.2.2.2.1 a.2.2.2.2.1 a.2.2.2.2.2.1 smp a.2.2.2.2.2.2.1 ins a.2.2.2.2.2.2.2.1 a.2.2.2.2.2.2.2.2.2.1 a.2.2.2.2.2.2.2.2.2.2.1 rin rval ∧ IM a.2.2.2.2.2.2.2.2.2.2.2.1 a.2.2.2.2.2.2.2.2.2.2.2.2.1 a.2.2.2.2.2.2.2.2.2.2.2.2.2.2.2.1 b.2.2.2.2.2.1 b.2.2.2.2.2.2.2.2.2.2.2.1 ∧ ∀ l, l < 4 → a.2.2.2.2.2.2.2.2.2.2.2.2.2.2.2.2.2.2.2.1 l = b.2.2.2.2.2.2.2.2.2.2.2.2.2 l)) := by
  unfold m_Lw_encode
  by_cases good : ¬ X < 0 ∧ X ≤ 60000
  · obtain ⟨L, hL, rfl⟩ := pos_nI (le0.mpr good.1)
    have hL2 : L ≤ 60000 := (nI_leI (b := 60000) hL (by decide)).mp good.2
    obtain ⟨k, hPL⟩ := PL_ex (mxf ins (fwd (lab ins 256).1 smp) 256)
    have hk : k ≤ 18 := hPL.le (by have := mxf_le (ins := ins) (n := 256) (fwd_bd (L := (lab ins 256).1) hI.2.2.1.bd) (Nat.le_refl _); omega)
    refine ok_sm2 (C_enc (by omega) hW0 hW hH0 hH hL2 hI hPL hk) ?_ (fun _ h => absurd h id)
    rintro ⟨u0, u1, u2, u3, u4, u5, u6, u7, u8, u9, u10, u11, u12, u13, u14, u15, u16, u17, u18, u19⟩ ⟨v1, v2, v3, v4, v5, v6⟩
    dsimp only at v1 v2 v3 v4 v5 v6
    refine ok_un20 (ok_some ?_)
    refine ok_mono (R_enc hfu hW0 hW hH0 hH hL2 hI.2.1 hI.1.1 hI.2.2.1 hI.2.2.2.1 hPL hk) ?_
    rintro b ⟨w1, w2, w3, w4, w5⟩
    refine ⟨w1, fun _ => ?_, v2, ⟨(YY 0 (fun _ => 0) L W H k ins smp).1.1, (YY 0 (fun _ => 0) L W H k ins smp).1.2, ?_, v3, v4, w3, fun j hj => ⟨(v5 j hj).1, (v5 j hj).2, w4 j hj⟩⟩, fun l hl => (v6 l hl).trans (w5 l hl).symm⟩
    · refine (upL0 (f := out) (v := u0.toInt64)).trans ?_
      rw [v1, w2]
    · have := YY_le (md := 0) (F := fun _ => 0) (L := L) (ins := ins) (smp := smp) hW hH hk
      omega
  · unfold m_FW_encode m_FW_encode_b10
    refine ok_sm2 (Q1 := fun _ => False) (Q2 := fun u => u = (2, planes, stale, count, parts, f, P, q, z, waves, mc, mrow, pe, pli, pp, wp, wg, wk, wl, wo)) ?_ (fun _ h => absurd h id) ?_
    · exact ok_if (fun _ => ok_some rfl) (fun c => ok_if (fun d => absurd ⟨c, d⟩ good) (fun _ => ok_some rfl))
    · rintro _ rfl
      refine ok_un20 (ok_if (fun _ => ok_some ?_) (fun c => absurd rfl c))
      unfold m_Md_encode m_Md_encode_b13
      have hcut : m_Md_isCut fu X = some 0 := by rw [isCut_eq, if_neg good]
      rw [bn1_eq hcut]
      exact ok_if (fun _ => ok_if (fun c => absurd c (by decide)) (fun _ => ok_some ⟨rfl, fun q => absurd (show (1 : Int32) = 0 from q) (by decide), hI, hM, hZ⟩)) (fun c => absurd rfl c)
