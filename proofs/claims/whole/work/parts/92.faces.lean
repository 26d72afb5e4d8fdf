/-! FACES: wave, byteAt, zeros, feed, pass, alter, at -/
theorem rch_congr {u v : Nat → Int32} {i j : Nat} (h : EqT u v) (hr : Rch u i j) : Rch v i j := fun S h1 h2 => hr S h1 (fun a b ha hl hab hb => h2 a b ha hl hab (by rw [← h b (adj_lt hl hab)]; exact hb))
theorem lab_congr {u v : Nat → Int32} (h : EqT u v) {k : Nat} (hk : k ≤ 256) : lab u k = lab v k := by
  induction k with
  | zero => rfl
  | succ k ih =>
    have e := ih (by omega)
    have hR : ∀ j, Rch u k j ↔ Rch v k j := fun j => ⟨rch_congr h, rch_congr h.symm⟩
    by_cases c : u k ≠ 0 ∧ (lab u k).1 k = -1
    · have c2 : v k ≠ 0 ∧ (lab v k).1 k = -1 := by rw [← h k (by omega), ← e]; exact c
      have a1 := lab_hit c.1 c.2
      have a2 := lab_hit c2.1 c2.2
      refine Prod.ext (funext fun j => ?_) (by rw [a1.1, a2.1, e])
      by_cases r : Rch u k j
      · rw [(a1.2 j).1 r, (a2.2 j).1 ((hR j).mp r), e]
      · rw [(a1.2 j).2 r, (a2.2 j).2 (fun q => r ((hR j).mpr q)), e]
    · have c1 : u k = 0 ∨ (lab u k).1 k ≠ -1 := by
        by_cases q : u k = 0
        · exact Or.inl q
        · exact Or.inr (fun r => c ⟨q, r⟩)
      have c2 : v k = 0 ∨ (lab v k).1 k ≠ -1 := by rw [← h k (by omega), ← e]; exact c1
      rw [lab_miss c1, lab_miss c2, e]
theorem mw_ok {fu : Nat} {ins rin smp rval P pile wv : Nat → Int32} (hfu : 600 < fu) (hE : EqT ins rin) (hV : EqT smp rval) (h8 : V8 smp) :
    Ok (m_Md_makeWaves fu rin P pile rval wv) (fun r => r.1 = nI (lab ins 256).2 ∧ EqT r.2.1 (lab ins 256).1 ∧ EqT r.2.2.2 (fwd (lab ins 256).1 smp)) := by
  rw [lab_congr hE (Nat.le_refl _)]
  exact ok_mono (makeWaves_ok hfu (h8.bd.congr hV.symm)) (fun r g => ⟨g.1, g.2.1, g.2.2.trans (fwd_congr EqT.refl hV.symm)⟩)
def ID (W H : Nat) (planes stale count parts : Int32) (smp f ins P z waves rin rval : Nat → Int32) : Prop :=
  GI W H ins ∧ EqT ins rin ∧ V8 smp ∧ EqT smp rval ∧ (stale = 0 ∨ stale = 1) ∧ (stale = 0 → PW ins smp planes count parts f P z waves)
theorem ID.renew {fu W H : Nat} {planes stale count parts : Int32} {smp f ins P q z waves rin rval : Nat → Int32} (h : ID W H planes stale count parts smp f ins P z waves rin rval) (hfu : 600 < fu) (hW : W ≤ 16) (hH : H ≤ 16) :
    Ok (m_Picture_renew fu planes stale smp count (nI H) parts (nI W) f ins P q z waves) (fun r => PW ins smp r.1 r.2.2.1 r.2.2.2.1 r.2.2.2.2.1 r.2.2.2.2.2.1 r.2.2.2.2.2.2.2.1 r.2.2.2.2.2.2.2.2 ∧ ID W H r.1 r.2.1 r.2.2.1 r.2.2.2.1 smp r.2.2.2.2.1 ins r.2.2.2.2.2.1 r.2.2.2.2.2.2.2.1 r.2.2.2.2.2.2.2.2 rin rval) :=
  ok_mono (renew_ok hfu hW hH h.1.2 h.2.2.1.bd h.2.2.2.2.2) (fun r g => ⟨g.2, h.1, h.2.1, h.2.2.1, h.2.2.2.1, Or.inl g.1, fun _ => g.2⟩)
theorem L_wave {fu W H : Nat} {X Y code planes stale count parts : Int32} {out : Nat → Int64} {smp f ins P q z waves rin rval rP pile rw' : Nat → Int32} (hfu : 600 < fu) (hW : W ≤ 16) (hH : H ≤ 16) (hI : ID W H planes stale count parts smp f ins P z waves rin rval) :
    Ok (m_Lw_wave fu X Y out planes stale smp count (nI H) parts (nI W) f ins P q z waves) (fun a => Ok (m_Md_wave fu X Y code (nI H) (nI W) rin rP pile rval rw') (fun b => b.2.1 = a.1 ∧ (a.1 = 0 → a.2.1 ((0 : Int32)).toNatClampNeg = b.1.toInt64) ∧ ID W H a.2.2.1 a.2.2.2.1 a.2.2.2.2.1 a.2.2.2.2.2.1 smp a.2.2.2.2.2.2.1 ins a.2.2.2.2.2.2.2.1 a.2.2.2.2.2.2.2.2.2.1 a.2.2.2.2.2.2.2.2.2.2 rin rval)) := by
  unfold m_Lw_wave m_FW_wave m_Md_wave m_Md_wave_b15 m_Md_wave_b39 m_Md_wave_b52
  rcases in_or fu X Y hW hH with ⟨x, y, hx, hy, rfl, rfl, h1, h2⟩ | ⟨h1, h2⟩
  · rw [bn1_eq h1, bn1_eq h2, bn1_eq (samp_eq fu x y)]
    have hidx : ((16 : Int32) * nI y) + nI x = nI (16 * y + x) := by rw [l16, pk_mul, nI_add]
    have hin := hI.2.1 (16 * y + x) (by omega)
    rw [hidx, nI_clamp (by omega)]
    by_cases c : ins (16 * y + x) = 0
    · refine ok_sm2 (Q1 := fun u => u = ((100000 : Int32), planes, stale, count, parts, f, P, q, z, waves)) (Q2 := fun _ => False) ?_ ?_ (fun _ h => absurd h id)
      · exact ok_if (fun c => absurd c (by decide)) (fun _ => ok_chk (vp_nI (by omega)) (ok_if (fun _ => ok_some rfl) (fun c2 => absurd c c2)))
      · rintro _ rfl
        refine ok_un10 (ok_some ?_)
        refine ok_if (fun c => absurd c (by decide)) (fun _ => ok_if (fun c => absurd c (by decide)) (fun _ => ok_chk (vp_nI (by omega)) (ok_if (fun _ => ok_if (fun _ => ok_some ⟨rfl, fun _ => ?_, hI⟩) (fun c => absurd (by decide) c)) (fun c2 => absurd (hin.symm.trans c) c2))))
        exact upL0 (f := out) (v := (100000 : Int32).toInt64)
    · refine ok_sm2 (Q1 := fun u => u.1 = fwd (lab ins 256).1 smp (16 * y + x) ∧ ID W H u.2.1 u.2.2.1 u.2.2.2.1 u.2.2.2.2.1 smp u.2.2.2.2.2.1 ins u.2.2.2.2.2.2.1 u.2.2.2.2.2.2.2.2.1 u.2.2.2.2.2.2.2.2.2 rin rval) (Q2 := fun _ => False) ?_ ?_ (fun _ h => absurd h id)
      · refine ok_if (fun c => absurd c (by decide)) (fun _ => ok_chk (vp_nI (by omega)) (ok_if (fun c2 => absurd c2 c) (fun _ => ?_)))
        refine ok_bn9 (hI.renew hfu hW hH) ?_
        rintro a1 a2 a3 a4 a5 a6 a7 a8 a9 ⟨g1, g2⟩
        exact ok_chk (vp_nI (by omega)) (ok_some ⟨g1.2.1 _ (by omega), g2⟩)
      · rintro ⟨a0, a1, a2, a3, a4, a5, a6, a7, a8, a9⟩ ⟨g1, g2⟩
        refine ok_un10 (ok_some ?_)
        refine ok_if (fun c => absurd c (by decide)) (fun _ => ok_if (fun c => absurd c (by decide)) (fun _ => ok_chk (vp_nI (by omega)) (ok_if (fun c2 => absurd (hin.trans c2) c) (fun _ => ?_))))
        refine ok_bn4 (mw_ok hfu hI.2.1 hI.2.2.2.1 hI.2.2.1) ?_
        rintro b1 b2 b3 b4 ⟨k1, k2, k3⟩
        refine ok_chk (vp_nI (by omega)) (ok_some ⟨rfl, fun _ => ?_, g2⟩)
        refine (upL0 (f := out) (v := a0.toInt64)).trans ?_
        show a0.toInt64 = (b4 (16 * y + x)).toInt64
        have k4 : b4 (16 * y + x) = fwd (lab ins 256).1 smp (16 * y + x) := k3 _ (by omega)
        rw [k4]
        exact congrArg Int32.toInt64 g1
  · rw [bn1_eq h1, bn1_eq h2]
    refine ok_sm2 (Q1 := fun _ => False) (Q2 := fun u => u = (1, planes, stale, count, parts, f, P, q, z, waves)) ?_ (fun _ h => absurd h id) ?_
    · exact ok_if (fun _ => ok_some rfl) (fun c => absurd rfl c)
    · rintro _ rfl
      refine ok_un10 (ok_if (fun _ => ok_some ?_) (fun c => absurd rfl c))
      exact ok_if (fun _ => ok_if (fun _ => ok_if (fun c => absurd c (by decide)) (fun _ => ok_some ⟨rfl, fun q => absurd (show (1 : Int32) = 0 from q) (by decide), hI⟩)) (fun c => absurd (by decide) c)) (fun c => absurd rfl c)
def IM (mc : Int32) (mrow : Nat → Int32) (place sb : Int32) (stream : Nat → Int32) : Prop := ∃ (n : Nat) (s : Nat → Nat), n ≤ 19200 ∧ mc = nI ((n + 7) / 8) ∧ place = nI n ∧ sb = nI n ∧ ∀ j, 8 * j < n → s j < 256 ∧ mrow j &&& 255 = nI (s j) ∧ stream j = nI (s j)
theorem bh_or (fu : Nat) (X : Int32) {m : Nat} (hm : m < 2 ^ 31) : (∃ i, i < m ∧ X = nI i ∧ m_Bytes_has fu X (nI m) = some 1) ∨ (m_Bytes_has fu X (nI m) = some 0 ∧ (X < 0 ∨ (¬ X < 0 ∧ ¬ X < nI m))) := by
  unfold m_Bytes_has m_Bytes_has_b16 m_Bytes_has_b17
  by_cases c : X < 0
  · rw [if_pos c, chkB_ok (Or.inl rfl)]
    exact Or.inr ⟨rfl, Or.inl c⟩
  · rw [if_neg c]
    obtain ⟨i, hi, rfl⟩ := pos_nI (le0.mpr c)
    by_cases d : m ≤ i
    · rw [if_pos (nI_le d hi), chkB_ok (Or.inl rfl)]
      exact Or.inr ⟨rfl, Or.inr ⟨c, nI_nlt d hi⟩⟩
    · rw [if_neg (nI_ge (by omega) hm), chkB_ok (Or.inr rfl)]
      exact Or.inl ⟨i, by omega, rfl, rfl⟩
theorem sby {fu n : Nat} (hn : n ≤ 19200) : m_Md_streamBytes fu (nI n) = some (nI ((n + 7) / 8)) := by
  unfold m_Md_streamBytes
  rw [show (7 : Int32) = nI 7 from rfl, l8, nI_add, pk_div (by omega) (by decide) (by decide), nz_nI (by decide) (by decide)]
theorem L_byteAt {fu : Nat} {X code mc place sb : Int32} {out : Nat → Int64} {mrow stream : Nat → Int32} (hI : IM mc mrow place sb stream) :
    Ok (m_Lw_byteAt fu X out mc mrow) (fun a => Ok (m_Md_byteAt fu X code sb stream) (fun b => b.2 = a.1 ∧ (a.1 = 0 → a.2 ((0 : Int32)).toNatClampNeg = b.1.toInt64))) := by
  obtain ⟨n, s, hn, rfl, _, rfl, hs⟩ := hI
  unfold m_Lw_byteAt m_FW_byteAt m_Md_byteAt m_Md_byteAt_b13 m_Md_byteAt_b18 m_Md_byteAt_b38
  rw [bn1_eq (sby (fu := fu) hn)]
  rcases bh_or fu X (m := (n + 7) / 8) (by omega) with ⟨i, hi, rfl, h1⟩ | ⟨h1, h2⟩
  · have hsi := hs i (by omega)
    rw [bn1_eq h1, bn1_eq (get_ok (by omega)), hsi.2.1]
    refine ok_sm2 (Q1 := fun u => u = nI (s i)) (Q2 := fun _ => False) ?_ ?_ (fun _ h => absurd h id)
    · exact ok_if (fun c => absurd c (by decide)) (fun _ => ok_some rfl)
    · rintro _ rfl
      refine ok_some ?_
      refine ok_if (fun c => absurd c (nI_pos (by omega))) (fun _ => ok_if (fun _ => ok_if (fun _ => ok_chk (vp_nI (by omega)) (ok_some ⟨rfl, fun _ => ?_⟩)) (fun c => absurd (by decide) c)) (fun c => absurd (nI_lt hi (by omega)) c))
      refine (upL0 (f := out) (v := (nI (s i)).toInt64)).trans ?_
      show (nI (s i)).toInt64 = (stream (nI i).toNatClampNeg).toInt64
      rw [nI_clamp (by omega), hsi.2.2]
  · rw [bn1_eq h1]
    refine ok_sm2 (Q1 := fun _ => False) (Q2 := fun u => u = 1) ?_ (fun _ h => absurd h id) ?_
    · exact ok_if (fun _ => ok_some rfl) (fun c => absurd rfl c)
    · rintro _ rfl
      refine ok_if (fun _ => ok_some ?_) (fun c => absurd rfl c)
      have fin : Ok (some ((0 : Int32), (1 : Int32))) (fun b => b.2 = (1 : Int32) ∧ ((1 : Int32) = 0 → out ((0 : Int32)).toNatClampNeg = b.1.toInt64)) := ok_some ⟨rfl, fun q => absurd q (by decide)⟩
      rcases h2 with h2 | ⟨h2, h3⟩
      · exact ok_if (fun _ => ok_if (fun c => absurd c (by decide)) (fun _ => fin)) (fun c => absurd h2 c)
      · exact ok_if (fun c => absurd c h2) (fun _ => ok_if (fun c => absurd c h3) (fun _ => ok_if (fun c => absurd c (by decide)) (fun _ => fin)))
theorem L_zeros {fu : Nat} {X code : Int32} {out : Nat → Int64} {left zeros : Nat → Int32} (hI : ∀ l, l < 4 → left l = zeros l) :
    Ok (m_Lw_zeros fu X out left) (fun a => Ok (m_Md_zeros fu X code zeros) (fun b => b.2 = a.1 ∧ (a.1 = 0 → a.2 ((0 : Int32)).toNatClampNeg = b.1.toInt64))) := by
  unfold m_Lw_zeros m_FW_zeros m_FW_zeros_b9 m_Md_zeros m_Md_zeros_b10 m_Md_zeros_b15 m_Md_zeros_b35
  have fin : Ok (some ((0 : Int32), (1 : Int32))) (fun b => b.2 = (1 : Int32) ∧ ((1 : Int32) = 0 → out ((0 : Int32)).toNatClampNeg = b.1.toInt64)) := ok_some ⟨rfl, fun q => absurd q (by decide)⟩
  by_cases c : X < 0
  · rw [if_pos c, if_pos c]
    refine ok_sm2 (Q1 := fun _ => False) (Q2 := fun u => u = 2) (ok_some rfl) (fun _ h => absurd h id) ?_
    rintro _ rfl
    exact ok_if (fun _ => ok_some (ok_if (fun c => absurd c (by decide)) (fun _ => fin))) (fun c => absurd rfl c)
  · rw [if_neg c, if_neg c]
    by_cases d : X ≤ 3
    · rw [if_pos d, if_pos d]
      obtain ⟨i, hi, rfl⟩ := pos_nI (le0.mpr c)
      have d2 : i ≤ 3 := (nI_leI (b := 3) hi (by decide)).mp d
      refine ok_sm2 (Q1 := fun u => u = left i) (Q2 := fun _ => False) (ok_chk (vp_nI (by omega)) (ok_some (by show left (nI i).toNatClampNeg = left i; rw [nI_clamp (by omega)]))) ?_ (fun _ h => absurd h id)
      rintro _ rfl
      refine ok_some (ok_if (fun _ => ok_chk (vp_nI (by omega)) (ok_some ⟨rfl, fun _ => ?_⟩)) (fun c => absurd (by decide) c))
      refine (upL0 (f := out) (v := (left i).toInt64)).trans ?_
      show (left i).toInt64 = (zeros (nI i).toNatClampNeg).toInt64
      rw [nI_clamp (by omega), hI i (by omega)]
    · rw [if_neg d, if_neg d]
      refine ok_sm2 (Q1 := fun _ => False) (Q2 := fun u => u = 2) (ok_some rfl) (fun _ h => absurd h id) ?_
      rintro _ rfl
      exact ok_if (fun _ => ok_some (ok_if (fun c => absurd c (by decide)) (fun _ => fin))) (fun c => absurd rfl c)
def IF (fc : Int32) (frow : Nat → Int32) (fm : Int32) (fed : Nat → Int32) : Prop := ∃ (m : Nat) (F : Nat → Nat), m ≤ 2400 ∧ fc = nI m ∧ fm = nI m ∧ FE F frow ∧ FD F fed
theorem FE.set {F : Nat → Nat} {row : Nat → Int32} {j b : Nat} (h : FE F row) (hb : b < 256) : FE (updN F j b) (upd row j (nI b).toInt8.toInt32) := by
  intro i hi
  by_cases e : i = j
  · rw [e, updN_s, pk_us]; exact ⟨hb, by255 b hb⟩
  · rw [updN_n e, pk_un e]; exact h i hi
theorem FD.set {F : Nat → Nat} {row : Nat → Int32} {j b : Nat} (h : FD F row) (hb : b < 256) : FD (updN F j b) (upd row j (nI b)) := by
  intro i hi
  by_cases e : i = j
  · rw [e, updN_s, pk_us]; exact ⟨hb, rfl⟩
  · rw [updN_n e, pk_un e]; exact h i hi
theorem L_feed {fu : Nat} {X code fc fm : Int32} {out : Nat → Int64} {frow fed : Nat → Int32} (hI : IF fc frow fm fed) :
    Ok (m_Lw_feed fu X out fc frow) (fun a => Ok (m_Md_feed fu X code fm fed) (fun b => b.2.1 = a.1 ∧ (a.1 = 0 → a.2.1 ((0 : Int32)).toNatClampNeg = b.1.toInt64) ∧ IF a.2.2.1 a.2.2.2 b.2.2.1 b.2.2.2)) := by
  have hI0 := hI
  obtain ⟨m, F, hm, rfl, rfl, hE, hD⟩ := hI
  unfold m_Lw_feed m_FW_feed m_FW_feed_b11 m_Md_feed m_Md_feed_b12 m_Md_feed_b31
  have one : Ok (sm2 (some (Sum.inr (2, nI m, frow) : (Int32 × Int32 × (Nat → Int32)) ⊕ (Nat × Int32 × (Nat → Int32)))) (fun u => un3 u (fun r_0 o_0 o_1 => some ((0 : Int32), vp_updL out ((0 : Int32)).toNatClampNeg ((r_0).toInt64), o_0, o_1))) (fun u => un3 u (fun k_0 o_0 o_1 => if k_0 = 2 then (some ((1 : Int32), out, o_0, o_1)) else (if k_0 = 3 then (some ((2 : Int32), out, o_0, o_1)) else (none))))) (fun a => Ok (some ((0 : Int32), (1 : Int32), nI m, fed)) (fun b => b.2.1 = a.1 ∧ (a.1 = 0 → a.2.1 ((0 : Int32)).toNatClampNeg = b.1.toInt64) ∧ IF a.2.2.1 a.2.2.2 b.2.2.1 b.2.2.2)) := by
    refine ok_sm2 (Q1 := fun _ => False) (Q2 := fun u => u = (2, nI m, frow)) (ok_some rfl) (fun _ h => absurd h id) ?_
    rintro _ rfl
    exact ok_un3 (ok_if (fun _ => ok_some (ok_some ⟨rfl, fun q => absurd (show (1 : Int32) = 0 from q) (by decide), hI0⟩)) (fun c => absurd rfl c))
  have d1 : ¬ (1 : Int32) ≤ 0 := by decide
  by_cases c : X < 0
  · rw [if_pos c, if_pos c, if_neg d1]
    exact one
  · rw [if_neg c, if_neg c]
    by_cases d : X ≤ 255
    · rw [if_pos d, if_pos d]
      obtain ⟨i, hi, rfl⟩ := pos_nI (le0.mpr c)
      have d2 : i ≤ 255 := (nI_leI (b := 255) hi (by decide)).mp d
      by_cases e : m = 2400
      · subst e
        rw [if_neg (by decide), if_pos (by rfl), if_neg (by decide)]
        refine ok_sm2 (Q1 := fun _ => False) (Q2 := fun u => u = (3, nI 2400, frow)) (ok_some rfl) (fun _ h => absurd h id) ?_
        rintro _ rfl
        exact ok_un3 (ok_if (fun c => absurd c (by decide)) (fun _ => ok_if (fun _ => ok_some (ok_some ⟨rfl, fun q => absurd (show (2 : Int32) = 0 from q) (by decide), hI0⟩)) (fun c => absurd rfl c)))
      · rw [if_pos (show nI m < (2400 : Int32) from nI_lt (b := 2400) (by omega) (by decide)), if_neg (show ¬ nI m = (2400 : Int32) from fun q => e ((nI_eq (b := 2400) (by omega) (by decide)).mp q)), if_pos (by decide), bn2_eq (add_ok (by omega))]
        refine ok_sm2 (Q1 := fun u => u = (nI (m + 1), nI (m + 1), upd frow m (nI i).toInt8.toInt32)) (Q2 := fun _ => False) (ok_some rfl) ?_ (fun _ h => absurd h id)
        rintro _ rfl
        refine ok_un3 (ok_some (ok_chk (vp_nI (by omega)) (ok_letB (ok_some ⟨rfl, fun _ => ?_, m + 1, updN F m i, by omega, rfl, nI_1 m, hE.set (by omega), ?_⟩))))
        · refine (upL0 (f := out) (v := (nI (m + 1)).toInt64)).trans ?_
          show (nI (m + 1)).toInt64 = (nI m + 1).toInt64
          rw [nI_1]
        · show FD (updN F m i) (upd fed (nI m).toNatClampNeg (nI i))
          rw [nI_clamp (by omega)]
          exact hD.set (by omega)
    · rw [if_neg d, if_neg d, if_neg d1]
      exact one
def pF (F s : Nat → Nat) (m fr i : Nat) : Nat → Nat := fun j => if m ≤ j ∧ j < m + i then s (fr + (j - m)) else F j
theorem pF_0 {F s : Nat → Nat} {m fr : Nat} : pF F s m fr 0 = F := funext fun j => if_neg (by omega)
theorem pF_s {F s : Nat → Nat} {m fr i : Nat} : pF F s m fr (i + 1) = updN (pF F s m fr i) (m + i) (s (fr + i)) := by
  funext j
  unfold pF updN
  by_cases e : j = m + i
  · rw [if_pos (by omega), if_pos e, e, show m + i - m = i by omega]
  · rw [if_neg e]
    dsimp only
    by_cases c : m ≤ j ∧ j < m + i
    · rw [if_pos c, if_pos (by omega)]
    · rw [if_neg c, if_neg (by omega)]
theorem L_pass {fu : Nat} {X Y code fc fm mc place sb : Int32} {out : Nat → Int64} {frow fed mrow stream : Nat → Int32} (hfu : 60000 < fu) (hI : IF fc frow fm fed) (hM : IM mc mrow place sb stream) :
    Ok (m_Lw_pass fu X Y out fc frow mc mrow) (fun a => Ok (m_Md_pass fu X Y code fm sb fed stream) (fun b => b.2.1 = a.1 ∧ (a.1 = 0 → a.2.1 ((0 : Int32)).toNatClampNeg = b.1.toInt64) ∧ IF a.2.2.1 a.2.2.2 b.2.2.1 b.2.2.2)) := by
  have hI0 := hI
  obtain ⟨m, F, hm, rfl, rfl, hE, hD⟩ := hI
  obtain ⟨n, s, hn, rfl, _, rfl, hs⟩ := hM
  unfold m_Lw_pass m_FW_pass m_Md_pass m_Md_pass_b13 m_Md_pass_b26 m_Md_pass_b60 m_Md_pass_b85 m_Md_pass_b89 m_Md_pass_b154
  simp only [bn1_eq (sby (fu := fu) hn)]
  -- the reference's loop where it has thrown
  have bad : ∀ (x1 x3 cd : Int32), ¬ cd = 0 → Ok (loop3 (m_Md_pass_k95 fu x1 x3 cd (nI n) stream) fu 0 (nI m) fed) (fun r => r = (nI m, fed)) := by
    intro x1 x3 cd hc
    obtain ⟨f, rfl⟩ : ∃ f, fu = f + 1 := ⟨fu - 1, by omega⟩
    have hu : ∀ g : Nat, loop3 (m_Md_pass_k95 g x1 x3 cd (nI n) stream) (f + 1) = m_Md_pass_k95 g x1 x3 cd (nI n) stream (loop3 (m_Md_pass_k95 g x1 x3 cd (nI n) stream) f) := fun _ => rfl
    rw [hu]
    unfold m_Md_pass_k95
    exact ok_if (fun _ => ok_some rfl) (fun _ => ok_if (fun c => absurd c hc) (fun _ => ok_some rfl))
  have tail : ∀ (x1 x3 cd : Int32), ¬ cd = 0 → ¬ cd ≤ 0 → Ok (bn2 (loop3 (m_Md_pass_k95 fu x1 x3 cd (nI n) stream) fu 0 (nI m) fed) (fun o_fedMany_14 o_fed_15 => if cd ≤ (0 : Int32) then (some (x3, cd, o_fedMany_14, o_fed_15)) else (some ((0 : Int32), cd, o_fedMany_14, o_fed_15)))) (fun b => b.2.1 = cd ∧ (cd = 0 → out ((0 : Int32)).toNatClampNeg = b.1.toInt64) ∧ IF (nI m) frow b.2.2.1 b.2.2.2) := by
    intro x1 x3 cd h1 h2
    refine ok_bn2 (bad x1 x3 cd h1) ?_
    rintro b1 b2 g
    have e1 : b1 = nI m := congrArg Prod.fst g
    have e2 : b2 = fed := congrArg Prod.snd g
    subst e1 e2
    exact ok_if (fun c => absurd c h2) (fun _ => ok_some ⟨rfl, fun q => absurd q h1, hI0⟩)
  rcases bh_or fu X (m := (n + 7) / 8) (by omega) with ⟨i, hi, rfl, h1⟩ | ⟨h1, h2⟩
  · rw [bn1_eq h1, if_neg (nI_pos (n := i) (by omega)), if_pos (nI_lt hi (by omega)), if_neg (by decide : ¬ (1 : Int32) = 0)]
    by_cases c : (0 : Int32) ≤ Y
    · obtain ⟨k, hk, rfl⟩ := pos_nI c
      rw [if_pos c, if_pos c, if_pos (by decide : (0 : Int32) ≤ 0), pk_sub (by omega)]
      obtain ⟨t, ht⟩ : ∃ t, t = (if (n + 7) / 8 - i < k then (n + 7) / 8 - i else k) := ⟨_, rfl⟩
      have ht1 : t ≤ k ∧ i + t ≤ (n + 7) / 8 := by rw [ht]; split <;> omega
      have ea : (if nI ((n + 7) / 8 - i) < nI k then nI ((n + 7) / 8 - i) else nI k) = nI t := by
        rw [ht]
        by_cases q : (n + 7) / 8 - i < k
        · rw [if_pos q, if_pos (nI_lt q hk)]
        · rw [if_neg q, if_neg (nI_nlt (by omega) (by omega))]
      have hb : ∀ {ρ : Type} (g : Int32 → Option ρ), (if nI ((n + 7) / 8 - i) ≤ nI k then g (nI ((n + 7) / 8 - i)) else g (nI k)) = g (nI t) := by
        intro ρ g
        rw [ht]
        by_cases q : (n + 7) / 8 - i < k
        · rw [if_pos (nI_le (by omega) hk), if_pos q]
        · rw [if_neg q]
          by_cases q2 : (n + 7) / 8 - i = k
          · rw [q2, if_pos (Int32.le_refl _)]
          · rw [if_neg (nI_ge (by omega) (by omega))]
      have hb2 := hb (fun x3 => if True then (if (nI m + x3) ≤ (2400 : Int32) then (bn2 (loop3 (m_Md_pass_k95 fu (nI i) x3 0 (nI n) stream) fu 0 (nI m) fed) (fun o_fedMany_14 o_fed_15 => if (0 : Int32) ≤ (0 : Int32) then (some (x3, (0 : Int32), o_fedMany_14, o_fed_15)) else (some ((0 : Int32), (0 : Int32), o_fedMany_14, o_fed_15)))) else (bn2 (loop3 (m_Md_pass_k95 fu (nI i) x3 3 (nI n) stream) fu 0 (nI m) fed) (fun o_fedMany_14 o_fed_15 => if (3 : Int32) ≤ (0 : Int32) then (some (x3, (3 : Int32), o_fedMany_14, o_fed_15)) else (some ((0 : Int32), (3 : Int32), o_fedMany_14, o_fed_15))))) else (bn2 (loop3 (m_Md_pass_k95 fu (nI i) x3 0 (nI n) stream) fu 0 (nI m) fed) (fun o_fedMany_14 o_fed_15 => if (0 : Int32) ≤ (0 : Int32) then (some (x3, (0 : Int32), o_fedMany_14, o_fed_15)) else (some ((0 : Int32), (0 : Int32), o_fedMany_14, o_fed_15)))))
      rw [hb2, ea, if_pos True.intro, nI_add]
      have e24 : (2400 : Int32) - nI m = nI (2400 - m) := pk_sub (a := 2400) hm
      rw [e24]
      by_cases d : m + t ≤ 2400
      · rw [if_pos (show nI (m + t) ≤ (2400 : Int32) from nI_le (b := 2400) d (by decide))]
        refine ok_sm2 (Q1 := fun u => u.1 = nI t ∧ u.2.1 = nI (m + t) ∧ FE (pF F s m i t) u.2.2) (Q2 := fun _ => False) ?_ ?_ (fun _ h => absurd h id)
        · refine ok_letB (ok_if (fun _ => ?_) (fun q => absurd (nI_le (by omega) (by omega)) q))
          refine ok_bn2 (Q := fun r => r.1 = nI (m + t) ∧ FE (pF F s m i t) r.2) ?_ (fun b1 b2 g => ok_some ⟨rfl, g.1, g.2⟩)
          refine ok_loop3 (fun l x4 cnt row => ∃ j, x4 = nI j ∧ j ≤ t ∧ l = t - j ∧ cnt = nI (m + j) ∧ FE (pF F s m i j) row) ?_ fu t 0 (nI m) frow (by omega) ⟨0, rfl, by omega, rfl, rfl, by rw [pF_0]; exact hE⟩
          rintro rec l _ _ row ⟨j, rfl, q1, rfl, rfl, q2⟩ ih
          unfold m_FW_pass_k77
          refine ok_if (fun c => ?_) (fun c => ?_)
          · have := (nI_leI (by omega) (by omega)).mp c
            have e : j = t := by omega
            subst e
            exact ok_some ⟨rfl, q2⟩
          · have c1 : j < t := by
              rcases Nat.lt_or_ge j t with r | r
              · exact r
              · exact absurd (nI_le r (by omega)) c
            have hsj := hs (i + j) (by omega)
            rw [nI_add, bn1_eq (get_ok (by omega)), hsj.2.1, bn2_eq (add_ok (by omega))]
            refine ok_letB ?_
            rw [nI_1]
            refine ih (t - (j + 1)) _ _ _ (by omega) ⟨j + 1, rfl, c1, rfl, rfl, ?_⟩
            rw [pF_s]
            exact q2.set hsj.1
        · rintro ⟨a1, a2, a3⟩ ⟨g1, g2, g3⟩
          dsimp only at g1 g2 g3
          refine ok_un3 (ok_some ?_)
          refine ok_bn2 (Q := fun r => r.1 = nI (m + t) ∧ FD (pF F s m i t) r.2) ?_ ?_
          · refine ok_loop3 (fun l x4 cnt row => ∃ j, x4 = nI j ∧ j ≤ t ∧ l = t - j ∧ cnt = nI (m + j) ∧ FD (pF F s m i j) row) ?_ fu t 0 (nI m) fed (by omega) ⟨0, rfl, by omega, rfl, rfl, by rw [pF_0]; exact hD⟩
            rintro rec l _ _ row ⟨j, rfl, q1, rfl, rfl, q2⟩ ih
            unfold m_Md_pass_k95
            refine ok_if (fun c => ?_) (fun c => ?_)
            · have := (nI_leI (by omega) (by omega)).mp c
              have e : j = t := by omega
              subst e
              exact ok_some ⟨rfl, q2⟩
            · have c1 : j < t := by
                rcases Nat.lt_or_ge j t with r | r
                · exact r
                · exact absurd (nI_le r (by omega)) c
              have hsj := hs (i + j) (by omega)
              rw [nI_add]
              refine ok_if (fun _ => ok_chk (vp_nI (by omega)) (ok_letB (ok_chk (vp_nI (by omega)) (ok_letB (ok_letB ?_))))) (fun c => absurd rfl c)
              rw [nI_1, nI_1, nI_clamp (by omega), nI_clamp (by omega), hsj.2.2]
              refine ih (t - (j + 1)) _ _ _ (by omega) ⟨j + 1, rfl, c1, rfl, rfl, ?_⟩
              rw [pF_s]
              exact q2.set hsj.1
          · rintro b1 b2 ⟨k1, k2⟩
            dsimp only at k1 k2
            refine ok_if (fun _ => ok_some ⟨rfl, fun _ => ?_, m + t, pF F s m i t, d, g2, k1, g3, k2⟩) (fun c => absurd (by decide) c)
            refine (upL0 (f := out) (v := a1.toInt64)).trans ?_
            show a1.toInt64 = (nI t).toInt64
            rw [g1]
      · rw [if_neg (show ¬ nI (m + t) ≤ (2400 : Int32) from nI_ge (b := m + t) (a := 2400) (by omega) (by omega))]
        refine ok_sm2 (Q1 := fun _ => False) (Q2 := fun u => u = (3, nI m, frow)) ?_ (fun _ h => absurd h id) ?_
        · exact ok_letB (ok_if (fun q => by have := (nI_leI (by omega) (by omega)).mp q; omega) (fun _ => ok_some rfl))
        · rintro _ rfl
          exact ok_un3 (ok_if (fun c => absurd c (by decide)) (fun _ => ok_if (fun c => absurd c (by decide)) (fun _ => ok_if (fun _ => ok_some (tail _ _ 3 (by decide) (by decide))) (fun c => absurd rfl c))))
    · rw [if_neg c, if_neg c, if_neg (by decide : ¬ (2 : Int32) ≤ 0), if_neg (by decide : ¬ (2 : Int32) = 0)]
      refine ok_sm2 (Q1 := fun _ => False) (Q2 := fun u => u = (2, nI m, frow)) (ok_some rfl) (fun _ h => absurd h id) ?_
      rintro _ rfl
      exact ok_un3 (ok_if (fun c => absurd c (by decide)) (fun _ => ok_if (fun _ => ok_some (tail _ _ 2 (by decide) (by decide))) (fun c => absurd rfl c)))
  · rw [bn1_eq h1, if_pos rfl, if_neg (by decide : ¬ (1 : Int32) ≤ 0), if_neg (by decide : ¬ (1 : Int32) = 0)]
    refine ok_sm2 (Q1 := fun _ => False) (Q2 := fun u => u = (1, nI m, frow)) (ok_some rfl) (fun _ h => absurd h id) ?_
    rintro _ rfl
    refine ok_un3 (ok_if (fun _ => ok_some ?_) (fun c => absurd rfl c))
    rcases h2 with h2 | ⟨h2, h3⟩
    · exact ok_if (fun _ => tail _ _ 1 (by decide) (by decide)) (fun c => absurd h2 c)
    · exact ok_if (fun c => absurd c h2) (fun _ => ok_if (fun c => absurd c h3) (fun _ => tail _ _ 1 (by decide) (by decide)))
theorem L_alter {fu : Nat} {X Y code fc fm : Int32} {out : Nat → Int64} {frow fed : Nat → Int32} (hI : IF fc frow fm fed) :
    Ok (m_Lw_alter fu X Y out fc frow) (fun a => Ok (m_Md_alter fu X Y code fm fed) (fun b => b.2.1 = a.1 ∧ (a.1 = 0 → a.2.1 ((0 : Int32)).toNatClampNeg = b.1.toInt64) ∧ IF fc a.2.2 fm b.2.2)) := by
  have hI0 := hI
  obtain ⟨m, F, hm, rfl, rfl, hE, hD⟩ := hI
  unfold m_Lw_alter m_FW_alter m_FW_alter_b32 m_Md_alter m_Md_alter_b13 m_Md_alter_b28 m_Md_alter_b33
  have nd1 : ¬ (1 : Int32) ≤ 0 := by decide
  have nd2 : ¬ (2 : Int32) ≤ 0 := by decide
  rcases bh_or fu X (m := m) (by omega) with ⟨i, hi, rfl, h1⟩ | ⟨h1, h2⟩
  · rw [bn1_eq h1, if_neg (nI_pos (n := i) (by omega)), if_pos (nI_lt hi (by omega)), if_neg (by decide : ¬ (1 : Int32) = 0)]
    by_cases good : ¬ Y < 0 ∧ Y ≤ 255
    · obtain ⟨c, d⟩ := good
      obtain ⟨k, hk, rfl⟩ := pos_nI (le0.mpr c)
      have d2 : k ≤ 255 := (nI_leI (b := 255) hk (by decide)).mp d
      have hFi := hE i (by omega)
      rw [if_neg c, if_neg c, if_pos d, if_pos d, bn1_eq (get_ok (by omega)), bn1_eq (set_ok (by omega)), if_pos (by decide : (0 : Int32) ≤ 0)]
      refine ok_sm2 (Q1 := fun u => u = (nI (F i), upd frow i (nI k).toInt8.toInt32)) (Q2 := fun _ => False) (ok_some (by rw [hFi.2]; rfl)) ?_ (fun _ h => absurd h id)
      rintro _ rfl
      refine ok_un2 (ok_some (ok_chk (vp_nI (by omega)) (ok_letB (ok_chk (vp_nI (by omega)) (ok_some ⟨rfl, fun _ => ?_, m, updN F i k, hm, rfl, rfl, hE.set (by omega), ?_⟩)))))
      · refine (upL0 (f := out) (v := (nI (F i)).toInt64)).trans ?_
        show (nI (F i)).toInt64 = (fed (nI i).toNatClampNeg).toInt64
        rw [nI_clamp (by omega), (hD i (by omega)).2]
      · show FD (updN F i k) (upd fed (nI i).toNatClampNeg (nI k))
        rw [nI_clamp (by omega)]
        exact hD.set (by omega)
    · refine ok_sm2 (Q1 := fun _ => False) (Q2 := fun u => u = (2, frow)) ?_ (fun _ h => absurd h id) ?_
      · exact ok_if (fun _ => ok_some rfl) (fun c => ok_if (fun d => absurd ⟨c, d⟩ good) (fun _ => ok_some rfl))
      · rintro _ rfl
        refine ok_un2 (ok_if (fun c => absurd c (by decide)) (fun _ => ok_if (fun _ => ok_some ?_) (fun c => absurd rfl c)))
        have fin : Ok (if (2 : Int32) ≤ 0 then (chk (nI i) 2400 (letB (fed (nI i).toNatClampNeg) (fun x3_4 => chk (nI i) 2400 (some (x3_4, (2 : Int32), upd fed (nI i).toNatClampNeg Y))))) else (some ((0 : Int32), (2 : Int32), fed))) (fun b => b.2.1 = (2 : Int32) ∧ ((2 : Int32) = 0 → out ((0 : Int32)).toNatClampNeg = b.1.toInt64) ∧ IF (nI m) frow (nI m) b.2.2) := ok_if (fun q => absurd q nd2) (fun _ => ok_some ⟨rfl, fun q => absurd q (by decide), hI0⟩)
        exact ok_if (fun _ => fin) (fun c => ok_if (fun d => absurd ⟨c, d⟩ good) (fun _ => fin))
  · rw [bn1_eq h1, if_pos rfl]
    refine ok_sm2 (Q1 := fun _ => False) (Q2 := fun u => u = (1, frow)) (ok_some rfl) (fun _ h => absurd h id) ?_
    rintro _ rfl
    refine ok_un2 (ok_if (fun _ => ok_some ?_) (fun c => absurd rfl c))
    have fin : Ok (if (1 : Int32) ≤ 0 then (chk X 2400 (letB (fed X.toNatClampNeg) (fun x3_4 => chk X 2400 (some (x3_4, (1 : Int32), upd fed X.toNatClampNeg Y))))) else (some ((0 : Int32), (1 : Int32), fed))) (fun b => b.2.1 = (1 : Int32) ∧ ((1 : Int32) = 0 → out ((0 : Int32)).toNatClampNeg = b.1.toInt64) ∧ IF (nI m) frow (nI m) b.2.2) := ok_if (fun q => absurd q nd1) (fun _ => ok_some ⟨rfl, fun q => absurd q (by decide), hI0⟩)
    rcases h2 with h2 | ⟨h2, h3⟩
    · exact ok_if (fun _ => fin) (fun c => absurd h2 c)
    · exact ok_if (fun c => absurd c h2) (fun _ => ok_if (fun c => absurd c h3) (fun _ => fin))
def IR (wasRead isRead planes count height parts width : Int32) (smp ins : Nat → Int32) (rHigh rPlanes rWide : Int32) (rIns rVal : Nat → Int32) : Prop :=
  (wasRead = 0 ∧ isRead = 0) ∨ (wasRead = 1 ∧ isRead = 1 ∧ ∃ W H k, 0 < W ∧ W ≤ 16 ∧ 0 < H ∧ H ≤ 16 ∧ width = nI W ∧ rWide = nI W ∧ height = nI H ∧ rHigh = nI H ∧ planes = nI k ∧ rPlanes = nI k ∧ GI W H ins ∧ EqT ins rIns ∧ EqT smp rVal ∧ count = nI (cn (lab ins 256).1 256) ∧ parts = nI (lab ins 256).2)
theorem L_at {fu : Nat} {X Y code wasRead isRead planes count height parts width rHigh rPlanes rWide : Int32} {out : Nat → Int64} {smp ins rIns rVal : Nat → Int32} (hI : IR wasRead isRead planes count height parts width smp ins rHigh rPlanes rWide rIns rVal) :
    Ok (m_Lw_at fu X Y out wasRead smp height width ins) (fun a => Ok (m_Md_at fu X Y code isRead rHigh rWide rIns rVal) (fun b => b.2 = a.1 ∧ (a.1 = 0 → a.2 ((0 : Int32)).toNatClampNeg = b.1.toInt64))) := by
  unfold m_Lw_at m_FW_at m_FW_at_b76 m_Md_at m_Md_at_b36 m_Md_at_b41 m_Md_at_b84
  rcases hI with ⟨rfl, rfl⟩ | ⟨rfl, rfl, W, H, k, hW0, hW, hH0, hH, rfl, rfl, rfl, rfl, rfl, rfl, hG, hE, hS, _, _⟩
  · rw [if_pos rfl, if_pos rfl]
    refine ok_sm2 (Q1 := fun _ => False) (Q2 := fun u => u = 4) (ok_some rfl) (fun _ h => absurd h id) ?_
    rintro _ rfl
    exact ok_if (fun _ => ok_some (ok_if (fun c => absurd c (by decide)) (fun _ => ok_some ⟨rfl, fun q => absurd (show (1 : Int32) = 0 from q) (by decide)⟩))) (fun c => absurd rfl c)
  · rw [if_neg (by decide : ¬ (1 : Int32) = 0), if_neg (by decide : ¬ (1 : Int32) = 0)]
    rcases in_or fu X Y hW hH with ⟨x, y, hx, hy, rfl, rfl, h1, h2⟩ | ⟨h1, h2⟩
    · have hidx : ((16 : Int32) * nI y) + nI x = nI (16 * y + x) := by rw [l16, pk_mul, nI_add]
      rw [bn1_eq h1, bn1_eq (samp_eq fu x y), hidx, nI_clamp (by omega), if_neg (by decide : ¬ (1 : Int32) = 0), if_neg (nI_pos (n := x) (by omega)), if_neg (nI_ge (a := x) (b := W) hx (by omega)), if_neg (nI_pos (n := y) (by omega)), if_pos (nI_lt hy (by omega)), if_pos (by decide : (0 : Int32) ≤ 0)]
      have hin := hE (16 * y + x) (by omega)
      have hsm := hS (16 * y + x) (by omega)
      refine ok_sm2 (Q1 := fun u => u = if ins (16 * y + x) = 0 then -1 else smp (16 * y + x)) (Q2 := fun _ => False) ?_ ?_ (fun _ h => absurd h id)
      · exact ok_chk (vp_nI (by omega)) (ok_if (fun c => ok_some (if_pos c).symm) (fun c => ok_chk (vp_nI (by omega)) (ok_some (if_neg c).symm)))
      · rintro _ rfl
        refine ok_some (ok_chk (vp_nI (by omega)) ?_)
        rw [← hin, ← hsm]
        refine ok_if (fun c => ok_some ⟨rfl, fun _ => ?_⟩) (fun c => ok_chk (vp_nI (by omega)) (ok_some ⟨rfl, fun _ => ?_⟩))
        · refine (upL0 (f := out) (v := (if ins (16 * y + x) = 0 then -1 else smp (16 * y + x) : Int32).toInt64)).trans ?_
          rw [if_pos c]
        · refine (upL0 (f := out) (v := (if ins (16 * y + x) = 0 then -1 else smp (16 * y + x) : Int32).toInt64)).trans ?_
          rw [if_neg c]
    · rw [bn1_eq h1, if_pos rfl]
      refine ok_sm2 (Q1 := fun _ => False) (Q2 := fun u => u = 1) (ok_some rfl) (fun _ h => absurd h id) ?_
      rintro _ rfl
      refine ok_if (fun c => absurd c (by decide)) (fun _ => ok_if (fun _ => ok_some ?_) (fun c => absurd rfl c))
      have nd : ¬ (2 : Int32) ≤ 0 := by decide
      rw [if_neg nd]
      have fin : Ok (some ((0 : Int32), (2 : Int32))) (fun b => b.2 = (2 : Int32) ∧ ((2 : Int32) = 0 → out ((0 : Int32)).toNatClampNeg = b.1.toInt64)) := ok_some ⟨rfl, fun q => absurd q (by decide)⟩
      refine ok_if (fun _ => fin) (fun c1 => ok_if (fun _ => fin) (fun c2 => ok_if (fun _ => fin) (fun c3 => ok_if (fun c4 => ?_) (fun _ => fin))))
      have h3 : m_Md_isSample fu X Y (nI H) (nI W) = some 1 := by
        unfold m_Md_isSample m_Md_isSample_b29
        rw [if_neg c1, if_neg c2, if_neg c3, if_neg (fun q => by rw [Int32.le_iff_toInt_le] at q; rw [Int32.lt_iff_toInt_lt] at c4; omega), chkB_ok (Or.inr rfl)]
      rw [h3] at h2
      exact absurd h2 (by decide)
