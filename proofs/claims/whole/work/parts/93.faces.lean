/-! FACES: part, told, clear -/
def mn (v : Nat → Int32) : Nat → Nat
  | 0 => 0
  | n + 1 => mn v n + (if v n = 0 then 0 else 1)
theorem mn_le (v : Nat → Int32) (n : Nat) : mn v n ≤ n := by
  induction n with
  | zero => exact Nat.le_refl _
  | succ n ih => show mn v n + (if v n = 0 then 0 else 1) ≤ n + 1; split <;> omega
theorem mn_cn {u v P : Nat → Int32} {n : Nat} (h : EqT u v) (hn : n ≤ 256) (hP : ∀ j, j < 256 → (P j = -1 ↔ u j = 0)) : mn v n = cn P n := by
  induction n with
  | zero => rfl
  | succ n ih =>
    show mn v n + (if v n = 0 then 0 else 1) = cn P n + (if P n = -1 then 0 else 1)
    rw [ih (by omega)]
    by_cases c : u n = 0
    · rw [if_pos (by rw [← h n (by omega)]; exact c), if_pos ((hP n (by omega)).mpr c)]
    · rw [if_neg (by rw [← h n (by omega)]; exact c), if_neg (fun q => c ((hP n (by omega)).mp q))]
theorem many_ok {fu : Nat} {v : Nat → Int32} (hfu : 600 < fu) : Ok (m_Md_many fu v) (fun r => r = nI (mn v 256)) := by
  unfold m_Md_many
  refine ok_bn1 (Q := fun r => r = nI (mn v 256)) ?_ (fun o h => ok_some h)
  refine ok_loop2 (fun m x1 x2 => ∃ i, x2 = nI i ∧ i ≤ 256 ∧ m = 256 - i ∧ x1 = nI (mn v i)) ?_ fu 256 0 0 (by omega) ⟨0, rfl, by omega, rfl, rfl⟩
  rintro rec m _ _ ⟨i, rfl, h1, rfl, rfl⟩ ih
  unfold m_Md_many_k4 m_Md_many_b23
  refine ok_if (fun c => ?_) (fun c => ?_)
  · have := (nI_leI (a := 256) (by decide) (by omega)).mp c
    have e : i = 256 := by omega
    subst e
    exact ok_some rfl
  · have c1 : i < 256 := by
      rcases Nat.lt_or_ge i 256 with q | q
      · exact q
      · exact absurd (nI_le (a := 256) q (by omega)) c
    have hs : mn v (i + 1) = mn v i + (if v i = 0 then 0 else 1) := rfl
    rw [nI_clamp (by omega)]
    refine ok_chk (vp_nI c1) (ok_if (fun c2 => ?_) (fun c2 => ?_))
    · refine ok_letB (ok_letB ?_)
      rw [nI_1, Int32.add_zero]
      refine ih (256 - (i + 1)) _ _ (by omega) ⟨i + 1, rfl, c1, rfl, ?_⟩
      rw [hs, if_pos c2, Nat.add_zero]
    · refine ok_letB (ok_letB ?_)
      rw [nI_1, nI_1]
      refine ih (256 - (i + 1)) _ _ (by omega) ⟨i + 1, rfl, c1, rfl, ?_⟩
      rw [hs, if_neg c2]
theorem part49 {fu k s : Nat} {x2 code : Int32} {ins P pile L : Nat → Int32} (hfu : 600 < fu) (hP : EqT P L) (hs : s < 256) (h1 : L s = nI k) (h2 : ∀ j, j < s → L j ≠ nI k) :
    Ok (loop3 (m_Md_part_k49 fu (nI k) x2 code ins P pile) fu 0 (-1) 0) (fun r => r.1 = nI (cv L (nI k) 256) ∧ r.2 = nI s) := by
  refine ok_loop3 (fun m x4 x5 x6 => ∃ i, x6 = nI i ∧ i ≤ 256 ∧ m = 256 - i ∧ x4 = nI (cv L (nI k) i) ∧ ((i ≤ s ∧ x5 = -1) ∨ (s < i ∧ x5 = nI s))) ?_ fu 256 0 (-1) 0 (by omega) ⟨0, rfl, by omega, rfl, rfl, Or.inl ⟨by omega, rfl⟩⟩
  rintro rec m _ x5 _ ⟨i, rfl, q1, rfl, rfl, q2⟩ ih
  unfold m_Md_part_k49 m_Md_part_b79 m_Md_part_b81 m_Md_part_b101
  refine ok_if (fun c => ?_) (fun c => ?_)
  · have := (nI_leI (a := 256) (by decide) (by omega)).mp c
    have e : i = 256 := by omega
    subst e
    rcases q2 with ⟨q2, _⟩ | ⟨_, q2⟩
    · omega
    · exact ok_some ⟨rfl, q2⟩
  · have c1 : i < 256 := by
      rcases Nat.lt_or_ge i 256 with q | q
      · exact q
      · exact absurd (nI_le (a := 256) q (by omega)) c
    have hcv : cv L (nI k) (i + 1) = cv L (nI k) i + (if L i = nI k then 1 else 0) := rfl
    rw [nI_clamp (by omega), hP i c1]
    by_cases c2 : L i = nI k
    · have hsi : s ≤ i := by
        rcases Nat.lt_or_ge i s with r | r
        · exact absurd c2 (h2 i r)
        · exact r
      have fin : ∀ y, y = nI s → Ok (rec (nI (cv L (nI k) i) + 1) y (nI i + 1)) (fun r => r.1 = nI (cv L (nI k) 256) ∧ r.2 = nI s) := by
        rintro _ rfl
        refine ih (256 - (i + 1)) _ _ _ (by omega) ⟨i + 1, nI_1 i, c1, rfl, ?_, Or.inr ⟨by omega, rfl⟩⟩
        rw [hcv, if_pos c2, nI_1]
      refine ok_chk (vp_nI c1) (ok_if (fun _ => ok_if (fun c3 => ok_chk (vp_nI c1) (ok_if (fun _ => ok_letB (ok_letB (fin _ ?_))) (fun q => absurd c2 q))) (fun c3 => ok_chk (vp_nI c1) (ok_if (fun _ => ok_letB (ok_letB (fin _ ?_))) (fun q => absurd c2 q)))) (fun q => absurd c2 q))
      · rcases q2 with ⟨q2, _⟩ | ⟨_, q2⟩
        · rw [show i = s by omega]
        · rw [q2] at c3; exact absurd c3 (nI_nm1 (by omega))
      · rcases q2 with ⟨_, q2⟩ | ⟨_, q2⟩
        · exact absurd q2 c3
        · exact q2
    · have hne : i ≠ s := fun q => c2 (by rw [q]; exact h1)
      refine ok_chk (vp_nI c1) (ok_if (fun q => absurd q c2) (fun _ => ok_chk (vp_nI c1) (ok_if (fun q => absurd q c2) (fun _ => ok_letB (ok_letB ?_)))))
      rw [nI_1, Int32.add_zero]
      refine ih (256 - (i + 1)) _ _ _ (by omega) ⟨i + 1, rfl, c1, rfl, ?_, ?_⟩
      · rw [hcv, if_neg c2, Nat.add_zero]
      · rcases q2 with ⟨q2, q3⟩ | ⟨q2, q3⟩
        · exact Or.inl ⟨by omega, q3⟩
        · exact Or.inr ⟨by omega, q3⟩
theorem L_part {fu W H : Nat} {X Y code planes stale count parts : Int32} {out : Nat → Int64} {smp f ins P q z waves rin rval rP pile : Nat → Int32} (hfu : 600 < fu) (hW : W ≤ 16) (hH : H ≤ 16) (hI : ID W H planes stale count parts smp f ins P z waves rin rval) :
    Ok (m_Lw_part fu X Y out planes stale smp count (nI H) parts (nI W) f ins P q z waves) (fun a => Ok (m_Md_part fu X Y code rin rP pile) (fun b => b.2.1 = a.1 ∧ (a.1 = 0 → a.2.1 ((0 : Int32)).toNatClampNeg = b.1.toInt64) ∧ ID W H a.2.2.1 a.2.2.2.1 a.2.2.2.2.1 a.2.2.2.2.2.1 smp a.2.2.2.2.2.2.1 ins a.2.2.2.2.2.2.2.1 a.2.2.2.2.2.2.2.2.2.1 a.2.2.2.2.2.2.2.2.2.2 rin rval)) := by
  have hlab := lab_le ins 256
  unfold m_Lw_part m_FW_part m_FW_part_b25
  by_cases good : ¬ X < 0 ∧ X < nI (lab ins 256).2
  · obtain ⟨c, d⟩ := good
    obtain ⟨k, hk, rfl⟩ := pos_nI (le0.mpr c)
    have d2 := (nI_ltI hk (by omega)).mp d
    refine ok_sm2 (Q1 := fun u => (∃ s, s < 256 ∧ (lab ins 256).1 s = nI k ∧ (∀ j, j < s → (lab ins 256).1 j ≠ nI k) ∧ u.1 = (if Y = 0 then nI (cv (lab ins 256).1 (nI k) 256) else if Y = 1 then nI (s % 16) else if Y = 2 then nI (s / 16) else -1)) ∧ ID W H u.2.1 u.2.2.1 u.2.2.2.1 u.2.2.2.2.1 smp u.2.2.2.2.2.1 ins u.2.2.2.2.2.2.1 u.2.2.2.2.2.2.2.2.1 u.2.2.2.2.2.2.2.2.2 rin rval) (Q2 := fun _ => False) ?_ ?_ (fun _ h => absurd h id)
    · refine ok_bn9 (hI.renew hfu hW hH) ?_
      rintro a1 a2 a3 a4 a5 a6 a7 a8 a9 ⟨g1, g2⟩
      dsimp only at g1 g2
      have hFP := g1.1
      obtain ⟨s, s1, s2, s3, s4⟩ := hFP.fst k d2
      have hsz := hFP.size k d2
      rw [hFP.parts, nI_clamp (by omega), s2]
      refine ok_if (fun q => absurd q c) (fun _ => ok_if (fun _ => ?_) (fun q => absurd d q))
      rw [hFP.parts] at g2
      refine ok_if (fun y0 => ?_) (fun y0 => ok_if (fun y1 => ?_) (fun y1 => ok_if (fun y2 => ?_) (fun y2 => ?_)))
      · exact ok_chk (vp_nI (by omega)) (ok_some ⟨⟨s, s1, s3, s4, by show a8 k = _; rw [if_pos y0, hsz]⟩, g2⟩)
      · rw [bn1_eq (col_eq fu s1)]
        exact ok_chk (vp_nI (by omega)) (ok_some ⟨⟨s, s1, s3, s4, by show nI (s % 16) = _; rw [if_neg y0, if_pos y1]⟩, g2⟩)
      · rw [bn1_eq (row_eq fu s1)]
        exact ok_chk (vp_nI (by omega)) (ok_some ⟨⟨s, s1, s3, s4, by show nI (s / 16) = _; rw [if_neg y0, if_neg y1, if_pos y2]⟩, g2⟩)
      · exact ok_some ⟨⟨s, s1, s3, s4, by show (-1 : Int32) = _; rw [if_neg y0, if_neg y1, if_neg y2]⟩, g2⟩
    · rintro ⟨a0, a1, a2, a3, a4, a5, a6, a7, a8, a9⟩ ⟨⟨s, s1, s3, s4, s5⟩, g2⟩
      dsimp only at s5 g2
      refine ok_un10 (ok_some ?_)
      unfold m_Md_part m_Md_part_b23 m_Md_part_b28 m_Md_part_b146
      refine ok_bn3 (number_ok hfu) ?_
      rintro b1 b2 b3 ⟨k1, k2⟩
      dsimp only at k1 k2
      rw [← lab_congr hI.2.1 (Nat.le_refl _)] at k1 k2
      subst k1
      refine ok_if (fun q => absurd q c) (fun _ => ok_if (fun _ => ok_if (fun _ => ?_) (fun q => absurd (by decide) q)) (fun q => absurd d q))
      refine ok_bn2 (part49 hfu (L := (lab ins 256).1) k2 s1 s3 s4) ?_
      rintro c1 c2 ⟨t1, t2⟩
      dsimp only at t1 t2
      subst t1 t2
      have hu : vp_updL out ((0 : Int32)).toNatClampNeg a0.toInt64 ((0 : Int32)).toNatClampNeg = a0.toInt64 := upL0
      have e16 : nz (16 : Int32) = fun (k : Option (Int32 × Int32 × (Nat → Int32) × (Nat → Int32))) => k := funext fun k => if_neg (by decide)
      refine ok_if (fun y0 => ok_some ⟨rfl, fun _ => hu.trans ?_, g2⟩) (fun y0 => ok_if (fun y1 => ?_) (fun y1 => ok_if (fun y2 => ?_) (fun y2 => ok_some ⟨rfl, fun _ => hu.trans ?_, g2⟩)))
      · rw [s5, if_pos y0]
      · refine ok_nz (by decide) (ok_some ⟨rfl, fun _ => hu.trans ?_, g2⟩)
        show a0.toInt64 = (nI s - nI s / 16 * 16).toInt64
        rw [l16, pk_rem (by omega) (by decide) (by decide), s5, if_neg y0, if_pos y1]
      · refine ok_nz (by decide) (ok_some ⟨rfl, fun _ => hu.trans ?_, g2⟩)
        show a0.toInt64 = (nI s / 16).toInt64
        rw [l16, pk_div (by omega) (by decide) (by decide), s5, if_neg y0, if_neg y1, if_pos y2]
      · rw [s5, if_neg y0, if_neg y1, if_neg y2]
  · refine ok_sm2 (Q1 := fun _ => False) (Q2 := fun u => u.1 = 1 ∧ ID W H u.2.1 u.2.2.1 u.2.2.2.1 u.2.2.2.2.1 smp u.2.2.2.2.2.1 ins u.2.2.2.2.2.2.1 u.2.2.2.2.2.2.2.2.1 u.2.2.2.2.2.2.2.2.2 rin rval) ?_ (fun _ h => absurd h id) ?_
    · refine ok_bn9 (hI.renew hfu hW hH) ?_
      rintro a1 a2 a3 a4 a5 a6 a7 a8 a9 ⟨g1, g2⟩
      dsimp only at g1 g2
      have hFP := g1.1
      refine ok_if (fun _ => ok_some ⟨rfl, g2⟩) (fun c => ok_if (fun d => ?_) (fun _ => ok_some ⟨rfl, g2⟩))
      rw [hFP.parts] at d
      exact absurd ⟨c, d⟩ good
    · rintro ⟨a0, a1, a2, a3, a4, a5, a6, a7, a8, a9⟩ ⟨s5, g2⟩
      dsimp only at s5 g2
      refine ok_un10 (ok_if (fun _ => ok_some ?_) (fun c => absurd s5 c))
      unfold m_Md_part m_Md_part_b23 m_Md_part_b28
      refine ok_bn3 (number_ok hfu) ?_
      rintro b1 b2 b3 ⟨k1, k2⟩
      dsimp only at k1 k2
      rw [← lab_congr hI.2.1 (Nat.le_refl _)] at k1 k2
      subst k1
      exact ok_if (fun _ => ok_if (fun q => absurd q (by decide)) (fun _ => ok_some ⟨rfl, fun q => absurd (show (1 : Int32) = 0 from q) (by decide), g2⟩)) (fun c => ok_if (fun d => absurd ⟨c, d⟩ good) (fun _ => ok_if (fun q => absurd q (by decide)) (fun _ => ok_some ⟨rfl, fun q => absurd (show (1 : Int32) = 0 from q) (by decide), g2⟩)))
theorem rn_congr {p q : Nat → Int32} {n i len : Nat} {on : Int32} (h : ∀ j, i ≤ j → j < i + n → p j = q j) : rn p n i on len = rn q n i on len := by
  induction n generalizing i on len with
  | zero => rfl
  | succ n ih =>
    show (if p i = on then rn p n (i + 1) on (len + 1) else run len ++ rn p n (i + 1) (fl on) 1) = (if q i = on then rn q n (i + 1) on (len + 1) else run len ++ rn q n (i + 1) (fl on) 1)
    rw [h i (Nat.le_refl _) (by omega), ih (fun j h1 h2 => h j (by omega) (by omega)), ih (fun j h1 h2 => h j (by omega) (by omega))]
theorem HB_congr {W H k : Nat} {u v : Nat → Int32} (hW0 : 0 < W) (hW : W ≤ 16) (hH : H ≤ 16) (h : EqT u v) : HB W H k u = HB W H k v := by
  unfold HB Rm
  rw [rn_congr (q := px W v)]
  intro j _ hj
  have hd : j / W < H := Nat.div_lt_of_lt_mul (by omega)
  have hm : j % W < W := Nat.mod_lt _ hW0
  exact h _ (by omega)
def t00 : Nat × (Nat → Nat) := (0, fun _ => 0)
theorem PW.k {ins smp : Nat → Int32} {planes count parts : Int32} {f P z waves : Nat → Int32} (h : PW ins smp planes count parts f P z waves) (h8 : V8 smp) : ∃ k, planes = nI k ∧ k ≤ 18 ∧ PL (mxf ins (fwd (lab ins 256).1 smp) 256) k := by
  obtain ⟨k, h1, h2⟩ := h.2.2
  refine ⟨k, h1, h2.le ?_, h2⟩
  have := mxf_le (ins := ins) (n := 256) (fwd_bd (L := (lab ins 256).1) h8.bd) (Nat.le_refl _)
  omega
theorem pn_ok {fu k : Nat} {ins rin smp rw' : Nat → Int32} (hfu : 600 < fu) (hE : EqT ins rin) (h8 : V8 smp) (hw : EqT rw' (fwd (lab ins 256).1 smp)) (hk : PL (mxf ins (fwd (lab ins 256).1 smp) 256) k) : Ok (m_Md_planesNow fu rin rw') (fun r => r = nI k) := by
  refine ok_mono (planesNow_ok hfu ((fwd_bd (L := (lab ins 256).1) h8.bd).congr hw) (by decide)) ?_
  rintro r ⟨k2, rfl, h2⟩
  rw [mxf_congr (Nat.le_refl _) hE.symm hw] at h2
  rw [h2.uniq hk]
theorem L_told {fu W H : Nat} {X planes stale count parts fc place re rl rp wasRead isRead sp sc sh sr sw code cnt fm lim md rHigh rPlanes rWide sb : Int32} {smp f ins P q z waves rin rval rP pile rw' ssmp sins below fed opn rIns rPart rVal sizes stream : Nat → Int32} (hfu : 2000 < fu) (hW0 : 0 < W) (hW : W ≤ 16) (hH0 : 0 < H) (hH : H ≤ 16) (hI : ID W H planes stale count parts smp f ins P z waves rin rval) (hp : place = sb) (hf : fc = fm) (hR : IR wasRead isRead sp sc sh sr sw ssmp sins rHigh rPlanes rWide rIns rVal) :
    Ok (m_FW_told fu X wasRead planes stale smp count (nI H) parts (nI W) f ins P q z waves fc place re rl rp sp sc sh sr sw) (fun a => Ok (m_Md_told fu X code cnt fm (nI H) isRead lim md rHigh rPlanes rWide sb (nI W) below fed rin opn rP pile rIns rPart sizes stream rval rw') (fun b => a.1 = b.1 ∧ ID W H a.2.1 a.2.2.1 a.2.2.2.1 a.2.2.2.2.1 smp a.2.2.2.2.2.1 ins a.2.2.2.2.2.2.1 a.2.2.2.2.2.2.2.2.1 a.2.2.2.2.2.2.2.2.2.1 rin rval ∧ b.2.2.2.2.2.2.2.2.2.2.2.1 = stream)) := by
  subst hp hf
  have hfu6 : 600 < fu := by omega
  unfold m_FW_told m_Md_told
  refine ok_bn9 (hI.renew hfu6 hW hH) ?_
  rintro a1 a2 a3 a4 a5 a6 a7 a8 a9 ⟨g1, g2⟩
  dsimp only at g1 g2
  have hmw := mw_ok (fu := fu) (P := rP) (pile := pile) (wv := rw') hfu6 hI.2.1 hI.2.2.2.1 hI.2.2.1
  obtain ⟨k, ek, hk18, hPL⟩ := g1.k hI.2.2.1
  have hFP := g1.1
  have hmn : mn rin 256 = cn (lab ins 256).1 256 := mn_cn hI.2.1 (Nat.le_refl _) (fun j hj => lab_in hj)
  obtain ⟨⟨b1, b2, b3, b4⟩, hb0, k1, k2, k3⟩ := hmw
  dsimp only at k1 k2 k3
  simp only [bn4_eq hb0]
  refine ok_if (fun x0 => ok_some (ok_if (fun _ => ok_some ⟨rfl, g2, rfl⟩) (fun q => absurd x0 q))) (fun x0 => ?_)
  simp only [if_neg x0]
  refine ok_if (fun x0 => ok_some (ok_if (fun _ => ok_some ⟨rfl, g2, rfl⟩) (fun q => absurd x0 q))) (fun x0 => ?_)
  simp only [if_neg x0]
  refine ok_if (fun x0 => ok_some (ok_if (fun _ => ok_bn1 (many_ok hfu6) ?_) (fun q => absurd x0 q))) (fun x0 => ?_)
  · rintro _ rfl
    exact ok_some ⟨by show a3 = _; rw [hFP.count, hmn], g2, rfl⟩
  simp only [if_neg x0]
  refine ok_if (fun x0 => ok_some (ok_if (fun _ => ok_some ⟨by show a4 = b1; rw [hFP.parts, k1], g2, rfl⟩) (fun q => absurd x0 q))) (fun x0 => ?_)
  simp only [if_neg x0]
  refine ok_if (fun x0 => ok_some (ok_if (fun _ => ok_bn1 (pn_ok hfu6 hI.2.1 hI.2.2.1 k3 hPL) ?_) (fun q => absurd x0 q))) (fun x0 => ?_)
  · rintro _ rfl
    exact ok_some ⟨ek, g2, rfl⟩
  simp only [if_neg x0]
  refine ok_if (fun x0 => ?_) (fun x0 => ?_)
  · rw [if_pos x0]
    have hlenHB := HB_len (k := k) (ins := ins) hW hH
    have htp : TP_Tape 60000 t00 0 0 := ⟨rfl, by decide, Or.inl rfl, SO.zero⟩
    unfold m_FW_headBits m_Tape_start_Tape m_Md_headBits
    subst ek
    refine ok_bn4 (Q := fun r => r.1 = nI (wrs 60000 (HB W H k ins) t00).1) ?_ ?_
    · refine ok_bn3 (ok_some rfl) ?_
      rintro c1 c2 c3 hc
      have e1 : c1 = 0 := (congrArg Prod.fst hc).symm
      have e2 : c2 = 60000 := (congrArg (fun u => u.2.1) hc).symm
      have e3 : c3 = 0 := (congrArg (fun u => u.2.2) hc).symm
      subst e1 e2 e3
      refine ok_bn2 (whead_Tape (L := 60000) hfu6 hW0 hW hH0 hH (by omega) (by show 60000 ≤ 60000; decide) htp True.intro) ?_
      rintro d1 d2 hd
      exact ok_some hd.1
    · rintro c1 c2 c3 c4 hc
      refine ok_some ?_
      refine ok_bn8 (Q := fun r => r.1 = nI (wrs 60000 (HB W H k ins) t00).1 ∧ r.2.2.2.2.2.2.2 = stream) ?_ ?_
      · refine ok_bn6 (begin_ok hfu) ?_
        rintro e1 e2 e3 e4 e5 e6 ⟨h1, h2, h3, _⟩
        dsimp only at h1 h2 h3
        subst h1 h2 h3
        have hrt : RT 1 stream t00 0 stream := ⟨rfl, fun q => absurd q (by decide), fun _ => rfl⟩
        refine ok_bn2 (tellHead_ok (L := 60000) hfu6 hW0 hW hH0 hH (by omega) (fun j hj => by rw [← hI.2.1 j hj]; exact hI.1.1 j hj) (pn_ok hfu6 hI.2.1 hI.2.2.1 k3 hPL) hrt SO.zero (by decide) (by decide) (Or.inr rfl)) ?_
        rintro f1 f2 ⟨hf, _⟩
        dsimp only at hf
        rw [← HB_congr hW0 hW hH hI.2.1] at hf
        exact ok_some ⟨hf.1, hf.2.2 (by decide)⟩
      · rintro e1 e2 e3 e4 e5 e6 e7 e8 ⟨he, hst⟩
        exact ok_some ⟨by show c1 = e1; rw [show c1 = _ from hc, show e1 = _ from he], g2, hst⟩
  simp only [if_neg x0]
  refine ok_if (fun x0 => ok_some (ok_if (fun _ => ok_some ⟨rfl, g2, rfl⟩) (fun q => absurd x0 q))) (fun x0 => ?_)
  simp only [if_neg x0]
  refine ok_if (fun x0 => ok_some (ok_if (fun _ => ok_some ⟨rfl, g2, rfl⟩) (fun q => absurd x0 q))) (fun x0 => ?_)
  simp only [if_neg x0]
  unfold m_FW_toldOfSeen m_FW_toldOfSeen_b57 m_FW_toldOfSeen_b79 m_FW_toldOfSeen_b101 m_FW_toldOfSeen_b123 m_FW_toldOfSeen_b142 m_Md_told_b131 m_Md_told_b147 m_Md_told_b166 m_Md_told_b190 m_Md_told_b206
  rcases hR with ⟨rfl, rfl⟩ | ⟨rfl, rfl, W2, H2, k2, _, _, _, _, rfl, rfl, rfl, rfl, rfl, rfl, hG, hE, hS, rfl, rfl⟩
  · simp only [if_pos (rfl : (0 : Int32) = 0)]
    refine ok_bn1 (Q := fun r => r = (if X = 8 then 0 else if X = 9 then 0 else if X = 10 then 0 else if X = 11 then 0 else if X = 12 then 0 else -1)) ?_ ?_
    · refine ok_if (fun x => ok_some (by rw [if_pos x])) (fun x => ?_)
      rw [if_neg x]
      refine ok_if (fun x => ok_some (by rw [if_pos x])) (fun x => ?_)
      rw [if_neg x]
      refine ok_if (fun x => ok_some (by rw [if_pos x])) (fun x => ?_)
      rw [if_neg x]
      refine ok_if (fun x => ok_some (by rw [if_pos x])) (fun x => ?_)
      rw [if_neg x]
      exact ok_if (fun x => ok_some (by rw [if_pos x])) (fun x => ok_some (by rw [if_neg x]))
    · rintro _ rfl
      refine ok_some ?_
      refine ok_if (fun x => ok_some ⟨if_pos x, g2, rfl⟩) (fun x => ?_)
      simp only [if_neg x]
      refine ok_if (fun x => ok_some ⟨if_pos x, g2, rfl⟩) (fun x => ?_)
      simp only [if_neg x]
      refine ok_if (fun x => ok_some ⟨if_pos x, g2, rfl⟩) (fun x => ?_)
      simp only [if_neg x]
      refine ok_if (fun x => ok_some ⟨if_pos x, g2, rfl⟩) (fun x => ?_)
      simp only [if_neg x]
      exact ok_if (fun x => ok_some ⟨if_pos x, g2, rfl⟩) (fun x => ok_some ⟨if_neg x, g2, rfl⟩)
  · have n10 : ¬ (1 : Int32) = 0 := by decide
    simp only [if_neg n10]
    have hmn2 : mn rIns 256 = cn (lab sins 256).1 256 := mn_cn hE (Nat.le_refl _) (fun j hj => lab_in hj)
    refine ok_bn1 (Q := fun r => r = (if X = 8 then nI W2 else if X = 9 then nI H2 else if X = 10 then nI (cn (lab sins 256).1 256) else if X = 11 then nI (lab sins 256).2 else if X = 12 then nI k2 else -1)) ?_ ?_
    · refine ok_if (fun x => ok_some (by rw [if_pos x])) (fun x => ?_)
      rw [if_neg x]
      refine ok_if (fun x => ok_some (by rw [if_pos x])) (fun x => ?_)
      rw [if_neg x]
      refine ok_if (fun x => ok_some (by rw [if_pos x])) (fun x => ?_)
      rw [if_neg x]
      refine ok_if (fun x => ok_some (by rw [if_pos x])) (fun x => ?_)
      rw [if_neg x]
      exact ok_if (fun x => ok_some (by rw [if_pos x])) (fun x => ok_some (by rw [if_neg x]))
    · rintro _ rfl
      refine ok_some ?_
      refine ok_if (fun x => ok_some ⟨if_pos x, g2, rfl⟩) (fun x => ?_)
      simp only [if_neg x]
      refine ok_if (fun x => ok_some ⟨if_pos x, g2, rfl⟩) (fun x => ?_)
      simp only [if_neg x]
      refine ok_if (fun x => ok_bn1 (many_ok hfu6) ?_) (fun x => ?_)
      · rintro _ rfl
        exact ok_some ⟨(if_pos x).trans (by rw [hmn2]), g2, rfl⟩
      simp only [if_neg x]
      refine ok_if (fun x => ok_bn3 (number_ok hfu6) ?_) (fun x => ?_)
      · rintro c1 c2 c3 ⟨hc, _⟩
        refine ok_some ⟨(if_pos x).trans ?_, g2, rfl⟩
        rw [show c1 = _ from hc, lab_congr hE (Nat.le_refl _)]
      simp only [if_neg x]
      exact ok_if (fun x => ok_some ⟨if_pos x, g2, rfl⟩) (fun x => ok_some ⟨if_neg x, g2, rfl⟩)
theorem L_clear {fu W H : Nat} {wasRead stale count parts fc mc pe pli pp code fm isRead sb : Int32} {smp f ins P q z kn lf op rin rval zeros : Nat → Int32} (hfu : 600 < fu) (hW : W ≤ 16) (hH : H ≤ 16) :
    Ok (m_FW_clear fu wasRead stale smp count (nI H) parts (nI W) f ins P q z fc mc pe pli pp kn lf op) (fun a => Ok (m_Md_clear fu code fm isRead sb rin rval zeros) (fun b => a.1 = 0 ∧ a.2.1 = 1 ∧ a.2.2.2.2.1 = nI H ∧ a.2.2.2.2.2.2.1 = nI W ∧ (∀ j, j < 256 → a.2.2.1 j = 0) ∧ (∀ j, j < 256 → a.2.2.2.2.2.2.2.2.1 j = 0) ∧ a.2.2.2.2.2.2.2.2.2.2.2.2.1 = 0 ∧ a.2.2.2.2.2.2.2.2.2.2.2.2.2.1 = 0 ∧ a.2.2.2.2.2.2.2.2.2.2.2.2.2.2.2.2.1 = 0 ∧ (∀ j, j < 4 → a.2.2.2.2.2.2.2.2.2.2.2.2.2.2.2.2.2.2.1 j = 0) ∧ b.1 = 0 ∧ b.2.1 = 0 ∧ b.2.2.1 = 0 ∧ b.2.2.2.1 = 0 ∧ (∀ j, j < 256 → b.2.2.2.2.1 j = 0) ∧ (∀ j, j < 256 → b.2.2.2.2.2.1 j = 0) ∧ ∀ j, j < 4 → b.2.2.2.2.2.2 j = 0)) := by
  unfold m_FW_clear m_Picture_wipe
  refine ok_bn11 (Q := fun r => r.1 = 1 ∧ (∀ j, j < 256 → r.2.1 j = 0) ∧ r.2.2.2.1 = nI H ∧ r.2.2.2.2.2.1 = nI W ∧ ∀ j, j < 256 → r.2.2.2.2.2.2.2.1 j = 0) ?_ ?_
  · refine ok_bn9 (resize_ok hfu hW hH) ?_
    rintro b1 b2 b3 b4 b5 b6 b7 b8 b9 ⟨g1, g2, g3, g4⟩
    refine ok_bn1 (fill_ok (by decide) (by omega)) ?_
    rintro sm ⟨h1, _⟩
    exact ok_some ⟨rfl, h1, g1, g2, g3⟩
  · rintro a1 a2 a3 a4 a5 a6 a7 a8 a9 a10 a11 ⟨h1, h2, h3, h4, h5⟩
    unfold m_Pen_start_Pen m_Tape_start_Pen
    refine ok_bn4 (Q := fun r => r.2.2.1 = 0 ∧ r.2.2.2 = 0) (ok_bn3 (Q := fun r => r.2.2 = 0) (ok_some rfl) (fun c1 c2 c3 hc => ok_some ⟨hc, rfl⟩)) ?_
    rintro c1 c2 c3 c4 ⟨i1, i2⟩
    refine ok_bn3 (forget_ok hfu) ?_
    rintro d1 d2 d3 ⟨f1, f2, f3⟩
    refine ok_some ?_
    unfold m_Md_clear
    refine ok_bn2 (Q := fun r => (∀ j, j < 256 → r.1 j = 0) ∧ ∀ j, j < 256 → r.2 j = 0) ?_ ?_
    · refine ok_loop3 (fun m x b s => ∃ i, x = nI i ∧ i ≤ 256 ∧ m = 256 - i ∧ (∀ j, j < i → b j = 0) ∧ ∀ j, j < i → s j = 0) ?_ fu 256 0 rin rval (by omega) ⟨0, rfl, by omega, rfl, fun j hj => absurd hj (Nat.not_lt_zero _), fun j hj => absurd hj (Nat.not_lt_zero _)⟩
      rintro rec m _ b s ⟨i, rfl, q1, rfl, q2, q3⟩ ih
      unfold m_Md_clear_k7
      refine ok_if (fun c => ?_) (fun c => ?_)
      · have := (nI_leI (a := 256) (by decide) (by omega)).mp c
        exact ok_some ⟨fun j hj => q2 j (by omega), fun j hj => q3 j (by omega)⟩
      · have c1 : i < 256 := by
          rcases Nat.lt_or_ge i 256 with r | r
          · exact r
          · exact absurd (nI_le (a := 256) r (by omega)) c
        refine ok_chk (vp_nI c1) (ok_chk (vp_nI c1) (ok_letB ?_))
        rw [nI_1, nI_clamp (by omega), nar_b0]
        refine ih (256 - (i + 1)) _ _ _ (by omega) ⟨i + 1, rfl, c1, rfl, fun j hj => ?_, fun j hj => ?_⟩
        · by_cases e : j = i
          · rw [e, pk_us]
          · rw [pk_un e]; exact q2 j (by omega)
        · by_cases e : j = i
          · rw [e, pk_us]
          · rw [pk_un e]; exact q3 j (by omega)
    · rintro e1 e2 ⟨v1, v2⟩
      refine ok_bn1 (Q := fun r => ∀ j, j < 4 → r j = 0) ?_ ?_
      · refine ok_loop2 (fun m x s => ∃ i, x = nI i ∧ i ≤ 4 ∧ m = 4 - i ∧ ∀ j, j < i → s j = 0) ?_ fu 4 0 zeros (by omega) ⟨0, rfl, by omega, rfl, fun j hj => absurd hj (Nat.not_lt_zero _)⟩
        rintro rec m _ s ⟨i, rfl, q1, rfl, q3⟩ ih
        unfold m_Md_clear_k36
        refine ok_if (fun c => ?_) (fun c => ?_)
        · have := (nI_leI (a := 4) (by decide) (by omega)).mp c
          exact ok_some (fun j hj => q3 j (by omega))
        · have c1 : i < 4 := by
            rcases Nat.lt_or_ge i 4 with r | r
            · exact r
            · exact absurd (nI_le (a := 4) r (by omega)) c
          refine ok_chk (vp_nI c1) (ok_letB ?_)
          rw [nI_1, nI_clamp (by omega)]
          refine ih (4 - (i + 1)) _ _ (by omega) ⟨i + 1, rfl, c1, rfl, fun j hj => ?_⟩
          by_cases e : j = i
          · rw [e, pk_us]
          · rw [pk_un e]; exact q3 j (by omega)
      · rintro zz hz
        exact ok_some ⟨rfl, h1, h3, h4, h2, h5, rfl, i2, i1, f2, rfl, rfl, rfl, rfl, v1, v2, hz⟩
