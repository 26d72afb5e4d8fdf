theorem ls_congr {L M v w : Nat → Int32} {st : Nat} {ac od bk : Int32} (hL : ∀ j, j < 256 → L j = M j) (hv : ∀ j, j < 256 → v j = w j) : ∀ a, a < 256 → ls L st ac od bk v a = ls M st ac od bk w a := by
  intro a ha
  have hBf : Bf L st ac a ↔ Bf M st ac a := by
    unfold Bf
    constructor
    · rintro ⟨h1, h2⟩; exact ⟨h1, by rw [← hL _ (by omega), ← hL a ha]; exact h2⟩
    · rintro ⟨h1, h2⟩; exact ⟨h1, by rw [hL _ (by omega), hL a ha]; exact h2⟩
  have hBh : Bh L st ac a ↔ Bh M st ac a := by
    unfold Bh
    constructor
    · rintro ⟨h1, h2⟩; exact ⟨h1, by rw [← hL _ (fr_lt ha h1), ← hL a ha]; exact h2⟩
    · rintro ⟨h1, h2⟩; exact ⟨h1, by rw [hL _ (fr_lt ha h1), hL a ha]; exact h2⟩
  have hs : sm L v st ac a = sm M w st ac a := by
    unfold sm
    by_cases c1 : Bf L st ac a
    · rw [if_pos c1, if_pos (hBf.mp c1), hv (a - fr st ac) (by omega)]
      by_cases c2 : Bh L st ac a
      · rw [if_pos c2, if_pos (hBh.mp c2), hv _ (fr_lt ha c2.1)]
      · rw [if_neg c2, if_neg (fun q => c2 (hBh.mpr q))]
    · rw [if_neg c1, if_neg (fun q => c1 (hBf.mpr q))]
      by_cases c2 : Bh L st ac a
      · rw [if_pos c2, if_pos (hBh.mp c2), hv _ (fr_lt ha c2.1)]
      · rw [if_neg c2, if_neg (fun q => c2 (hBh.mpr q))]
  by_cases c : Sl L st ac od a
  · have c' : Sl M st ac od a := ⟨by rw [← hL a ha]; exact c.1, c.2⟩
    rw [ls_y c, ls_y c', hs, hv a ha]
  · have c' : ¬ Sl M st ac od a := fun q => c ⟨by rw [hL a ha]; exact q.1, q.2⟩
    rw [ls_n c, ls_n c', hv a ha]
def POut (W H : Nat) (P : Nat → Int32) : Prop := ∀ a, a < 256 → (W ≤ a % 16 ∨ H ≤ a / 16) → P a = -1
theorem ph_in {fu W H x y : Nat} {P : Nat → Int32} (hW : W ≤ 16) (hH : H ≤ 16) (hx : x < W) (hy : y < H) : m_Shape_partHere fu (nI x) (nI y) (nI H) (nI W) P = some (P (16 * y + x)) := by
  unfold m_Shape_partHere m_Shape_partHere_b23
  rw [bn1_eq (has_eq fu _ _ hW hH), nI_toInt (show x < 2 ^ 31 by omega), nI_toInt (show y < 2 ^ 31 by omega), if_pos (show 0 ≤ (x : Int) ∧ (x : Int) < W ∧ 0 ≤ (y : Int) ∧ (y : Int) < H by omega), if_neg (by decide), bn1_eq (samp_eq fu x y), chk_nI (show 16 * y + x < 256 by omega) (by decide), nI_clamp (show 16 * y + x < 2 ^ 31 by omega)]
theorem ph_out {fu W H : Nat} {X Y : Int32} {P : Nat → Int32} (hW : W ≤ 16) (hH : H ≤ 16) (h : ¬ (0 ≤ X.toInt ∧ X.toInt < W ∧ 0 ≤ Y.toInt ∧ Y.toInt < H)) : m_Shape_partHere fu X Y (nI H) (nI W) P = some (-1) := by
  unfold m_Shape_partHere m_Shape_partHere_b23
  rw [bn1_eq (has_eq fu _ _ hW hH), if_neg h, if_pos rfl]
def rt (st : Nat) (ac : Int32) : Nat := if ac = 0 then 0 else st
def dn (st : Nat) (ac : Int32) : Nat := if ac = 0 then st else 0
theorem bef_ok {fu W H x y st : Nat} {ac : Int32} {P : Nat → Int32} (hW : W ≤ 16) (hH : H ≤ 16) (hx : x < W) (hy : y < H) (hst : st ≤ 4) (hP : P (16 * y + x) ≠ -1) :
    ∃ r, m_Shape_partHere fu (nI x - nI (rt st ac)) (nI y - nI (dn st ac)) (nI H) (nI W) P = some r ∧ (r = P (16 * y + x) ↔ Bf P st ac (16 * y + x)) := by
  have hr : rt st ac ≤ 4 := by unfold rt; split <;> omega
  have hd : dn st ac ≤ 4 := by unfold dn; split <;> omega
  by_cases c : st ≤ cc ac (16 * y + x)
  · have h1 : rt st ac ≤ x ∧ dn st ac ≤ y ∧ 16 * (y - dn st ac) + (x - rt st ac) = 16 * y + x - fr st ac := by
      unfold cc at c; unfold rt dn fr
      split at c <;> (rename_i e; simp only [e, if_true, if_false]; omega)
    refine ⟨P (16 * y + x - fr st ac), ?_, ⟨fun h => ⟨c, h⟩, fun h => h.2⟩⟩
    rw [pk_sub h1.1, pk_sub h1.2.1, ph_in hW hH (by omega) (by omega), h1.2.2]
  · refine ⟨-1, ph_out hW hH ?_, ⟨fun h => absurd h.symm hP, fun h => absurd h.1 c⟩⟩
    rw [pk_sub_toInt (by omega) (by omega), pk_sub_toInt (by omega) (by omega)]
    unfold cc at c; unfold rt dn
    split at c <;> (rename_i e; simp only [e, if_true, if_false]; omega)
theorem beh_ok {fu W H x y st : Nat} {ac : Int32} {P : Nat → Int32} (hW : W ≤ 16) (hH : H ≤ 16) (hx : x < W) (hy : y < H) (hst : st ≤ 4) (hO : POut W H P) (hP : P (16 * y + x) ≠ -1) :
    ∃ r, m_Shape_partHere fu (nI x + nI (rt st ac)) (nI y + nI (dn st ac)) (nI H) (nI W) P = some r ∧ (r = P (16 * y + x) ↔ Bh P st ac (16 * y + x)) := by
  have hr : rt st ac ≤ 4 := by unfold rt; split <;> omega
  have hd : dn st ac ≤ 4 := by unfold dn; split <;> omega
  rw [nI_add, nI_add]
  by_cases c : x + rt st ac < W ∧ y + dn st ac < H
  · have h1 : cc ac (16 * y + x) + st < 16 ∧ 16 * (y + dn st ac) + (x + rt st ac) = 16 * y + x + fr st ac := by
      unfold rt dn at c; unfold cc rt dn fr
      by_cases e : ac = 0 <;> (simp only [e, if_true, if_false] at c ⊢; omega)
    refine ⟨P (16 * y + x + fr st ac), ?_, ⟨fun h => ⟨h1.1, h⟩, fun h => h.2⟩⟩
    rw [ph_in hW hH (by omega) (by omega), h1.2]
  · refine ⟨-1, ph_out hW hH ?_, ⟨fun h => absurd h.symm hP, fun h => ?_⟩⟩
    · rw [nI_toInt (by omega), nI_toInt (by omega)]; omega
    · obtain ⟨h1, h2⟩ := h
      have := hO (16 * y + x + fr st ac) (fr_lt (by omega) h1) (by
        unfold rt dn at c; unfold cc at h1; unfold fr
        by_cases e : ac = 0 <;> (simp only [e, if_true, if_false] at c h1 ⊢; omega))
      rw [this] at h2
      exact absurd h2.symm hP
theorem sbef {fu x y st : Nat} {ac : Int32} (hx : x < 16) (h : st ≤ cc ac (16 * y + x)) : m_FW_sampleOf fu (nI x - nI (rt st ac)) (nI y - nI (dn st ac)) = some (nI (16 * y + x - fr st ac)) := by
  have h1 : rt st ac ≤ x ∧ dn st ac ≤ y ∧ 16 * (y - dn st ac) + (x - rt st ac) = 16 * y + x - fr st ac := by
    unfold cc at h; unfold rt dn fr
    split at h <;> (rename_i e; simp only [e, if_true, if_false]; omega)
  rw [pk_sub h1.1, pk_sub h1.2.1, samp_eq, h1.2.2]
theorem sbeh {fu x y st : Nat} {ac : Int32} : m_FW_sampleOf fu (nI x + nI (rt st ac)) (nI y + nI (dn st ac)) = some (nI (16 * y + x + fr st ac)) := by
  rw [nI_add, nI_add, samp_eq]
  congr 2
  unfold rt dn fr
  split <;> omega
def so (od : Int32) (o : Option Int32) : Int32 := match o with
  | some s => d0 od s
  | none => 0
theorem change_ok {fu W H x y st : Nat} {ac od : Int32} {P v : Nat → Int32} (hW : W ≤ 16) (hH : H ≤ 16) (hx : x < W) (hy : y < H) (hst : st ≤ 4) (hO : POut W H P) (hod : od = 0 ∨ od = 1) :
    m_Lifting_change fu (nI x) (nI y) (nI (rt st ac)) (nI (dn st ac)) od (nI H) (nI W) P v = some (if P (16 * y + x) = -1 then 0 else so od (sm P v st ac (16 * y + x))) := by
  have ha : 16 * y + x < 256 := by omega
  unfold m_Lifting_change
  rw [bn1_eq (ph_in hW hH hx hy)]
  by_cases c : P (16 * y + x) = -1
  · rw [if_pos c, if_pos c]
  · rw [if_neg c, if_neg c]
    obtain ⟨r1, e1, g1⟩ := bef_ok (fu := fu) (ac := ac) hW hH hx hy hst c
    obtain ⟨r2, e2, g2⟩ := beh_ok (fu := fu) (ac := ac) hW hH hx hy hst hO c
    have e148 : ∀ near far, m_Lifting_change_b148 fu od near far (nI H) (nI W) P v = some (d0 od (near + far)) := by
      intro near far
      unfold m_Lifting_change_b148 m_Lifting_change_b176 d0
      rcases hod with e | e <;> subst e
      · rw [if_neg (by decide), if_pos rfl]
      · rw [if_pos rfl, if_neg (by decide)]
    rw [bn1_eq e1]
    unfold m_Lifting_change_b43
    rw [bn1_eq e2, bn1_eq e2]
    unfold m_Lifting_change_b69 m_Lifting_change_b83 m_Lifting_change_b121
    simp only [e148]
    unfold sm
    have z10 : ((1 : Int32) = 0) = False := eq_false (by decide)
    by_cases c1 : Bf P st ac (16 * y + x)
    · have k1 : (r1 = P (16 * y + x)) = True := eq_true (g1.mpr c1)
      have hb := sbef (fu := fu) (ac := ac) (y := y) (st := st) (show x < 16 by omega) c1.1
      simp only [if_pos c1, k1, if_true, if_false, z10, bn1_eq hb, chk_nI (show 16 * y + x - fr st ac < 256 by omega) (show 256 < 2 ^ 31 by decide), nI_clamp (show 16 * y + x - fr st ac < 2 ^ 31 by omega)]
      by_cases c2 : Bh P st ac (16 * y + x)
      · have i2 := fr_lt ha c2.1
        have k2 : (r2 = P (16 * y + x)) = True := eq_true (g2.mpr c2)
        simp only [if_pos c2, k2, if_true, if_false, bn1_eq (sbeh (fu := fu) (x := x) (y := y) (st := st) (ac := ac)), chk_nI i2 (show 256 < 2 ^ 31 by decide), nI_clamp (show 16 * y + x + fr st ac < 2 ^ 31 by omega), so]
      · have k2 : (r2 = P (16 * y + x)) = False := eq_false (fun q => c2 (g2.mp q))
        simp only [if_neg c2, k2, if_true, if_false, so]
    · have k1 : (r1 = P (16 * y + x)) = False := eq_false (fun q => c1 (g1.mp q))
      simp only [if_neg c1, k1, if_true, if_false, z10]
      by_cases c2 : Bh P st ac (16 * y + x)
      · have i2 := fr_lt ha c2.1
        have k2 : (r2 = P (16 * y + x)) = True := eq_true (g2.mpr c2)
        simp only [if_pos c2, k2, if_true, if_false, z10, bn1_eq (sbeh (fu := fu) (x := x) (y := y) (st := st) (ac := ac)), chk_nI i2 (show 256 < 2 ^ 31 by decide), nI_clamp (show 16 * y + x + fr st ac < 2 ^ 31 by omega), so]
      · have k2 : (r2 = P (16 * y + x)) = False := eq_false (fun q => c2 (g2.mp q))
        simp only [if_neg c2, k2, if_true, if_false, so]
