/-! PLANES -/
def absN (x : Int32) : Nat := x.toInt.natAbs
def PL (n k : Nat) : Prop := n < 2 ^ k ∧ ∀ i, i < k → 2 ^ i ≤ n
theorem PL.uniq {n k m : Nat} (h : PL n k) (g : PL n m) : k = m := by
  rcases Nat.lt_trichotomy k m with q | q | q
  · have := g.2 k q; have := h.1; omega
  · exact q
  · have := h.2 m q; have := g.1; omega
theorem PL.le {n k B : Nat} (h : PL n k) (hn : n < 2 ^ B) : k ≤ B := by
  rcases Nat.lt_or_ge B k with q | q
  · have := h.2 B q; omega
  · exact q
theorem shr_nI {n k : Nat} (hn : n < 2 ^ 31) (hk : k < 32) : nI n >>> (nI k &&& 31) = nI (n / 2 ^ k) := by
  have h : ∀ k, k < 32 → ((nI k &&& 31).toBitVec.smod 32).toNat = k := by decide +kernel
  exact pk_shrN hn _ k (h k hk)
theorem pow_div0 {n k : Nat} : n / 2 ^ k = 0 ↔ n < 2 ^ k := by
  rw [Nat.div_eq_zero_iff]
  constructor
  · rintro (h | h)
    · have := Nat.two_pow_pos k; omega
    · exact h
  · exact Or.inr
theorem bitsOf_ok {fu n : Nat} (hfu : 600 < fu) (hn : n < 2 ^ 30) : Ok (m_FW_bitsOf fu (nI n)) (fun r => ∃ k, r = nI k ∧ k ≤ 30 ∧ PL n k) := by
  unfold m_FW_bitsOf
  refine ok_bn1 (Q := fun r => ∃ k, r = nI k ∧ k ≤ 30 ∧ PL n k) ?_ (fun r h => ok_some h)
  refine ok_loop1 (fun m x1 => ∃ k, x1 = nI k ∧ k ≤ 30 ∧ m = 31 - k ∧ ∀ i, i < k → 2 ^ i ≤ n) ?_ fu 31 0 (by omega) ⟨0, rfl, by omega, rfl, fun i h => absurd h (Nat.not_lt_zero _)⟩
  rintro rec m x1 ⟨k, rfl, hk, hm, h⟩ ih
  unfold m_FW_bitsOf_k2
  rw [if_neg (show ¬ (31 : Int32) ≤ nI k from nI_ge (b := 31) (by omega) (by decide)), shr_nI (by omega) (by omega)]
  have hq : n / 2 ^ k ≤ n := Nat.div_le_self _ _
  refine ok_if (fun c => ?_) (fun c => ok_letB ?_)
  · have h0 : n / 2 ^ k ≤ 0 := (nI_leI (b := 0) (by omega) (by decide)).mp c
    exact ok_some ⟨k, rfl, hk, pow_div0.mp (Nat.le_zero.mp h0), h⟩
  · have hge : 2 ^ k ≤ n := by
      rcases Nat.lt_or_ge n (2 ^ k) with q | q
      · exact absurd (by rw [pow_div0.mpr q]; decide) c
      · exact q
    have hk30 : k < 30 := by
      rcases Nat.lt_or_ge k 30 with q | q
      · exact q
      · have : k = 30 := by omega
        subst this; omega
    rw [nI_1]
    refine ih (31 - (k + 1)) _ (by omega) ⟨k + 1, rfl, by omega, rfl, fun i hi => ?_⟩
    by_cases e : i = k
    · subst e; exact hge
    · exact h i (by omega)
theorem abs_le {x : Int32} {B : Nat} (h : -(B : Int) ≤ x.toInt ∧ x.toInt ≤ B) : absN x ≤ B := by unfold absN; omega
theorem of_toInt {x : Int32} {n : Nat} (h : x.toInt = n) (hn : n < 2 ^ 31) : x = nI n := Int32.toInt_inj.mp (by rw [h, nI_toInt hn])
theorem abs_c {x : Int32} {B : Nat} (h : -(B : Int) ≤ x.toInt ∧ x.toInt ≤ B) (hB : B < 2 ^ 31) : (if (0 : Int32) ≤ x then x else 0 - x) = nI (absN x) := by
  have ha := abs_le h
  have e0 : (0 : Int32).toInt = 0 := by decide
  by_cases c : (0 : Int32) ≤ x
  · have c2 := Int32.le_iff_toInt_le.mp c
    rw [if_pos c]
    exact of_toInt (by unfold absN; omega) (by omega)
  · have c2 : ¬ (0 : Int32).toInt ≤ x.toInt := fun q => c (Int32.le_iff_toInt_le.mpr q)
    rw [if_neg c]
    refine of_toInt ?_ (by omega)
    rw [sub_toInt (by omega) (by omega)]
    unfold absN; omega
theorem size_ok {fu : Nat} {x : Int32} {B : Nat} (h : -(B : Int) ≤ x.toInt ∧ x.toInt ≤ B) (hB : B < 2 ^ 31) : m_Md_size fu x = some (nI (absN x)) := by
  have ha := abs_le h
  have e0 : (0 : Int32).toInt = 0 := by decide
  unfold m_Md_size m_Md_size_b10
  by_cases c : (0 : Int32) ≤ x
  · have c2 := Int32.le_iff_toInt_le.mp c
    rw [if_pos c]
    congr 1
    exact of_toInt (by unfold absN; omega) (by omega)
  · have c2 : ¬ (0 : Int32).toInt ≤ x.toInt := fun q => c (Int32.le_iff_toInt_le.mpr q)
    rw [if_neg c]
    congr 1
    refine of_toInt ?_ (by omega)
    rw [neg_toInt (by omega)]
    unfold absN; omega
def mxf (ins w : Nat → Int32) : Nat → Nat
  | 0 => 0
  | n + 1 => if ins n = 0 then mxf ins w n else if mxf ins w n < absN (w n) then absN (w n) else mxf ins w n
theorem mxf_succ (ins w : Nat → Int32) (n : Nat) : mxf ins w (n + 1) = if ins n = 0 then mxf ins w n else if mxf ins w n < absN (w n) then absN (w n) else mxf ins w n := rfl
theorem mxf_le {ins w : Nat → Int32} {B n : Nat} (h : Bd B w) (hn : n ≤ 256) : mxf ins w n ≤ B := by
  induction n with
  | zero => exact Nat.zero_le _
  | succ n ih =>
    have := ih (by omega)
    have := abs_le (h n (by omega))
    simp only [mxf]
    split
    · omega
    · split <;> omega
theorem mxf_congr {ins w ins2 w2 : Nat → Int32} {n : Nat} (hn : n ≤ 256) (h1 : EqT ins ins2) (h2 : EqT w w2) : mxf ins w n = mxf ins2 w2 n := by
  induction n with
  | zero => rfl
  | succ n ih => simp only [mxf]; rw [ih (by omega), h1 n (by omega), h2 n (by omega)]
theorem planesNow_ok {fu B : Nat} {ins w : Nat → Int32} (hfu : 600 < fu) (hB : Bd B w) (hB2 : B < 2 ^ 30) : Ok (m_Md_planesNow fu ins w) (fun r => ∃ k, r = nI k ∧ PL (mxf ins w 256) k) := by
  unfold m_Md_planesNow
  have hmx := mxf_le (ins := ins) hB (Nat.le_refl 256)
  refine ok_bn1 (Q := fun r => r = nI (mxf ins w 256)) ?_ ?_
  · refine ok_loop2 (fun m x1 x2 => ∃ k, x1 = nI (mxf ins w k) ∧ x2 = nI k ∧ k ≤ 256 ∧ m = 256 - k) ?_ fu 256 0 0 (by omega) ⟨0, rfl, rfl, by omega, rfl⟩
    rintro rec m x1 x2 ⟨k, rfl, rfl, hk, hm⟩ ih
    unfold m_Md_planesNow_k4
    refine ok_if (fun c => ?_) (fun c => ?_)
    · have : 256 ≤ k := (nI_leI (a := 256) (by decide) (by omega)).mp c
      have : k = 256 := by omega
      subst this
      exact ok_some rfl
    · have hk2 : k < 256 := by
        rcases Nat.lt_or_ge k 256 with q | q
        · exact q
        · exact absurd (nI_le q (by omega)) c
      have hb := hB k hk2
      have hm1 := mxf_le (ins := ins) hB hk
      have ha := abs_le hb
      have next : Ok (m_Md_planesNow_b46 fu rec (nI k) (nI (mxf ins w (k + 1))) ins w) (fun r => r = nI (mxf ins w 256)) := by
        unfold m_Md_planesNow_b46
        refine ok_letB ?_
        rw [nI_1]
        exact ih (256 - (k + 1)) _ _ (by omega) ⟨k + 1, rfl, rfl, by omega, rfl⟩
      rw [mxf_succ] at next
      unfold m_Md_planesNow_b45
      rw [nI_clamp (by omega)]
      refine ok_chk (vp_nI hk2) ?_
      refine ok_if (fun c2 => ?_) (fun c2 => ok_chk (vp_nI hk2) ?_)
      · rw [if_pos c2] at next; exact next
      · rw [if_neg c2] at next
        rw [bn1_eq (size_ok hb (by omega))]
        refine ok_if (fun c3 => ?_) (fun c3 => ok_chk (vp_nI hk2) ?_)
        · have := (nI_leI (by omega) (by omega)).mp c3
          rw [if_neg (by omega)] at next; exact next
        · have : mxf ins w k < absN (w k) := by
            rcases Nat.lt_or_ge (mxf ins w k) (absN (w k)) with q | q
            · exact q
            · exact absurd (nI_le q (by omega)) c3
          rw [if_pos this] at next
          rw [bn1_eq (size_ok hb (by omega))]
          exact next
  · rintro a1 rfl
    refine ok_bn1 (Q := fun r => ∃ k, r = nI k ∧ PL (mxf ins w 256) k) ?_ (fun r h => ok_some h)
    generalize mxf ins w 256 = n at hmx
    refine ok_loop1 (fun m x1 => ∃ k, x1 = nI k ∧ k ≤ 30 ∧ m = 31 - k ∧ ∀ i, i < k → 2 ^ i ≤ n) ?_ fu 31 0 (by omega) ⟨0, rfl, by omega, rfl, fun i h => absurd h (Nat.not_lt_zero _)⟩
    rintro rec m x1 ⟨k, rfl, hk, hm, h⟩ ih
    unfold m_Md_planesNow_k55
    rw [shr_nI (by omega) (by omega)]
    have hq : n / 2 ^ k ≤ n := Nat.div_le_self _ _
    refine ok_if (fun c => ?_) (fun c => ok_letB ?_)
    · have h0 : n / 2 ^ k ≤ 0 := (nI_leI (b := 0) (by omega) (by decide)).mp c
      exact ok_some ⟨k, rfl, pow_div0.mp (Nat.le_zero.mp h0), h⟩
    · have hge : 2 ^ k ≤ n := by
        rcases Nat.lt_or_ge n (2 ^ k) with q | q
        · exact absurd (by rw [pow_div0.mpr q]; decide) c
        · exact q
      have hk30 : k < 30 := by
        rcases Nat.lt_or_ge k 30 with q | q
        · exact q
        · have : k = 30 := by omega
          subst this; omega
      rw [nI_1]
      refine ih (31 - (k + 1)) _ (by omega) ⟨k + 1, rfl, by omega, rfl, fun i hi => ?_⟩
      by_cases e : i = k
      · subst e; exact hge
      · exact h i (by omega)
/-- what the class has worked out of the picture drawn -/
def PW (ins smp : Nat → Int32) (planes count parts : Int32) (firstOf partOf sizeOf waves : Nat → Int32) : Prop := FP ins 256 count parts firstOf partOf sizeOf ∧ EqT waves (fwd (lab ins 256).1 smp) ∧ ∃ k, planes = nI k ∧ PL (mxf ins (fwd (lab ins 256).1 smp) 256) k
theorem cpy_eqT {f g : Nat → Int32} : EqT (va_cpy f g ((0 : Int32)).toNatClampNeg ((0 : Int32)).toNatClampNeg ((256 : Int32)).toNatClampNeg) f := by
  intro j hj
  rw [show ((0 : Int32)).toNatClampNeg = 0 from nI_clamp (n := 0) (by decide), show ((256 : Int32)).toNatClampNeg = 256 from nI_clamp (n := 256) (by decide), pk_cpy_in (Nat.zero_le _) (by omega), Nat.zero_add, Nat.sub_zero]
theorem lab_out {W H : Nat} {ins : Nat → Int32} (hO : Out W H ins) : POut W H (lab ins 256).1 := fun a ha h => (lab_in ha).mpr (hO a ha h)
theorem renew_ok {fu W H : Nat} {ins smp : Nat → Int32} {planes stale count parts : Int32} {f P q z waves : Nat → Int32} (hfu : 600 < fu) (hW : W ≤ 16) (hH : H ≤ 16) (hO : Out W H ins) (hB : Bd 255 smp) (h : stale = 0 → PW ins smp planes count parts f P z waves) :
    Ok (m_Picture_renew fu planes stale smp count (nI H) parts (nI W) f ins P q z waves) (fun r => r.2.1 = 0 ∧ PW ins smp r.1 r.2.2.1 r.2.2.2.1 r.2.2.2.2.1 r.2.2.2.2.2.1 r.2.2.2.2.2.2.2.1 r.2.2.2.2.2.2.2.2) := by
  unfold m_Picture_renew
  refine ok_if (fun c => ok_some ⟨c, h c⟩) (fun c => ?_)
  refine ok_bn6 (find_ok hfu hW hH hO) ?_
  intro a1 a2 a3 a4 a5 a6 g
  dsimp only at g
  have hP : EqT a4 (lab ins 256).1 := g.part
  have hPO : POut W H a4 := fun a ha h => by rw [hP a ha]; exact lab_out hO a ha h
  refine ok_bn1 (forth_ok hfu hW hH hPO) (fun w hw => ?_)
  have hw2 : EqT w (fwd (lab ins 256).1 smp) := hw.trans (fwd_congr hP cpy_eqT)
  have hwb : Bd 186259 w := (fwd_bd hB).congr hw2
  have hmx := mxf_le (ins := ins) hwb (Nat.le_refl 256)
  refine ok_bn1 (Q := fun r => r = nI (mxf ins w 256)) ?_ ?_
  · refine ok_loop2 (fun m x1 x2 => ∃ k, x1 = nI (mxf ins w k) ∧ x2 = nI k ∧ k ≤ 256 ∧ m = 256 - k) ?_ fu 256 0 0 (by omega) ⟨0, rfl, rfl, by omega, rfl⟩
    rintro rec m x1 x2 ⟨k, rfl, rfl, hk, hm⟩ ih
    unfold m_Picture_renew_k42
    refine ok_if (fun c => ?_) (fun c => ?_)
    · have : 256 ≤ k := (nI_leI (a := 256) (by decide) (by omega)).mp c
      have : k = 256 := by omega
      subst this
      exact ok_some rfl
    · have hk2 : k < 256 := by
        rcases Nat.lt_or_ge k 256 with q | q
        · exact q
        · exact absurd (nI_le q (by omega)) c
      have hb := hwb k hk2
      have hm1 := mxf_le (ins := ins) hwb hk
      have ha := abs_le hb
      have next : Ok (rec (nI (mxf ins w (k + 1))) (nI k + 1)) (fun r => r = nI (mxf ins w 256)) := by
        rw [nI_1]
        exact ih (256 - (k + 1)) _ _ (by omega) ⟨k + 1, rfl, rfl, by omega, rfl⟩
      rw [mxf_succ] at next
      unfold m_Picture_renew_b75
      rw [nI_clamp (by omega), abs_c hb (by omega)]
      refine ok_chk (vp_nI hk2) ?_
      refine ok_if (fun c2 => ok_letB ?_) (fun c2 => ok_chk (vp_nI hk2) (ok_letB (ok_letB ?_)))
      · rw [if_pos c2] at next; exact next
      · rw [if_neg c2] at next
        by_cases c3 : mxf ins w k < absN (w k)
        · rw [if_pos (nI_lt c3 (by omega))]
          rw [if_pos c3] at next; exact next
        · rw [if_neg (nI_nlt (by omega) (by omega))]
          rw [if_neg c3] at next; exact next
  · rintro a rfl
    refine ok_bn1 (bitsOf_ok hfu (by omega)) ?_
    rintro r ⟨k, e, _, hk⟩
    exact ok_some ⟨rfl, g, hw2, k, e, by rw [← mxf_congr (Nat.le_refl _) EqT.refl hw2]; exact hk⟩
