/-! FACES: mask and put -/
theorem isSample_eq (fu : Nat) (X Y : Int32) {W H : Nat} (hW : W ≤ 16) (hH : H ≤ 16) : m_Md_isSample fu X Y (nI H) (nI W) = some (if 0 ≤ X.toInt ∧ X.toInt < W ∧ 0 ≤ Y.toInt ∧ Y.toInt < H then 1 else 0) := by
  unfold m_Md_isSample m_Md_isSample_b28 m_Md_isSample_b29
  have eW := nI_toInt (n := W) (by omega)
  have eH := nI_toInt (n := H) (by omega)
  simp only [Int32.lt_iff_toInt_lt, Int32.le_iff_toInt_le, i32_0, eW, eH, chkB_ok (Or.inl rfl : (0 : Int32) = 0 ∨ (0 : Int32) = 1), chkB_ok (Or.inr rfl : (1 : Int32) = 0 ∨ (1 : Int32) = 1)]
  by_cases c : 0 ≤ X.toInt ∧ X.toInt < W ∧ 0 ≤ Y.toInt ∧ Y.toInt < H
  · rw [if_pos c, if_neg (by omega), if_neg (by omega), if_neg (by omega), if_neg (by omega)]
  · rw [if_neg c]
    by_cases h1 : X.toInt < 0
    · rw [if_pos h1]
    · rw [if_neg h1]
      by_cases h2 : (W : Int) ≤ X.toInt
      · rw [if_pos h2]
      · rw [if_neg h2]
        by_cases h3 : Y.toInt < 0
        · rw [if_pos h3]
        · rw [if_neg h3, if_pos (by omega)]
theorem in_or (fu : Nat) (X Y : Int32) {W H : Nat} (hW : W ≤ 16) (hH : H ≤ 16) : (∃ x y, x < W ∧ y < H ∧ X = nI x ∧ Y = nI y ∧ m_Shape_has fu X Y (nI H) (nI W) = some 1 ∧ m_Md_isSample fu X Y (nI H) (nI W) = some 1) ∨ (m_Shape_has fu X Y (nI H) (nI W) = some 0 ∧ m_Md_isSample fu X Y (nI H) (nI W) = some 0) := by
  rw [has_eq fu X Y hW hH, isSample_eq fu X Y hW hH]
  by_cases c : 0 ≤ X.toInt ∧ X.toInt < W ∧ 0 ≤ Y.toInt ∧ Y.toInt < H
  · rw [if_pos c]
    exact Or.inl ⟨X.toInt.toNat, Y.toInt.toNat, by omega, by omega, of_toInt (by omega) (by omega), of_toInt (by omega) (by omega), rfl, rfl⟩
  · rw [if_neg c]
    exact Or.inr ⟨rfl, rfl⟩
theorem pos_nI {n : Int32} (h : (0 : Int32) ≤ n) : ∃ k, k < 2 ^ 31 ∧ n = nI k := by
  rw [Int32.le_iff_toInt_le, i32_0] at h
  have h2 := Int32.toInt_lt n
  exact ⟨n.toInt.toNat, by omega, of_toInt (by omega) (by omega)⟩
theorem one_le {n : Int32} (h : (1 : Int32) ≤ n) : (0 : Int32) ≤ n := by
  rw [Int32.le_iff_toInt_le] at h ⊢
  have h1 : (1 : Int32).toInt = 1 := by decide
  rw [i32_0]
  omega
def rs (v : Nat → Int32) (a m : Nat) (x : Int32) : Nat → Int32 := fun j => if a ≤ j ∧ j < a + m then x else v j
def rc (v : Nat → Int32) (a : Nat) (x : Int32) : Nat → Nat
  | 0 => 0
  | m + 1 => rc v a x m + (if v (a + m) = x then 0 else 1)
theorem rc_le (v : Nat → Int32) (a : Nat) (x : Int32) (m : Nat) : rc v a x m ≤ m := by
  induction m with
  | zero => exact Nat.le_refl _
  | succ m ih => show rc v a x m + (if v (a + m) = x then 0 else 1) ≤ m + 1; split <;> omega
theorem rc_congr {v w : Nat → Int32} {a m : Nat} {x : Int32} (h : EqT v w) (hm : a + m ≤ 256) : rc v a x m = rc w a x m := by
  induction m with
  | zero => rfl
  | succ m ih => show rc v a x m + (if v (a + m) = x then 0 else 1) = rc w a x m + (if w (a + m) = x then 0 else 1); rw [ih (by omega), h (a + m) (by omega)]
theorem rs_in {v : Nat → Int32} {a m j : Nat} {x : Int32} (h : a ≤ j ∧ j < a + m) : rs v a m x j = x := if_pos h
theorem rs_out {v : Nat → Int32} {a m j : Nat} {x : Int32} (h : ¬ (a ≤ j ∧ j < a + m)) : rs v a m x j = v j := if_neg h
theorem rs_congr {v w : Nat → Int32} {a m : Nat} {x : Int32} (h : EqT v w) : EqT (rs v a m x) (rs w a m x) := by
  intro j hj
  by_cases c : a ≤ j ∧ j < a + m
  · rw [rs_in c, rs_in c]
  · rw [rs_out c, rs_out c]; exact h j hj
theorem rs_step {v cur : Nat → Int32} {a m : Nat} {x : Int32} (h : EqT cur (rs v a m x)) : EqT (upd cur (a + m) x) (rs v a (m + 1) x) := by
  intro j hj
  by_cases e : j = a + m
  · rw [e, pk_us, rs_in (by omega)]
  · rw [pk_un e, h j hj]
    by_cases c : a ≤ j ∧ j < a + m
    · rw [rs_in c, rs_in (by omega)]
    · rw [rs_out c, rs_out (by omega)]
theorem rs_same {v cur : Nat → Int32} {a m : Nat} {x : Int32} (h : EqT cur (rs v a m x)) (hx : v (a + m) = x) (ha : a + m < 256) : EqT cur (rs v a (m + 1) x) := by
  intro j hj
  rw [h j hj]
  by_cases c : a ≤ j ∧ j < a + m
  · rw [rs_in c, rs_in (by omega)]
  · rw [rs_out c]
    by_cases e : j = a + m
    · rw [e, rs_in (by omega), hx]
    · rw [rs_out (by omega)]
theorem GI.rs {W H x y m : Nat} {v : Nat → Int32} {on : Int32} (h : GI W H v) (hx : x + m ≤ W) (hW : W ≤ 16) (hy : y < H) (hon : on = 0 ∨ on = 1) : GI W H (rs v (16 * y + x) m on) := by
  refine ⟨fun j hj => ?_, fun j hj h2 => ?_⟩
  · by_cases c : 16 * y + x ≤ j ∧ j < 16 * y + x + m
    · rw [rs_in c]; exact hon
    · rw [rs_out c]; exact h.1 j hj
  · rw [rs_out (by omega)]; exact h.2 j hj h2
theorem rs0 {v : Nat → Int32} {a : Nat} {x : Int32} : EqT v (rs v a 0 x) := fun j _ => by rw [rs_out (by omega)]
theorem cover_loop {fu x y m : Nat} {on stale wd : Int32} {v : Nat → Int32} (hfu : 600 < fu) (hx : x + m ≤ 16) (hy : y < 16) (hon : on = 0 ∨ on = 1) :
    Ok (loop3 (m_Picture_coverRun_k21 fu (nI x) (nI y) on (nI m) stale wd) fu 0 0 v) (fun r => r.1 = nI (rc v (16 * y + x) on m) ∧ EqT r.2 (rs v (16 * y + x) m on) ∧ (rc v (16 * y + x) on m = 0 → r.2 = v)) := by
  refine ok_loop3 (fun n x6 x7 cur => ∃ i, x7 = nI i ∧ i ≤ m ∧ n = m - i ∧ x6 = nI (rc v (16 * y + x) on i) ∧ EqT cur (rs v (16 * y + x) i on) ∧ (rc v (16 * y + x) on i = 0 → cur = v)) ?_ fu m 0 0 v (by omega) ⟨0, rfl, by omega, rfl, rfl, rs0, fun _ => rfl⟩
  rintro rec n _ _ cur ⟨i, rfl, h1, rfl, rfl, h2, h3⟩ ih
  unfold m_Picture_coverRun_k21 m_Picture_coverRun_b68
  refine ok_if (fun c => ?_) (fun c => ?_)
  · have := (nI_leI (by omega) (by omega)).mp c
    have e : i = m := by omega
    rw [← e]
    exact ok_some ⟨rfl, h2, h3⟩
  · have c1 : i < m := by
      rcases Nat.lt_or_ge i m with r | r
      · exact r
      · exact absurd (nI_le r (by omega)) c
    have hr : rc v (16 * y + x) on (i + 1) = rc v (16 * y + x) on i + (if v (16 * y + x + i) = on then 0 else 1) := rfl
    have hcur : cur (16 * y + x + i) = v (16 * y + x + i) := by rw [h2 _ (by omega), rs_out (by omega)]
    rw [nI_add, bn1_eq (samp_eq fu (x + i) y), ← Nat.add_assoc]
    refine ok_chk (vp_nI (by omega)) ?_
    rw [nI_clamp (by omega), hcur]
    refine ok_if (fun c2 => ?_) (fun c2 => ?_)
    · refine ok_letB ?_
      rw [nI_1]
      refine ih (m - (i + 1)) _ _ _ (by omega) ⟨i + 1, rfl, c1, rfl, ?_, rs_same h2 c2 (by omega), fun q => h3 ?_⟩
      · rw [hr, if_pos c2, Nat.add_zero]
      · rw [hr, if_pos c2] at q; exact q
    · refine ok_chk (vp_nI (by omega)) (ok_letB (ok_letB ?_))
      rw [nI_1, nI_1, nar_b hon]
      refine ih (m - (i + 1)) _ _ _ (by omega) ⟨i + 1, rfl, c1, rfl, ?_, rs_step h2, fun q => ?_⟩
      · rw [hr, if_neg c2]
      · rw [hr, if_neg c2] at q; omega
theorem mask_loop {fu x y k m W : Nat} {on hh : Int32} {v : Nat → Int32} (hfu : 600 < fu) (hW : W ≤ 16) (hx : x < W) (hk : k < 2 ^ 31) (hm : m = (if W - x < k then W - x else k)) (hy : y < 16) (hon : on = 0 ∨ on = 1) :
    Ok (loop3 (m_Md_mask_k33 fu (nI x) (nI y) (nI k) on 0 hh (nI W)) fu 0 0 v) (fun r => r.1 = nI (rc v (16 * y + x) on m) ∧ EqT r.2 (rs v (16 * y + x) m on)) := by
  have hm1 : m ≤ k ∧ x + m ≤ W ∧ (m = k ∨ x + m = W) := by rw [hm]; split <;> omega
  clear hm
  refine ok_loop3 (fun n x5 x6 cur => ∃ i, x6 = nI i ∧ i ≤ m ∧ n = m - i ∧ x5 = nI (rc v (16 * y + x) on i) ∧ EqT cur (rs v (16 * y + x) i on)) ?_ fu m 0 0 v (by omega) ⟨0, rfl, by omega, rfl, rfl, rs0⟩
  rintro rec n _ _ cur ⟨i, rfl, h1, rfl, rfl, h2⟩ ih
  unfold m_Md_mask_k33 m_Md_mask_b83
  have fin : i = m → Ok (some (nI (rc v (16 * y + x) on i), cur)) (fun r => r.1 = nI (rc v (16 * y + x) on m) ∧ EqT r.2 (rs v (16 * y + x) m on)) := by
    intro e
    rw [← e]
    exact ok_some ⟨rfl, h2⟩
  refine ok_if (fun c => ?_) (fun c => ?_)
  · have := (nI_leI (by omega) (by omega)).mp c
    exact fin (by omega)
  · have c1 : i < k := by
      rcases Nat.lt_or_ge i k with r | r
      · exact r
      · exact absurd (nI_le r (by omega)) c
    rw [nI_add]
    refine ok_if (fun c2 => ?_) (fun c2 => ?_)
    · have := (nI_leI (by omega) (by omega)).mp c2
      exact fin (by omega)
    · have c3 : x + i < W := by
        rcases Nat.lt_or_ge (x + i) W with r | r
        · exact r
        · exact absurd (nI_le r (by omega)) c2
      have hr : rc v (16 * y + x) on (i + 1) = rc v (16 * y + x) on i + (if v (16 * y + x + i) = on then 0 else 1) := rfl
      have hcur : cur (16 * y + x + i) = v (16 * y + x + i) := by rw [h2 _ (by omega), rs_out (by omega)]
      have hidx : (((16 : Int32) * nI y) + nI x) + nI i = nI (16 * y + x + i) := by rw [l16, pk_mul, nI_add, nI_add]
      rw [hidx, nI_clamp (by omega), hcur]
      refine ok_if (fun _ => ?_) (fun c => absurd rfl c)
      refine ok_chk (vp_nI (by omega)) (ok_if (fun c4 => ?_) (fun c4 => ?_))
      · refine ok_letB (ok_chk (vp_nI (by omega)) (ok_letB ?_))
        rw [nI_1, nar_b hon, Int32.add_zero]
        refine ih (m - (i + 1)) _ _ _ (by omega) ⟨i + 1, rfl, by omega, rfl, ?_, rs_step h2⟩
        rw [hr, if_pos c4, Nat.add_zero]
      · refine ok_letB (ok_chk (vp_nI (by omega)) (ok_letB ?_))
        rw [nI_1, nI_1, nar_b hon]
        refine ih (m - (i + 1)) _ _ _ (by omega) ⟨i + 1, rfl, by omega, rfl, ?_, rs_step h2⟩
        rw [hr, if_neg c4]
theorem mask_bad {fu : Nat} {x1 x2 x3 on code hh ww : Int32} {v : Nat → Int32} (hfu : 600 < fu) (hc : ¬ code = 0) :
    Ok (loop3 (m_Md_mask_k33 fu x1 x2 x3 on code hh ww) fu 0 0 v) (fun r => r = (0, v)) := by
  obtain ⟨f, rfl⟩ : ∃ f, fu = f + 1 := ⟨fu - 1, by omega⟩
  have hu : ∀ g : Nat, loop3 (m_Md_mask_k33 g x1 x2 x3 on code hh ww) (f + 1) = m_Md_mask_k33 g x1 x2 x3 on code hh ww (loop3 (m_Md_mask_k33 g x1 x2 x3 on code hh ww) f) := fun _ => rfl
  rw [hu]
  unfold m_Md_mask_k33
  exact ok_if (fun _ => ok_some rfl) (fun _ => ok_if (fun _ => ok_some rfl) (fun _ => ok_if (fun c => absurd c hc) (fun _ => ok_some rfl)))
theorem cover_ok {fu x y k m W : Nat} {on stale : Int32} {v : Nat → Int32} (hfu : 600 < fu) (hW : W ≤ 16) (hx : x < W) (hk : k < 2 ^ 31) (hm : m = (if W - x < k then W - x else k)) (hy : y < 16) (hon : on = 0 ∨ on = 1) (hs : stale = 0 ∨ stale = 1) :
    Ok (m_Picture_coverRun fu (nI x) (nI y) (nI k) on stale (nI W) v) (fun r => r.1 = nI (rc v (16 * y + x) on m) ∧ (r.2.1 = 0 ∨ r.2.1 = 1) ∧ (r.2.1 = 0 → stale = 0 ∧ r.2.2 = v) ∧ EqT r.2.2 (rs v (16 * y + x) m on)) := by
  unfold m_Picture_coverRun m_Picture_coverRun_b87 m_Picture_coverRun_b92
  have hm1 : m ≤ k ∧ x + m ≤ W := by rw [hm]; split <;> omega
  have e5 : (if (nI W - nI x) < nI k then nI W - nI x else nI k) = nI m := by
    rw [pk_sub (by omega), hm]
    by_cases c : W - x < k
    · rw [if_pos c, if_pos (nI_lt c hk)]
    · rw [if_neg c, if_neg (nI_nlt (by omega) (by omega))]
  rw [e5]
  refine ok_letB (ok_bn2 (cover_loop hfu (by omega) hy hon) ?_)
  rintro a b ⟨g1, g2, g3⟩
  dsimp only at g1 g2 g3
  subst g1
  have hle := rc_le v (16 * y + x) on m
  refine ok_if (fun c => ok_if (fun c2 => ?_) (fun c2 => ?_)) (fun c => ?_)
  · have h0 := (nI_leI (b := 0) (by omega) (by decide)).mp c2
    exact ok_chkB (Or.inl rfl) (ok_some ⟨rfl, Or.inl rfl, fun _ => ⟨c, g3 (by omega)⟩, g2⟩)
  · exact ok_chkB (Or.inr rfl) (ok_some ⟨rfl, Or.inr rfl, fun q => absurd (show (1 : Int32) = 0 from q) (by decide), g2⟩)
  · exact ok_chkB (Or.inr rfl) (ok_some ⟨rfl, Or.inr rfl, fun q => absurd (show (1 : Int32) = 0 from q) (by decide), g2⟩)
theorem fill_loop {fu x y m : Nat} {on stale wd : Int32} {v : Nat → Int32} (hfu : 600 < fu) (hx : x + m ≤ 16) (hy : y < 16) :
    Ok (loop3 (m_Picture_fillRun_k21 fu (nI x) (nI y) on (nI m) stale wd) fu 0 0 v) (fun r => r.1 = nI (rc v (16 * y + x) on m) ∧ EqT r.2 (rs v (16 * y + x) m on) ∧ (rc v (16 * y + x) on m = 0 → r.2 = v)) := by
  refine ok_loop3 (fun n x6 x7 cur => ∃ i, x7 = nI i ∧ i ≤ m ∧ n = m - i ∧ x6 = nI (rc v (16 * y + x) on i) ∧ EqT cur (rs v (16 * y + x) i on) ∧ (rc v (16 * y + x) on i = 0 → cur = v)) ?_ fu m 0 0 v (by omega) ⟨0, rfl, by omega, rfl, rfl, rs0, fun _ => rfl⟩
  rintro rec n _ _ cur ⟨i, rfl, h1, rfl, rfl, h2, h3⟩ ih
  unfold m_Picture_fillRun_k21 m_Picture_fillRun_b62
  refine ok_if (fun c => ?_) (fun c => ?_)
  · have := (nI_leI (by omega) (by omega)).mp c
    have e : i = m := by omega
    rw [← e]
    exact ok_some ⟨rfl, h2, h3⟩
  · have c1 : i < m := by
      rcases Nat.lt_or_ge i m with r | r
      · exact r
      · exact absurd (nI_le r (by omega)) c
    have hr : rc v (16 * y + x) on (i + 1) = rc v (16 * y + x) on i + (if v (16 * y + x + i) = on then 0 else 1) := rfl
    have hcur : cur (16 * y + x + i) = v (16 * y + x + i) := by rw [h2 _ (by omega), rs_out (by omega)]
    rw [nI_add, bn1_eq (samp_eq fu (x + i) y), ← Nat.add_assoc]
    refine ok_chk (vp_nI (by omega)) ?_
    rw [nI_clamp (by omega), hcur]
    refine ok_if (fun c2 => ?_) (fun c2 => ?_)
    · refine ok_letB ?_
      rw [nI_1]
      refine ih (m - (i + 1)) _ _ _ (by omega) ⟨i + 1, rfl, c1, rfl, ?_, rs_same h2 c2 (by omega), fun q => h3 ?_⟩
      · rw [hr, if_pos c2, Nat.add_zero]
      · rw [hr, if_pos c2] at q; exact q
    · refine ok_chk (vp_nI (by omega)) (ok_letB (ok_letB ?_))
      rw [nI_1, nI_1]
      refine ih (m - (i + 1)) _ _ _ (by omega) ⟨i + 1, rfl, c1, rfl, ?_, rs_step h2, fun q => ?_⟩
      · rw [hr, if_neg c2]
      · rw [hr, if_neg c2] at q; omega
theorem put_loop {fu x y k m W : Nat} {on hh : Int32} {v : Nat → Int32} (hfu : 600 < fu) (hW : W ≤ 16) (hx : x < W) (hk : k < 2 ^ 31) (hm : m = (if W - x < k then W - x else k)) (hy : y < 16) :
    Ok (loop3 (m_Md_put_k46 fu (nI x) (nI y) (nI k) on 0 hh (nI W)) fu 0 0 v) (fun r => r.1 = nI (rc v (16 * y + x) on m) ∧ EqT r.2 (rs v (16 * y + x) m on)) := by
  have hm1 : m ≤ k ∧ x + m ≤ W ∧ (m = k ∨ x + m = W) := by rw [hm]; split <;> omega
  clear hm
  refine ok_loop3 (fun n x5 x6 cur => ∃ i, x6 = nI i ∧ i ≤ m ∧ n = m - i ∧ x5 = nI (rc v (16 * y + x) on i) ∧ EqT cur (rs v (16 * y + x) i on)) ?_ fu m 0 0 v (by omega) ⟨0, rfl, by omega, rfl, rfl, rs0⟩
  rintro rec n _ _ cur ⟨i, rfl, h1, rfl, rfl, h2⟩ ih
  unfold m_Md_put_k46 m_Md_put_b96
  have fin : i = m → Ok (some (nI (rc v (16 * y + x) on i), cur)) (fun r => r.1 = nI (rc v (16 * y + x) on m) ∧ EqT r.2 (rs v (16 * y + x) m on)) := by
    intro e
    rw [← e]
    exact ok_some ⟨rfl, h2⟩
  refine ok_if (fun c => ?_) (fun c => ?_)
  · have := (nI_leI (by omega) (by omega)).mp c
    exact fin (by omega)
  · have c1 : i < k := by
      rcases Nat.lt_or_ge i k with r | r
      · exact r
      · exact absurd (nI_le r (by omega)) c
    rw [nI_add]
    refine ok_if (fun c2 => ?_) (fun c2 => ?_)
    · have := (nI_leI (by omega) (by omega)).mp c2
      exact fin (by omega)
    · have c3 : x + i < W := by
        rcases Nat.lt_or_ge (x + i) W with r | r
        · exact r
        · exact absurd (nI_le r (by omega)) c2
      have hr : rc v (16 * y + x) on (i + 1) = rc v (16 * y + x) on i + (if v (16 * y + x + i) = on then 0 else 1) := rfl
      have hcur : cur (16 * y + x + i) = v (16 * y + x + i) := by rw [h2 _ (by omega), rs_out (by omega)]
      have hidx : (((16 : Int32) * nI y) + nI x) + nI i = nI (16 * y + x + i) := by rw [l16, pk_mul, nI_add, nI_add]
      rw [hidx, nI_clamp (by omega), hcur]
      refine ok_if (fun _ => ?_) (fun c => absurd rfl c)
      refine ok_chk (vp_nI (by omega)) (ok_if (fun c4 => ?_) (fun c4 => ?_))
      · refine ok_letB (ok_chk (vp_nI (by omega)) (ok_letB ?_))
        rw [nI_1, Int32.add_zero]
        refine ih (m - (i + 1)) _ _ _ (by omega) ⟨i + 1, rfl, by omega, rfl, ?_, rs_step h2⟩
        rw [hr, if_pos c4, Nat.add_zero]
      · refine ok_letB (ok_chk (vp_nI (by omega)) (ok_letB ?_))
        rw [nI_1, nI_1]
        refine ih (m - (i + 1)) _ _ _ (by omega) ⟨i + 1, rfl, by omega, rfl, ?_, rs_step h2⟩
        rw [hr, if_neg c4]
theorem put_bad {fu : Nat} {x1 x2 x3 on code hh ww : Int32} {v : Nat → Int32} (hfu : 600 < fu) (hc : ¬ code = 0) :
    Ok (loop3 (m_Md_put_k46 fu x1 x2 x3 on code hh ww) fu 0 0 v) (fun r => r = (0, v)) := by
  obtain ⟨f, rfl⟩ : ∃ f, fu = f + 1 := ⟨fu - 1, by omega⟩
  have hu : ∀ g : Nat, loop3 (m_Md_put_k46 g x1 x2 x3 on code hh ww) (f + 1) = m_Md_put_k46 g x1 x2 x3 on code hh ww (loop3 (m_Md_put_k46 g x1 x2 x3 on code hh ww) f) := fun _ => rfl
  rw [hu]
  unfold m_Md_put_k46
  exact ok_if (fun _ => ok_some rfl) (fun _ => ok_if (fun _ => ok_some rfl) (fun _ => ok_if (fun c => absurd c hc) (fun _ => ok_some rfl)))
theorem fill_ok2 {fu x y k m W : Nat} {on stale : Int32} {v : Nat → Int32} (hfu : 600 < fu) (hW : W ≤ 16) (hx : x < W) (hk : k < 2 ^ 31) (hm : m = (if W - x < k then W - x else k)) (hy : y < 16) (hs : stale = 0 ∨ stale = 1) :
    Ok (m_Picture_fillRun fu (nI x) (nI y) (nI k) on stale v (nI W)) (fun r => r.1 = nI (rc v (16 * y + x) on m) ∧ (r.2.1 = 0 ∨ r.2.1 = 1) ∧ (r.2.1 = 0 → stale = 0 ∧ r.2.2 = v) ∧ EqT r.2.2 (rs v (16 * y + x) m on)) := by
  unfold m_Picture_fillRun m_Picture_fillRun_b81 m_Picture_fillRun_b86
  have hm1 : m ≤ k ∧ x + m ≤ W := by rw [hm]; split <;> omega
  have e5 : (if (nI W - nI x) < nI k then nI W - nI x else nI k) = nI m := by
    rw [pk_sub (by omega), hm]
    by_cases c : W - x < k
    · rw [if_pos c, if_pos (nI_lt c hk)]
    · rw [if_neg c, if_neg (nI_nlt (by omega) (by omega))]
  rw [e5]
  refine ok_letB (ok_bn2 (fill_loop hfu (by omega) hy) ?_)
  rintro a b ⟨g1, g2, g3⟩
  dsimp only at g1 g2 g3
  subst g1
  have hle := rc_le v (16 * y + x) on m
  refine ok_if (fun c => ok_if (fun c2 => ?_) (fun c2 => ?_)) (fun c => ?_)
  · have h0 := (nI_leI (b := 0) (by omega) (by decide)).mp c2
    exact ok_chkB (Or.inl rfl) (ok_some ⟨rfl, Or.inl rfl, fun _ => ⟨c, g3 (by omega)⟩, g2⟩)
  · exact ok_chkB (Or.inr rfl) (ok_some ⟨rfl, Or.inr rfl, fun q => absurd (show (1 : Int32) = 0 from q) (by decide), g2⟩)
  · exact ok_chkB (Or.inr rfl) (ok_some ⟨rfl, Or.inr rfl, fun q => absurd (show (1 : Int32) = 0 from q) (by decide), g2⟩)
theorem upL0 {f : Nat → Int64} {v : Int64} : vp_updL f ((0 : Int32)).toNatClampNeg v ((0 : Int32)).toNatClampNeg = v := if_pos rfl
theorem ok_un2 {α1 α2 ρ : Type} {a1 : α1} {a2 : α2} {k : α1 → α2 → Option ρ} {P : ρ → Prop} (h : Ok (k a1 a2) P) : Ok (un2 (a1, a2) k) P := h
theorem ok_un3 {α1 α2 α3 ρ : Type} {a1 : α1} {a2 : α2} {a3 : α3} {k : α1 → α2 → α3 → Option ρ} {P : ρ → Prop} (h : Ok (k a1 a2 a3) P) : Ok (un3 (a1, a2, a3) k) P := h
theorem ok_un10 {α1 α2 α3 α4 α5 α6 α7 α8 α9 α10 ρ : Type} {a1 : α1} {a2 : α2} {a3 : α3} {a4 : α4} {a5 : α5} {a6 : α6} {a7 : α7} {a8 : α8} {a9 : α9} {a10 : α10} {k : α1 → α2 → α3 → α4 → α5 → α6 → α7 → α8 → α9 → α10 → Option ρ} {P : ρ → Prop} (h : Ok (k a1 a2 a3 a4 a5 a6 a7 a8 a9 a10) P) : Ok (un10 (a1, a2, a3, a4, a5, a6, a7, a8, a9, a10) k) P := h
theorem ok_un18 {α1 α2 α3 α4 α5 α6 α7 α8 α9 α10 α11 α12 α13 α14 α15 α16 α17 α18 ρ : Type} {a1 : α1} {a2 : α2} {a3 : α3} {a4 : α4} {a5 : α5} {a6 : α6} {a7 : α7} {a8 : α8} {a9 : α9} {a10 : α10} {a11 : α11} {a12 : α12} {a13 : α13} {a14 : α14} {a15 : α15} {a16 : α16} {a17 : α17} {a18 : α18} {k : α1 → α2 → α3 → α4 → α5 → α6 → α7 → α8 → α9 → α10 → α11 → α12 → α13 → α14 → α15 → α16 → α17 → α18 → Option ρ} {P : ρ → Prop} (h : Ok (k a1 a2 a3 a4 a5 a6 a7 a8 a9 a10 a11 a12 a13 a14 a15 a16 a17 a18) P) : Ok (un18 (a1, a2, a3, a4, a5, a6, a7, a8, a9, a10, a11, a12, a13, a14, a15, a16, a17, a18) k) P := h
theorem ok_un20 {α1 α2 α3 α4 α5 α6 α7 α8 α9 α10 α11 α12 α13 α14 α15 α16 α17 α18 α19 α20 ρ : Type} {a1 : α1} {a2 : α2} {a3 : α3} {a4 : α4} {a5 : α5} {a6 : α6} {a7 : α7} {a8 : α8} {a9 : α9} {a10 : α10} {a11 : α11} {a12 : α12} {a13 : α13} {a14 : α14} {a15 : α15} {a16 : α16} {a17 : α17} {a18 : α18} {a19 : α19} {a20 : α20} {k : α1 → α2 → α3 → α4 → α5 → α6 → α7 → α8 → α9 → α10 → α11 → α12 → α13 → α14 → α15 → α16 → α17 → α18 → α19 → α20 → Option ρ} {P : ρ → Prop} (h : Ok (k a1 a2 a3 a4 a5 a6 a7 a8 a9 a10 a11 a12 a13 a14 a15 a16 a17 a18 a19 a20) P) : Ok (un20 (a1, a2, a3, a4, a5, a6, a7, a8, a9, a10, a11, a12, a13, a14, a15, a16, a17, a18, a19, a20) k) P := h
theorem ok_un22 {α1 α2 α3 α4 α5 α6 α7 α8 α9 α10 α11 α12 α13 α14 α15 α16 α17 α18 α19 α20 α21 α22 ρ : Type} {a1 : α1} {a2 : α2} {a3 : α3} {a4 : α4} {a5 : α5} {a6 : α6} {a7 : α7} {a8 : α8} {a9 : α9} {a10 : α10} {a11 : α11} {a12 : α12} {a13 : α13} {a14 : α14} {a15 : α15} {a16 : α16} {a17 : α17} {a18 : α18} {a19 : α19} {a20 : α20} {a21 : α21} {a22 : α22} {k : α1 → α2 → α3 → α4 → α5 → α6 → α7 → α8 → α9 → α10 → α11 → α12 → α13 → α14 → α15 → α16 → α17 → α18 → α19 → α20 → α21 → α22 → Option ρ} {P : ρ → Prop} (h : Ok (k a1 a2 a3 a4 a5 a6 a7 a8 a9 a10 a11 a12 a13 a14 a15 a16 a17 a18 a19 a20 a21 a22) P) : Ok (un22 (a1, a2, a3, a4, a5, a6, a7, a8, a9, a10, a11, a12, a13, a14, a15, a16, a17, a18, a19, a20, a21, a22) k) P := h
theorem L_mask {fu W H : Nat} {X Y n on stale code : Int32} {out : Nat → Int64} {v w : Nat → Int32} (hfu : 600 < fu) (hW : W ≤ 16) (hH : H ≤ 16) (hon : on = 0 ∨ on = 1) (hs : stale = 0 ∨ stale = 1) (hE : EqT v w) (hG : GI W H v) :
    Ok (m_Lw_mask fu X Y n on out stale (nI H) (nI W) v) (fun a => Ok (m_Md_mask fu X Y n on code (nI H) (nI W) w) (fun b => b.2.1 = a.1 ∧ (a.1 = 0 → a.2.1 ((0 : Int32)).toNatClampNeg = b.1.toInt64) ∧ (a.2.2.1 = 0 ∨ a.2.2.1 = 1) ∧ (a.2.2.1 = 0 → stale = 0 ∧ a.2.2.2 = v) ∧ EqT a.2.2.2 b.2.2 ∧ GI W H a.2.2.2)) := by
  unfold m_Lw_mask m_FW_mask m_Md_mask m_Md_mask_b24
  rcases in_or fu X Y hW hH with ⟨x, y, hx, hy, rfl, rfl, h1, h2⟩ | ⟨h1, h2⟩
  · rw [bn1_eq h1, bn1_eq h2]
    by_cases c : (1 : Int32) ≤ n
    · obtain ⟨k, hk, rfl⟩ := pos_nI (one_le c)
      refine ok_sm2 (Q1 := fun u => u.1 = nI (rc v (16 * y + x) on (if W - x < k then W - x else k)) ∧ (u.2.1 = 0 ∨ u.2.1 = 1) ∧ (u.2.1 = 0 → stale = 0 ∧ u.2.2 = v) ∧ EqT u.2.2 (rs v (16 * y + x) (if W - x < k then W - x else k) on)) (Q2 := fun _ => False) ?_ ?_ (fun _ h => absurd h id)
      · refine ok_if (fun c => absurd c (by decide)) (fun _ => ok_if (fun _ => ?_) (fun c2 => absurd c c2))
        exact ok_bn3 (cover_ok hfu hW hx hk rfl (by omega) hon hs) (fun a1 a2 a3 g => ok_some g)
      · rintro ⟨a1, a2, a3⟩ ⟨g1, g2, g3, g4⟩
        dsimp only at g1 g2 g3 g4
        refine ok_un3 (ok_some ?_)
        refine ok_if (fun c => absurd c (by decide)) (fun _ => ok_if (fun _ => ?_) (fun c2 => absurd c c2))
        refine ok_bn2 (mask_loop hfu hW hx hk rfl (by omega) hon) ?_
        rintro b1 b2 ⟨k1, k2⟩
        dsimp only at k1 k2
        have hmm : x + (if W - x < k then W - x else k) ≤ W := by split <;> omega
        generalize (if W - x < k then W - x else k) = m at *
        refine ok_some ⟨rfl, fun _ => ?_, g2, g3, g4.trans ((rs_congr hE).trans k2.symm), ?_⟩
        · refine (upL0 (f := out) (v := a1.toInt64)).trans ?_
          show a1.toInt64 = b1.toInt64
          rw [g1, k1, rc_congr hE (by omega)]
        · have hG2 := hG.rs (x := x) (y := y) hmm hW hy hon
          exact ⟨fun j hj => by show a3 j = 0 ∨ a3 j = 1; rw [g4 j hj]; exact hG2.1 j hj, fun j hj h2 => by show a3 j = 0; rw [g4 j hj]; exact hG2.2 j hj h2⟩
    · refine ok_sm2 (Q1 := fun _ => False) (Q2 := fun u => u = (2, stale, v)) ?_ (fun _ h => absurd h id) ?_
      · exact ok_if (fun c => absurd c (by decide)) (fun _ => ok_if (fun c2 => absurd c2 c) (fun _ => ok_some rfl))
      · rintro _ rfl
        refine ok_un3 (ok_if (fun c => absurd c (by decide)) (fun _ => ok_if (fun _ => ok_some ?_) (fun c => absurd rfl c)))
        refine ok_if (fun c => absurd c (by decide)) (fun _ => ok_if (fun c2 => absurd c2 c) (fun _ => ?_))
        refine ok_bn2 (mask_bad hfu (by decide)) ?_
        rintro b1 b2 g
        refine ok_some ⟨rfl, fun q => absurd (show (2 : Int32) = 0 from q) (by decide), hs, fun q => ⟨q, rfl⟩, ?_, hG⟩
        have : b2 = w := congrArg Prod.snd g
        rw [show ((b1, (2 : Int32), b2) : Int32 × Int32 × (Nat → Int32)).2.2 = b2 from rfl, this]
        exact hE
  · rw [bn1_eq h1, bn1_eq h2]
    refine ok_sm2 (Q1 := fun _ => False) (Q2 := fun u => u = (1, stale, v)) ?_ (fun _ h => absurd h id) ?_
    · exact ok_if (fun _ => ok_some rfl) (fun c => absurd rfl c)
    · rintro _ rfl
      refine ok_un3 (ok_if (fun _ => ok_some ?_) (fun c => absurd rfl c))
      refine ok_if (fun _ => ?_) (fun c => absurd rfl c)
      refine ok_bn2 (mask_bad hfu (by decide)) ?_
      rintro b1 b2 g
      refine ok_some ⟨rfl, fun q => absurd (show (1 : Int32) = 0 from q) (by decide), hs, fun q => ⟨q, rfl⟩, ?_, hG⟩
      have : b2 = w := congrArg Prod.snd g
      rw [show ((b1, (1 : Int32), b2) : Int32 × Int32 × (Nat → Int32)).2.2 = b2 from rfl, this]
      exact hE
def V8 (v : Nat → Int32) : Prop := ∀ j, j < 256 → 0 ≤ (v j).toInt ∧ (v j).toInt ≤ 255
theorem V8.bd {v : Nat → Int32} (h : V8 v) : Bd 255 v := fun j hj => by have := h j hj; omega
theorem L_put {fu W H : Nat} {X Y n b stale code : Int32} {out : Nat → Int64} {v w : Nat → Int32} (hfu : 600 < fu) (hW : W ≤ 16) (hH : H ≤ 16) (hs : stale = 0 ∨ stale = 1) (hE : EqT v w) (hG : V8 v) :
    Ok (m_Lw_put fu X Y n b out stale v (nI H) (nI W)) (fun a => Ok (m_Md_put fu X Y n b code (nI H) (nI W) w) (fun r => r.2.1 = a.1 ∧ (a.1 = 0 → a.2.1 ((0 : Int32)).toNatClampNeg = r.1.toInt64) ∧ (a.2.2.1 = 0 ∨ a.2.2.1 = 1) ∧ (a.2.2.1 = 0 → stale = 0 ∧ a.2.2.2 = v) ∧ EqT a.2.2.2 r.2.2 ∧ V8 a.2.2.2)) := by
  unfold m_Lw_put m_FW_put m_FW_put_b53 m_Md_put m_Md_put_b32 m_Md_put_b37
  -- nothing changes, and both say 2
  have two : Ok (bn2 (loop3 (m_Md_put_k46 fu X Y n b 2 (nI H) (nI W)) fu 0 0 w) (fun o_x5_12 o_values_13 => some (o_x5_12, (2 : Int32), o_values_13))) (fun r => r.2.1 = 2 ∧ EqT v r.2.2) := by
    refine ok_bn2 (put_bad hfu (by decide)) ?_
    rintro b1 b2 g
    refine ok_some ⟨rfl, ?_⟩
    have : b2 = w := congrArg Prod.snd g
    rw [show ((b1, (2 : Int32), b2) : Int32 × Int32 × (Nat → Int32)).2.2 = b2 from rfl, this]
    exact hE
  rcases in_or fu X Y hW hH with ⟨x, y, hx, hy, rfl, rfl, h1, h2⟩ | ⟨h1, h2⟩
  · rw [bn1_eq h1, bn1_eq h2]
    have c1n : (1 : Int32) ≤ n ↔ ¬ n < 1 := by rw [Int32.le_iff_toInt_le, Int32.lt_iff_toInt_lt]; omega
    by_cases good : (1 : Int32) ≤ n ∧ ¬ b < 0 ∧ b ≤ 255
    · obtain ⟨c, d1, d2⟩ := good
      obtain ⟨k, hk, rfl⟩ := pos_nI (one_le c)
      have hb8 : 0 ≤ b.toInt ∧ b.toInt ≤ 255 := by
        rw [Int32.lt_iff_toInt_lt, i32_0] at d1
        rw [Int32.le_iff_toInt_le, show (255 : Int32).toInt = 255 by decide] at d2
        omega
      refine ok_sm2 (Q1 := fun u => u.1 = nI (rc v (16 * y + x) b (if W - x < k then W - x else k)) ∧ (u.2.1 = 0 ∨ u.2.1 = 1) ∧ (u.2.1 = 0 → stale = 0 ∧ u.2.2 = v) ∧ EqT u.2.2 (rs v (16 * y + x) (if W - x < k then W - x else k) b)) (Q2 := fun _ => False) ?_ ?_ (fun _ h => absurd h id)
      · refine ok_if (fun c => absurd c (by decide)) (fun _ => ok_if (fun _ => ok_if (fun q => absurd q d1) (fun _ => ok_if (fun _ => ?_) (fun q => absurd d2 q))) (fun c2 => absurd c c2))
        exact ok_bn3 (fill_ok2 hfu hW hx hk rfl (by omega) hs) (fun a1 a2 a3 g => ok_some g)
      · rintro ⟨a1, a2, a3⟩ ⟨g1, g2, g3, g4⟩
        dsimp only at g1 g2 g3 g4
        refine ok_un3 (ok_some ?_)
        refine ok_if (fun c => absurd c (by decide)) (fun _ => ok_if (fun q => absurd q (c1n.mp c)) (fun _ => ok_if (fun q => absurd q d1) (fun _ => ok_if (fun _ => ?_) (fun q => absurd d2 q))))
        refine ok_bn2 (put_loop hfu hW hx hk rfl (by omega)) ?_
        rintro b1 b2 ⟨k1, k2⟩
        dsimp only at k1 k2
        have hmm : x + (if W - x < k then W - x else k) ≤ W := by split <;> omega
        generalize (if W - x < k then W - x else k) = m at *
        refine ok_some ⟨rfl, fun _ => ?_, g2, g3, g4.trans ((rs_congr hE).trans k2.symm), ?_⟩
        · refine (upL0 (f := out) (v := a1.toInt64)).trans ?_
          show a1.toInt64 = b1.toInt64
          rw [g1, k1, rc_congr hE (by omega)]
        · intro j hj
          show 0 ≤ (a3 j).toInt ∧ (a3 j).toInt ≤ 255
          rw [g4 j hj]
          by_cases q : 16 * y + x ≤ j ∧ j < 16 * y + x + m
          · rw [rs_in q]; exact hb8
          · rw [rs_out q]; exact hG j hj
    · refine ok_sm2 (Q1 := fun _ => False) (Q2 := fun u => u = (2, stale, v)) ?_ (fun _ h => absurd h id) ?_
      · exact ok_if (fun c => absurd c (by decide)) (fun _ => ok_if (fun c2 => ok_if (fun _ => ok_some rfl) (fun c3 => ok_if (fun c4 => absurd ⟨c2, c3, c4⟩ good) (fun _ => ok_some rfl))) (fun _ => ok_some rfl))
      · rintro _ rfl
        refine ok_un3 (ok_if (fun c => absurd c (by decide)) (fun _ => ok_if (fun _ => ok_some ?_) (fun c => absurd rfl c)))
        have fin : ∀ {o : Option (Int32 × Int32 × (Nat → Int32))}, Ok o (fun r => r.2.1 = 2 ∧ EqT v r.2.2) → Ok o (fun r => r.2.1 = 2 ∧ ((2 : Int32) = 0 → out ((0 : Int32)).toNatClampNeg = r.1.toInt64) ∧ (stale = 0 ∨ stale = 1) ∧ (stale = 0 → stale = 0 ∧ v = v) ∧ EqT v r.2.2 ∧ V8 v) := fun h => ok_mono h (fun r g => ⟨g.1, fun q => absurd q (by decide), hs, fun q => ⟨q, rfl⟩, g.2, hG⟩)
        exact ok_if (fun c => absurd c (by decide)) (fun _ => ok_if (fun _ => fin two) (fun c2 => ok_if (fun _ => fin two) (fun c3 => ok_if (fun c4 => absurd ⟨c1n.mpr c2, c3, c4⟩ good) (fun _ => fin two))))
  · rw [bn1_eq h1, bn1_eq h2]
    refine ok_sm2 (Q1 := fun _ => False) (Q2 := fun u => u = (1, stale, v)) ?_ (fun _ h => absurd h id) ?_
    · exact ok_if (fun _ => ok_some rfl) (fun c => absurd rfl c)
    · rintro _ rfl
      refine ok_un3 (ok_if (fun _ => ok_some ?_) (fun c => absurd rfl c))
      refine ok_if (fun _ => ?_) (fun c => absurd rfl c)
      refine ok_bn2 (put_bad hfu (by decide)) ?_
      rintro b1 b2 g
      refine ok_some ⟨rfl, fun q => absurd (show (1 : Int32) = 0 from q) (by decide), hs, fun q => ⟨q, rfl⟩, ?_, hG⟩
      have : b2 = w := congrArg Prod.snd g
      rw [show ((b1, (1 : Int32), b2) : Int32 × Int32 × (Nat → Int32)).2.2 = b2 from rfl, this]
      exact hE
