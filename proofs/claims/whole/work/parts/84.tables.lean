/-! THE WALK: its tables -/
theorem forget_ok {fu : Nat} {known left opn : Nat → Int32} (hfu : 600 < fu) : Ok (m_Walk_forget fu known left opn) (fun r => (∀ j, j < 256 → r.1 j = 0) ∧ (∀ j, j < 4 → r.2.1 j = 0) ∧ ∀ j, j < 340 → r.2.2 j = 0) := by
  unfold m_Walk_forget
  refine ok_bn1 (fill_ok (by decide) (by omega)) ?_
  rintro kn hk
  refine ok_bn1 (fill_ok (by decide) (by omega)) ?_
  rintro lf hl
  refine ok_bn1 (Q := fun r => ∀ j, j < 340 → r j = 0) ?_ (fun o ho => ok_some ⟨hk.1, hl.1, ho⟩)
  refine ok_loop2 (fun m x o => ∃ i, x = nI i ∧ i ≤ 340 ∧ m = 340 - i ∧ ∀ j, j < i → o j = 0) ?_ fu 340 0 opn (by omega) ⟨0, rfl, by omega, rfl, fun j hj => absurd hj (Nat.not_lt_zero _)⟩
  rintro rec m _ o ⟨i, rfl, h1, rfl, h2⟩ ih
  unfold m_Walk_forget_k18
  refine ok_if (fun c => ?_) (fun c => ?_)
  · have := (nI_leI (a := 340) (by decide) (by omega)).mp c
    exact ok_some (fun j hj => h2 j (by omega))
  · have c1 : i < 340 := by
      rcases Nat.lt_or_ge i 340 with q | q
      · exact q
      · exact absurd (nI_le (a := 340) q (by omega)) c
    refine ok_chk (vp_nI c1) (ok_letB ?_)
    rw [nI_1, nI_clamp (by omega), nar_b0]
    refine ih (340 - (i + 1)) _ _ (by omega) ⟨i + 1, rfl, c1, rfl, fun j hj => ?_⟩
    by_cases e : j = i
    · rw [e, pk_us]
    · rw [pk_un e]; exact h2 j (by omega)
theorem begin_ok {fu : Nat} {md lim count limit mode : Int32} {below opn sizes : Nat → Int32} (hfu : 2000 < fu) : Ok (m_Md_begin fu md lim count limit mode below opn sizes) (fun r => r.1 = 0 ∧ r.2.1 = lim ∧ r.2.2.1 = md ∧ (∀ j, j < 256 → r.2.2.2.1 j = 0) ∧ (∀ j, j < 1024 → r.2.2.2.2.1 j = 0) ∧ ∀ j, j < 256 → r.2.2.2.2.2 j = 0) := by
  unfold m_Md_begin
  refine ok_bn1 (Q := fun r => ∀ j, j < 1024 → r j = 0) ?_ (fun o ho => ?_)
  · refine ok_loop2 (fun m x o => ∃ i, x = nI i ∧ i ≤ 1024 ∧ m = 1024 - i ∧ ∀ j, j < i → o j = 0) ?_ fu 1024 0 opn (by omega) ⟨0, rfl, by omega, rfl, fun j hj => absurd hj (Nat.not_lt_zero _)⟩
    rintro rec m _ o ⟨i, rfl, h1, rfl, h2⟩ ih
    unfold m_Md_begin_k17
    refine ok_if (fun c => ?_) (fun c => ?_)
    · have := (nI_leI (a := 1024) (by decide) (by omega)).mp c
      exact ok_some (fun j hj => h2 j (by omega))
    · have c1 : i < 1024 := by
        rcases Nat.lt_or_ge i 1024 with q | q
        · exact q
        · exact absurd (nI_le (a := 1024) q (by omega)) c
      refine ok_chk (vp_nI c1) (ok_letB ?_)
      rw [nI_1, nI_clamp (by omega), nar_b0]
      refine ih (1024 - (i + 1)) _ _ (by omega) ⟨i + 1, rfl, c1, rfl, fun j hj => ?_⟩
      by_cases e : j = i
      · rw [e, pk_us]
      · rw [pk_un e]; exact h2 j (by omega)
  · refine ok_bn2 (Q := fun r => (∀ j, j < 256 → r.1 j = 0) ∧ ∀ j, j < 256 → r.2 j = 0) ?_ (fun b s h => ok_some ⟨rfl, rfl, rfl, h.1, ho, h.2⟩)
    refine ok_loop3 (fun m x b s => ∃ i, x = nI i ∧ i ≤ 256 ∧ m = 256 - i ∧ (∀ j, j < i → b j = 0) ∧ ∀ j, j < i → s j = 0) ?_ fu 256 0 below sizes (by omega) ⟨0, rfl, by omega, rfl, fun j hj => absurd hj (Nat.not_lt_zero _), fun j hj => absurd hj (Nat.not_lt_zero _)⟩
    rintro rec m _ b s ⟨i, rfl, h1, rfl, h2, h3⟩ ih
    unfold m_Md_begin_k39
    refine ok_if (fun c => ?_) (fun c => ?_)
    · have := (nI_leI (a := 256) (by decide) (by omega)).mp c
      exact ok_some ⟨fun j hj => h2 j (by omega), fun j hj => h3 j (by omega)⟩
    · have c1 : i < 256 := by
        rcases Nat.lt_or_ge i 256 with q | q
        · exact q
        · exact absurd (nI_le (a := 256) q (by omega)) c
      refine ok_chk (vp_nI c1) (ok_chk (vp_nI c1) (ok_letB ?_))
      rw [nI_1, nI_clamp (by omega), nar_b0]
      refine ih (256 - (i + 1)) _ _ _ (by omega) ⟨i + 1, rfl, c1, rfl, fun j hj => ?_, fun j hj => ?_⟩
      · by_cases e : j = i
        · rw [e, pk_us]
        · rw [pk_un e]; exact h2 j (by omega)
      · by_cases e : j = i
        · rw [e, pk_us]
        · rw [pk_un e]; exact h3 j (by omega)
theorem ck_lt {l p : Nat} (h : PS l p) : ck l p < 340 := by
  have h1 := sid_ok h
  rw [← h1.2.2.1]
  exact (cks_inv _ h1.1).2
theorem ck_inj {l p l2 p2 : Nat} (h : PS l p) (h2 : PS l2 p2) (e : ck l p = ck l2 p2) : l = l2 ∧ p = p2 := by
  have a := sid_ok h
  have b := sid_ok h2
  exact sid_inj h h2 (cks_inj a.1 b.1 (by rw [a.2.2.1, b.2.2.1, e]))
def GT (ins w gt : Nat → Int32) (l : Nat) : Prop := ∀ p, PS l p → gt (ck l p) = en (G ins w l p)
theorem G_0 {ins w : Nat → Int32} {p : Nat} : G ins w 0 p = gv ins w p := by
  unfold G
  rw [Nat.pow_zero, Nat.one_mul]
  show Nat.max 0 (gv ins w (p + 0)) = gv ins w p
  exact Nat.zero_max _
def pm (ins w : Nat → Int32) (l p : Nat) : Nat → Nat
  | 0 => 0
  | j + 1 => Nat.max (pm ins w l p j) (G ins w l (4 * p + j))
theorem pm_le {ins w : Nat → Int32} {B l p j : Nat} (hB : Bd B w) (hP : PS (l + 1) p) (hj : j ≤ 4) : pm ins w l p j ≤ B + 1 := by
  induction j with
  | zero => exact Nat.zero_le _
  | succ j ih => exact Nat.max_le.mpr ⟨ih (by omega), G_le hB (hP.kid (by omega))⟩
theorem gbel_ok {fu B l p : Nat} {ins w gt : Nat → Int32} (hfu : 600 < fu) (hB : Bd B w) (hB2 : B < 2 ^ 29) (hP : PS (l + 1) p) (hG : GT ins w gt l) : Ok (m_Walk_greatestBelow fu (nI (l + 1)) (nI (mx p)) (nI (my p)) gt) (fun r => r = en (G ins w (l + 1) p)) := by
  have hl := hP.1
  have hp64 : p < 64 := by
    have h2 := hP.2
    have : 4 ^ (4 - (l + 1)) ≤ 4 ^ 3 := Nat.pow_le_pow_right (by decide) (by omega)
    omega
  unfold m_Walk_greatestBelow
  refine ok_bn1 (Q := fun r => r = en (G ins w (l + 1) p)) ?_ (fun o ho => ok_some ho)
  refine ok_loop2 (fun m x4 x5 => ∃ j, x5 = nI j ∧ j ≤ 4 ∧ m = 4 - j ∧ x4 = en (pm ins w l p j)) ?_ fu 4 (-1) 0 (by omega) ⟨0, rfl, by omega, rfl, rfl⟩
  rintro rec m _ _ ⟨j, rfl, h1, rfl, rfl⟩ ih
  unfold m_Walk_greatestBelow_k6
  refine ok_if (fun c => ?_) (fun c => ?_)
  · have := (nI_leI (a := 4) (by decide) (by omega)).mp c
    have e : j = 4 := by omega
    subst e
    rw [G_up]
    exact ok_some rfl
  · have c1 : j < 4 := by
      rcases Nat.lt_or_ge j 4 with q | q
      · exact q
      · exact absurd (nI_le (a := 4) q (by omega)) c
    have hk := kid p hp64 j c1
    have e1 : nI (mx p) * 2 + (nI j &&& 1) = nI (mx (4 * p + j)) := by rw [pk_andN (by omega) 1 (by decide), l2, pk_mul, nI_add, hk.1]
    have e2 : nI (my p) * 2 + (nI j >>> ((1 : Int32) &&& 31)) = nI (my (4 * p + j)) := by rw [pk_shrN (by omega) _ 1 (by decide), l2, pk_mul, nI_add, hk.2]
    rw [nI_pred, e1, e2, bn1_eq (sqo_ok fu (by omega) (by omega))]
    have hPk := hP.kid c1
    refine ok_chk (vp_nI (ck_lt hPk)) ?_
    have := ck_lt hPk
    rw [nI_clamp (by omega), hG _ hPk, en_max (by have := pm_le (ins := ins) (j := j) hB hP h1; omega) (by have := G_le (ins := ins) hB hPk; omega)]
    refine ok_letB (ok_letB ?_)
    exact ih (4 - (j + 1)) _ _ (by omega) ⟨j + 1, nI_1 j, c1, rfl, rfl⟩
theorem shr16 : ∀ l, l < 5 → (16 : Int32) >>> (nI l &&& 31) = nI (2 ^ (4 - l)) := by decide +kernel
theorem PS_xy {l x y : Nat} (h0 : 0 < l) (hl : l < 4) (hx : x < 2 ^ (4 - l)) (hy : y < 2 ^ (4 - l)) : PS l (il x y) ∧ mx (il x y) = x ∧ my (il x y) = y := by
  rcases (show l = 1 ∨ l = 2 ∨ l = 3 by omega) with e | e | e <;> subst e <;> simp only [Nat.reduceSub, Nat.reducePow] at hx hy
  · exact ⟨⟨hl, il_1 x hx y hy⟩, il_0 x (by omega) y (by omega)⟩
  · exact ⟨⟨hl, il_2 x hx y hy⟩, il_0 x (by omega) y (by omega)⟩
  · exact ⟨⟨hl, il_3 x hx y hy⟩, il_0 x (by omega) y (by omega)⟩
theorem PS_mxy {l p : Nat} (h0 : 0 < l) (h : PS l p) : mx p < 2 ^ (4 - l) ∧ my p < 2 ^ (4 - l) := by
  have hl := h.1
  have hp := h.2
  rcases (show l = 1 ∨ l = 2 ∨ l = 3 by omega) with e | e | e <;> subst e <;> simp only [Nat.reduceSub, Nat.reducePow] at hp ⊢
  · exact mxy_1 p hp
  · exact mxy_2 p hp
  · exact mxy_3 p hp
theorem GT.upd {ins w gt : Nat → Int32} {l l2 p : Nat} {v : Int32} (h : GT ins w gt l2) (hP : PS l p) (hl : l2 ≠ l) : GT ins w (upd gt (ck l p) v) l2 := by
  intro p2 h2
  rw [pk_un (fun e => hl (ck_inj h2 hP e).1)]
  exact h p2 h2
theorem meas78 {fu B l y : Nat} {ins w gt : Nat → Int32} (hfu : 600 < fu) (hB : Bd B w) (hB2 : B < 2 ^ 29) (hl : l + 1 < 4) (hy : y < 2 ^ (4 - (l + 1))) (hlow : ∀ l2, l2 < l + 1 → GT ins w gt l2) (hrow : ∀ p, PS (l + 1) p → my p < y → gt (ck (l + 1) p) = en (G ins w (l + 1) p)) :
    Ok (loop2 (m_Walk_measure_k78 fu (nI (l + 1)) (nI (2 ^ (4 - (l + 1)))) (nI y) ins w) fu 0 gt) (fun r => (∀ l2, l2 < l + 1 → GT ins w r l2) ∧ ∀ p, PS (l + 1) p → my p < y + 1 → r (ck (l + 1) p) = en (G ins w (l + 1) p)) := by
  have hs : 2 ^ (4 - (l + 1)) ≤ 2 ^ 4 := Nat.pow_le_pow_right (by decide) (by omega)
  refine ok_loop2 (fun m x4 gt => ∃ x, x4 = nI x ∧ x ≤ 2 ^ (4 - (l + 1)) ∧ m = 2 ^ (4 - (l + 1)) - x ∧ (∀ l2, l2 < l + 1 → GT ins w gt l2) ∧ ∀ p, PS (l + 1) p → (my p < y ∨ (my p = y ∧ mx p < x)) → gt (ck (l + 1) p) = en (G ins w (l + 1) p)) ?_ fu (2 ^ (4 - (l + 1))) 0 gt (by omega) ⟨0, rfl, by omega, rfl, hlow, fun p hp h => hrow p hp (by omega)⟩
  clear hlow hrow
  rintro rec m _ gt ⟨x, rfl, h1, rfl, hlow, hrow⟩ ih
  unfold m_Walk_measure_k78
  refine ok_if (fun c => ?_) (fun c => ?_)
  · have hc := (nI_leI (by omega) (by omega)).mp c
    refine ok_some ⟨hlow, fun p hp h => hrow p hp ?_⟩
    have := PS_mxy (by omega) hp
    omega
  · have c1 : x < 2 ^ (4 - (l + 1)) := by
      rcases Nat.lt_or_ge x (2 ^ (4 - (l + 1))) with q | q
      · exact q
      · exact absurd (nI_le q (by omega)) c
    obtain ⟨hP, ex, ey⟩ := PS_xy (by omega) hl c1 hy
    have hsq := sqo_ok fu hl hP.lt
    have hgb := gbel_ok (fu := fu) hfu hB hB2 hP (hlow l (by omega))
    rw [ex, ey] at hsq hgb
    have hck := ck_lt hP
    rw [bn1_eq hsq]
    refine ok_bn1 hgb ?_
    rintro _ rfl
    refine ok_chk (vp_nI hck) (ok_letB ?_)
    rw [nI_clamp (by omega), nI_1]
    refine ih (2 ^ (4 - (l + 1)) - (x + 1)) _ _ (by omega) ⟨x + 1, rfl, c1, rfl, fun l2 h2 => (hlow l2 h2).upd hP (by omega), fun p hp h => ?_⟩
    by_cases e : ck (l + 1) p = ck (l + 1) (il x y)
    · have e2 := (ck_inj hp hP e).2
      rw [e2, pk_us]
    · rw [pk_un e]
      refine hrow p hp ?_
      by_cases q : my p < y
      · exact Or.inl q
      · refine Or.inr ⟨by omega, ?_⟩
        have hne : mx p ≠ x := fun q2 => e (by
          have h3 := mxy_0 p hp.lt
          rw [← h3.2.2, q2, show my p = y by omega])
        omega
theorem meas70 {fu B l : Nat} {ins w gt : Nat → Int32} (hfu : 600 < fu) (hB : Bd B w) (hB2 : B < 2 ^ 29) (hl : l + 1 < 4) (hlow : ∀ l2, l2 < l + 1 → GT ins w gt l2) :
    Ok (loop2 (m_Walk_measure_k70 fu (nI (l + 1)) (nI (2 ^ (4 - (l + 1)))) ins w) fu 0 gt) (fun r => ∀ l2, l2 < l + 2 → GT ins w r l2) := by
  have hs : 2 ^ (4 - (l + 1)) ≤ 2 ^ 4 := Nat.pow_le_pow_right (by decide) (by omega)
  refine ok_loop2 (fun m x3 gt => ∃ y, x3 = nI y ∧ y ≤ 2 ^ (4 - (l + 1)) ∧ m = 2 ^ (4 - (l + 1)) - y ∧ (∀ l2, l2 < l + 1 → GT ins w gt l2) ∧ ∀ p, PS (l + 1) p → my p < y → gt (ck (l + 1) p) = en (G ins w (l + 1) p)) ?_ fu (2 ^ (4 - (l + 1))) 0 gt (by omega) ⟨0, rfl, Nat.zero_le _, rfl, hlow, fun p hp h => absurd h (Nat.not_lt_zero _)⟩
  clear hlow
  rintro rec m _ gt ⟨y, rfl, h1, rfl, hlow, hrow⟩ ih
  unfold m_Walk_measure_k70
  refine ok_if (fun c => ?_) (fun c => ?_)
  · have hc := (nI_leI (by omega) (by omega)).mp c
    refine ok_some (fun l2 h2 => ?_)
    by_cases e : l2 = l + 1
    · subst e
      exact fun p hp => hrow p hp (by have := PS_mxy (by omega) hp; omega)
    · exact hlow l2 (by omega)
  · have c1 : y < 2 ^ (4 - (l + 1)) := by
      rcases Nat.lt_or_ge y (2 ^ (4 - (l + 1))) with q | q
      · exact q
      · exact absurd (nI_le q (by omega)) c
    refine ok_bn1 (meas78 hfu hB hB2 hl c1 hlow hrow) ?_
    rintro g ⟨g1, g2⟩
    refine ok_letB ?_
    rw [nI_1]
    exact ih (2 ^ (4 - (l + 1)) - (y + 1)) _ _ (by omega) ⟨y + 1, rfl, c1, rfl, g1, g2⟩
def gvs (ins w : Nat → Int32) (j : Nat) : Nat := if ins j = 0 then 0 else absN (w j) + 1
theorem measure_ok {fu B : Nat} {ins w gt : Nat → Int32} (hfu : 600 < fu) (hB : Bd B w) (hB2 : B < 2 ^ 29) : Ok (m_Walk_measure fu gt ins w) (fun r => ∀ l p, PS l p → r (ck l p) = en (G ins w l p)) := by
  unfold m_Walk_measure
  refine ok_bn1 (fill_ok (by decide) (by omega)) ?_
  rintro g0 ⟨h0, _⟩
  refine ok_bn1 (Q := fun r => ∀ j, j < 256 → r j = en (gvs ins w j)) ?_ (fun g1 h1 => ?_)
  · refine ok_loop2 (fun m x1 g => ∃ i, x1 = nI i ∧ i ≤ 256 ∧ m = 256 - i ∧ (∀ j, j < i → g j = en (gvs ins w j)) ∧ ∀ j, i ≤ j → j < 256 → g j = -1) ?_ fu 256 0 g0 (by omega) ⟨0, rfl, by omega, rfl, fun j hj => absurd hj (Nat.not_lt_zero _), fun j _ hj => h0 j (by omega)⟩
    rintro rec m _ g ⟨i, rfl, h1, rfl, h2, h3⟩ ih
    unfold m_Walk_measure_k10 m_Walk_measure_b50
    refine ok_if (fun c => ?_) (fun c => ?_)
    · have := (nI_leI (a := 256) (by decide) (by omega)).mp c
      exact ok_some (fun j hj => h2 j (by omega))
    · have c1 : i < 256 := by
        rcases Nat.lt_or_ge i 256 with q | q
        · exact q
        · exact absurd (nI_le (a := 256) q (by omega)) c
      rw [nI_clamp (by omega)]
      refine ok_chk (vp_nI c1) (ok_if (fun c2 => ?_) (fun c2 => ?_))
      · refine ok_letB ?_
        rw [nI_1]
        refine ih (256 - (i + 1)) _ _ (by omega) ⟨i + 1, rfl, c1, rfl, fun j hj => ?_, fun j hj hj2 => h3 j (by omega) hj2⟩
        by_cases e : j = i
        · rw [e, h3 i (Nat.le_refl _) c1]
          unfold gvs
          rw [if_pos c2]
          rfl
        · exact h2 j (by omega)
      · refine ok_chk (vp_nI c1) (ok_letB (ok_chk (vp_nI (by omega)) (ok_letB ?_)))
        rw [nI_1, abs_c (hB i c1) (by omega)]
        refine ih (256 - (i + 1)) _ _ (by omega) ⟨i + 1, rfl, c1, rfl, fun j hj => ?_, fun j hj hj2 => ?_⟩
        · by_cases e : j = i
          · rw [e, pk_us]
            unfold gvs
            rw [if_neg c2, en_succ]
          · rw [pk_un e]; exact h2 j (by omega)
        · rw [pk_un (by omega)]; exact h3 j (by omega) hj2
  · refine ok_bn1 (Q := fun r => ∀ l2, l2 < 4 → GT ins w r l2) ?_ (fun g h => ok_some (fun l p hp => h l hp.1 p hp))
    refine ok_loop2 (fun m x1 g => ∃ l, x1 = nI (l + 1) ∧ l ≤ 3 ∧ m = 3 - l ∧ ∀ l2, l2 < l + 1 → GT ins w g l2) ?_ fu 3 1 g1 (by omega) ⟨0, rfl, by omega, rfl, fun l2 h2 => ?_⟩
    · rintro rec m _ g ⟨l, rfl, hl, rfl, hG⟩ ih
      unfold m_Walk_measure_k58
      refine ok_if (fun c => ?_) (fun c => ?_)
      · have := (nI_ltI (a := 3) (by decide) (by omega)).mp c
        exact ok_some (fun l2 h2 => hG l2 (by omega))
      · have c1 : l + 1 < 4 := by
          rcases Nat.lt_or_ge 3 (l + 1) with q | q
          · exact absurd (nI_lt (a := 3) q (by omega)) c
          · omega
        refine ok_letB ?_
        rw [shr16 _ (by omega)]
        refine ok_bn1 (meas70 hfu hB hB2 c1 hG) ?_
        rintro g2 h2
        refine ok_letB ?_
        exact ih (3 - (l + 1)) _ _ (by omega) ⟨l + 1, nI_1 _, by omega, rfl, h2⟩
    · have e : l2 = 0 := by omega
      subst e
      intro p hp
      have hp2 := hp.lt
      rw [ck_0 p hp2, h1 _ (smp_inv p hp2).2, G_0]
      rfl
theorem greatest_ok {fu B l p q z : Nat} {ins w : Nat → Int32} (hfu : 600 < fu) (hB : Bd B w) (hB2 : B < 2 ^ 29) (hl : l < 4) (hq : q < 4) (hz : z + 4 ^ l ≤ 64) (hp : 64 * q + z = 4 ^ l * p) : Ok (m_Md_greatest fu (nI q) (nI z) (nI l) ins w) (fun r => r = en (G ins w l p)) := by
  have h4 : 4 ^ l ≤ 4 ^ 3 := Nat.pow_le_pow_right (by decide) (by omega)
  unfold m_Md_greatest
  refine ok_bn1 (Q := fun r => r = en (G ins w l p)) ?_ (fun o ho => ok_some ho)
  unfold G
  rw [← hp]
  refine ok_loop2 (fun m x5 x6 => ∃ k, x6 = nI (z + k) ∧ k ≤ 4 ^ l ∧ m = 4 ^ l - k ∧ x5 = en (gN ins w (64 * q + z) k)) ?_ fu (4 ^ l) (-1) (nI z) (by omega) ⟨0, rfl, Nat.zero_le _, rfl, rfl⟩
  rintro rec m _ _ ⟨k, rfl, h1, rfl, rfl⟩ ih
  unfold m_Md_greatest_k6 m_Md_greatest_b56 m_Md_greatest_b58
  rw [shl2l l hl, nI_add]
  refine ok_if (fun c => ?_) (fun c => ?_)
  · have := (nI_leI (by omega) (by omega)).mp c
    have e : k = 4 ^ l := by omega
    rw [e]
    exact ok_some rfl
  · have c1 : k < 4 ^ l := by
      rcases Nat.lt_or_ge k (4 ^ l) with r | r
      · exact r
      · exact absurd (nI_le (by omega) (by omega)) c
    have hn : 64 * q + (z + k) < 256 := by omega
    have hs := (smp_inv _ hn).2
    have hn2 : 64 * q + z + k = 64 * q + (z + k) := by omega
    have hle := gN_le (ins := ins) (a := 64 * q + z) (k := k) hB (by omega)
    have hab := abs_le (hB _ hs)
    rw [bn1_eq (msm_ok fu hq (by omega)), nI_1]
    refine ok_chk (vp_nI hs) ?_
    rw [nI_clamp (by omega)]
    have step : gN ins w (64 * q + z) (k + 1) = Nat.max (gN ins w (64 * q + z) k) (gv ins w (64 * q + (z + k))) := by
      show Nat.max (gN ins w (64 * q + z) k) (gv ins w (64 * q + z + k)) = _
      rw [hn2]
    refine ok_if (fun c2 => ?_) (fun c2 => ?_)
    · refine ok_letB (ih (4 ^ l - (k + 1)) _ _ (by omega) ⟨k + 1, rfl, c1, rfl, ?_⟩)
      rw [step]
      unfold gv
      rw [if_pos c2]
      show _ = en (Nat.max _ 0)
      rw [show Nat.max (gN ins w (64 * q + z) k) 0 = gN ins w (64 * q + z) k from Nat.max_zero _]
    · have hgv : gv ins w (64 * q + (z + k)) = absN (w (smp (64 * q + (z + k)))) + 1 := if_neg c2
      refine ok_chk (vp_nI hs) ?_
      rw [bn1_eq (size_ok (hB _ hs) (by omega))]
      refine ok_if (fun c3 => ?_) (fun c3 => ?_)
      · have h3 := (en_len (by omega) (by omega)).mp c3
        refine ok_letB (ih (4 ^ l - (k + 1)) _ _ (by omega) ⟨k + 1, rfl, c1, rfl, ?_⟩)
        rw [step, hgv, show Nat.max (gN ins w (64 * q + z) k) (absN (w (smp (64 * q + (z + k)))) + 1) = gN ins w (64 * q + z) k from Nat.max_eq_left (by omega)]
      · have h3 : ¬ absN (w (smp (64 * q + (z + k)))) < gN ins w (64 * q + z) k := fun r => c3 ((en_len (by omega) (by omega)).mpr r)
        refine ok_chk (vp_nI hs) ?_
        rw [bn1_eq (size_ok (hB _ hs) (by omega))]
        refine ok_letB (ih (4 ^ l - (k + 1)) _ _ (by omega) ⟨k + 1, rfl, c1, rfl, ?_⟩)
        rw [step, hgv, show Nat.max (gN ins w (64 * q + z) k) (absN (w (smp (64 * q + (z + k)))) + 1) = absN (w (smp (64 * q + (z + k)))) + 1 from Nat.max_eq_right (by omega), en_succ]
