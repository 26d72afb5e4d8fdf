def cst : Nat → Nat
  | 0 => 1
  | l + 1 => 1 + 4 * cst l
def kr (md : Int32) (F : Nat → Nat) (L pl : Nat) (ins w : Nat → Int32) (l p : Nat) : Nat → Nat → (Nat × (Nat → Nat)) × Bool × (Nat → Nat) × (Nat → Int32) × (Nat → Int32) × (Nat → Int32) → (Nat × (Nat → Nat)) × Bool × (Nat → Nat) × (Nat → Int32) × (Nat → Int32) × (Nat → Int32)
  | 0, _, x => x
  | n + 1, j, x => kr md F L pl ins w l p n (j + 1) (go md F L pl ins w l (4 * p + j) x)
theorem kr_en {md : Int32} {F : Nat → Nat} {L pl l p n j : Nat} {ins w : Nat → Int32} {x : (Nat × (Nat → Nat)) × Bool × (Nat → Nat) × (Nat → Int32) × (Nat → Int32) × (Nat → Int32)} (h : x.2.1 = true) : kr md F L pl ins w l p n j x = x := by
  induction n generalizing j with
  | zero => rfl
  | succ n ih => show kr md F L pl ins w l p n (j + 1) (go md F L pl ins w l (4 * p + j) x) = x; rw [go_en h]; exact ih
theorem lvz_kid {l q z p j : Nat} (hl : l < 3) (hz : 64 * q + z = 4 ^ (l + 1) * p) (hj : j < 3) : lvz (z + 4 ^ l * (j + 1)) = l := by
  rcases (show l = 0 ∨ l = 1 ∨ l = 2 by omega) with e | e | e <;> subst e <;> simp only [Nat.reduceAdd, Nat.reducePow] at hz ⊢ <;> unfold lvz
  · rw [if_neg (by omega), if_neg (by omega), if_neg (by omega)]
  · rw [if_neg (by omega), if_neg (by omega), if_pos (by omega)]
  · rw [if_neg (by omega), if_pos (by omega)]
theorem rgo {fu L pl B q : Nat} {F : Nat → Nat} {md : Int32} {fed st0 z0 ins w : Nat → Int32} {P : (Int32 × (Nat → Int32) × (Nat → Int32) × (Nat → Int32) × (Nat → Int32) × (Nat → Int32)) ⊕ (Int32 × (Nat → Int32) × (Nat → Int32) × (Nat → Int32) × (Nat → Int32) × (Nat → Int32)) ⊕ (Int32 × (Nat → Int32) × (Nat → Int32) × (Nat → Int32) × (Nat → Int32) × (Nat → Int32)) → Prop} (hfu : 600 < fu) (hM : MD md L F fed) (hpl : pl < 20) (hB : Bd B w) (hB2 : B < 2 ^ 29) (hq : q < 4) :
    ∀ (l p z f f' : Nat) (x : (Nat × (Nat → Nat)) × Bool × (Nat → Nat) × (Nat → Int32) × (Nat → Int32) × (Nat → Int32)) (count : Int32) (below opn sizes stream zeros : Nat → Int32), PS l p → 64 * q + z = 4 ^ l * p → z + 4 ^ l ≤ 64 → cst l + f' ≤ f → x.2.1 = false → IV L pl (4 ^ l * p) x → RR md st0 z0 x count below opn sizes stream zeros →
    ((go md F L pl ins w l p x).2.1 = true → ∀ c b o s st zs, RR md st0 z0 (go md F L pl ins w l p x) c b o s st zs → P (Sum.inl (c, b, o, s, st, zs)) ∧ P (Sum.inr (Sum.inl (c, b, o, s, st, zs)))) →
    ((go md F L pl ins w l p x).2.1 = false → ∀ f'', f' ≤ f'' → ∀ c b o s st zs, RR md st0 z0 (go md F L pl ins w l p x) c b o s st zs → Ok (loop8 (m_Md_goSquare_k6 fu (nI q) (nI pl) (nI L) md fed ins w) f'' (nI (z + 4 ^ l)) (nI (lvz (z + 4 ^ l))) c b o s st zs) P) →
    Ok (loop8 (m_Md_goSquare_k6 fu (nI q) (nI pl) (nI L) md fed ins w) f (nI z) (nI l) count below opn sizes stream zeros) P := by
  intro l
  induction l with
  | zero =>
    intro p z f f' x count below opn sizes stream zeros hP hz hz2 hf he hI hR hE hS
    have hc0 : cst 0 = 1 := rfl
    obtain ⟨f, rfl⟩ : ∃ g, f = g + 1 := ⟨f - 1, by omega⟩
    have hu : loop8 (m_Md_goSquare_k6 fu (nI q) (nI pl) (nI L) md fed ins w) (f + 1) = m_Md_goSquare_k6 fu (nI q) (nI pl) (nI L) md fed ins w (loop8 (m_Md_goSquare_k6 fu (nI q) (nI pl) (nI L) md fed ins w) f) := rfl
    rw [hu]
    refine rent hfu hM hpl hB hB2 hP hq hz hz2 he hI hR (fun h c b o s st zs hr => (hE h c b o s st zs hr).1) (fun h => hS h f (by omega)) ?_
    intro was y c b o s st zs hI he hR hgo
    have hp := hP.lt
    have hs := (smp_inv p hp).2
    have e0 : 4 ^ 0 * p = p := by rw [Nat.pow_zero, Nat.one_mul]
    rw [e0] at hz
    have hbd : bod md F L pl ins w 0 p was y = leaf md F L pl w (smp p) was y := rfl
    rw [hbd] at hgo
    unfold m_Md_goSquare_b149 m_Md_goSquare_b165 m_Md_goSquare_b190
    refine ok_if (fun c => absurd c (by decide)) (fun _ => ok_if (fun _ => ?_) (fun c => absurd (Int32.le_refl _) c))
    refine ok_if (fun c => absurd c (by decide)) (fun _ => ?_)
    rw [bn1_eq (msm_ok fu hq (by omega)), hz]
    refine ok_bn5 (rleaf (was := was) hM hs hpl hB hB2 hI.1 he hR) ?_
    rintro r c2 b2 s2 st2 ⟨g1, g2⟩
    dsimp only at g1 g2
    rw [← hgo] at g1 g2
    refine ok_if (fun c3 => ?_) (fun c3 => ?_)
    · have hen : (go md F L pl ins w 0 p x).2.1 = true := by
        cases hh : (go md F L pl ins w 0 p x).2.1 with
        | true => rfl
        | false => rw [hh] at g1; rw [g1] at c3; exact absurd c3 (by decide)
      exact ok_some (hE hen _ _ _ _ _ _ g2).2
    · have hen : (go md F L pl ins w 0 p x).2.1 = false := by
        cases hh : (go md F L pl ins w 0 p x).2.1 with
        | true => rw [hh] at g1; exact absurd g1 c3
        | false => rfl
      refine ok_letB ?_
      rw [shl2l 0 (by decide), nI_add, bn1_eq (mlv_ok fu (by omega))]
      exact hS hen f (by omega) _ _ _ _ _ _ g2
  | succ l ih =>
    intro p z f f' x count below opn sizes stream zeros hP hz hz2 hf he hI hR hE hS
    have hc0 : cst (l + 1) = 1 + 4 * cst l := rfl
    have hl := hP.1
    have hk0 := kid0 l p
    obtain ⟨f, rfl⟩ : ∃ g, f = g + 1 := ⟨f - 1, by omega⟩
    have hu : loop8 (m_Md_goSquare_k6 fu (nI q) (nI pl) (nI L) md fed ins w) (f + 1) = m_Md_goSquare_k6 fu (nI q) (nI pl) (nI L) md fed ins w (loop8 (m_Md_goSquare_k6 fu (nI q) (nI pl) (nI L) md fed ins w) f) := rfl
    rw [hu]
    refine rent hfu hM hpl hB hB2 hP hq hz hz2 he hI hR (fun h c b o s st zs hr => (hE h c b o s st zs hr).1) (fun h => hS h f (by omega)) ?_
    clear he hI hR
    intro was y c b o s st zs hI he hR hgo
    have hbd : bod md F L pl ins w (l + 1) p was y = kr md F L pl ins w l p 4 0 y := rfl
    rw [hbd] at hgo
    unfold m_Md_goSquare_b149
    refine ok_if (fun c => absurd c (by decide)) (fun _ => ok_if (fun c => absurd c (nI_ge (a := 0) (by omega) (by omega))) (fun _ => ok_letB ?_))
    have hmv : nI (l + 1) + (-1 : Int32) = nI l := by rw [← Int32.sub_eq_add_neg]; exact nI_pred l
    rw [hmv]
    have kids : ∀ (n j : Nat) (y : (Nat × (Nat → Nat)) × Bool × (Nat → Nat) × (Nat → Int32) × (Nat → Int32) × (Nat → Int32)) (f2 : Nat) (c : Int32) (b o s st zs : Nat → Int32), j + (n + 1) = 4 → (n + 1) * cst l + f' ≤ f2 → y.2.1 = false → IV L pl (4 ^ l * (4 * p + j)) y → RR md st0 z0 y c b o s st zs → go md F L pl ins w (l + 1) p x = kr md F L pl ins w l p (n + 1) j y → Ok (loop8 (m_Md_goSquare_k6 fu (nI q) (nI pl) (nI L) md fed ins w) f2 (nI (z + 4 ^ l * j)) (nI l) c b o s st zs) P := by
      intro n
      induction n with
      | zero =>
        intro j y f2 c b o s st zs hj hf2 he hI hR hgo
        have ej : j = 3 := by omega
        subst ej
        have e3 : 4 ^ l * (4 * p + 3) = 64 * q + (z + 4 ^ l * 3) := by rw [← Nat.add_assoc, hz, hk0.1, ← Nat.mul_add, Nat.add_zero]
        have e4 : z + 4 ^ l * 3 + 4 ^ l = z + 4 ^ (l + 1) := by rw [Nat.pow_succ, Nat.add_assoc]; congr 1
        have hgo2 : go md F L pl ins w (l + 1) p x = go md F L pl ins w l (4 * p + 3) y := hgo
        rw [hgo2] at hE hS
        refine ih (4 * p + 3) (z + 4 ^ l * 3) f2 f' y c b o s st zs (hP.kid (by decide)) e3.symm (by omega) (by omega) he hI hR hE ?_
        rw [e4]
        exact hS
      | succ n ihn =>
        intro j y f2 c b o s st zs hj hf2 he hI hR hgo
        have ej : 4 ^ l * (4 * p + j) = 64 * q + (z + 4 ^ l * j) := by rw [← Nat.add_assoc, hz, hk0.1, ← Nat.mul_add, Nat.add_zero]
        have e4 : z + 4 ^ l * j + 4 ^ l = z + 4 ^ l * (j + 1) := by rw [Nat.mul_succ, Nat.add_assoc]
        have e5 : 4 ^ l * (j + 1) + 4 ^ l ≤ 4 ^ (l + 1) := by
          have h1 : 4 ^ l * (j + 1 + 1) ≤ 4 ^ l * 4 := Nat.mul_le_mul_left _ (by omega)
          rw [Nat.pow_succ]
          rw [Nat.mul_succ] at h1
          exact h1
        have h4 : 0 < 4 ^ l := Nat.pow_pos (by decide)
        have hgo2 : go md F L pl ins w (l + 1) p x = kr md F L pl ins w l p (n + 1) (j + 1) (go md F L pl ins w l (4 * p + j) y) := hgo
        have hfe : (n + 1 + 1) * cst l = (n + 1) * cst l + cst l := Nat.succ_mul _ _
        refine ih (4 * p + j) (z + 4 ^ l * j) f2 ((n + 1) * cst l + f') y c b o s st zs (hP.kid (by omega)) ej.symm (by omega) (by omega) he hI hR (fun h c b o s st zs hr => ?_) (fun h f3 hf3 c b o s st zs hr => ?_)
        · rw [kr_en h] at hgo2
          rw [← hgo2] at hr h
          exact hE h _ _ _ _ _ _ hr
        · rw [e4, lvz_kid (by omega) hz (by omega)]
          refine ihn (j + 1) _ f3 c b o s st zs (by omega) hf3 h ?_ hr hgo2
          have a := go_IV (md := md) (F := F) (ins := ins) (w := w) (hP.kid (j := j) (by omega)) hI
          have e : 4 ^ l * (4 * p + (j + 1)) = 4 ^ l * (4 * p + j) + 4 ^ l := by rw [← Nat.add_assoc, Nat.mul_succ]
          rw [e]
          exact a
    rw [hk0.1] at hI
    exact kids 3 0 y f c b o s st zs rfl (by omega) he hI hR hgo
theorem goSquare_ok {fu L pl B q : Nat} {F : Nat → Nat} {md count : Int32} {fed below opn sizes stream zeros st0 z0 ins w : Nat → Int32} {x : (Nat × (Nat → Nat)) × Bool × (Nat → Nat) × (Nat → Int32) × (Nat → Int32) × (Nat → Int32)} (hfu : 600 < fu) (hM : MD md L F fed) (hpl : pl < 20) (hB : Bd B w) (hB2 : B < 2 ^ 29) (hq : q < 4) (he : x.2.1 = false) (hI : IV L pl (4 ^ 3 * q) x) (hR : RR md st0 z0 x count below opn sizes stream zeros) :
    Ok (m_Md_goSquare fu (nI q) (nI pl) count (nI L) md below fed opn sizes stream zeros ins w) (fun r => r.1 = (if (go md F L pl ins w 3 q x).2.1 = true then 0 else 1) ∧ RR md st0 z0 (go md F L pl ins w 3 q x) r.2.1 r.2.2.1 r.2.2.2.1 r.2.2.2.2.1 r.2.2.2.2.2.1 r.2.2.2.2.2.2) := by
  unfold m_Md_goSquare
  refine ok_sm3 (Q1 := fun u => (go md F L pl ins w 3 q x).2.1 = true ∧ RR md st0 z0 (go md F L pl ins w 3 q x) u.1 u.2.1 u.2.2.1 u.2.2.2.1 u.2.2.2.2.1 u.2.2.2.2.2) (Q2 := fun u => (go md F L pl ins w 3 q x).2.1 = true ∧ RR md st0 z0 (go md F L pl ins w 3 q x) u.1 u.2.1 u.2.2.1 u.2.2.2.1 u.2.2.2.2.1 u.2.2.2.2.2) (Q3 := fun u => (go md F L pl ins w 3 q x).2.1 = false ∧ RR md st0 z0 (go md F L pl ins w 3 q x) u.1 u.2.1 u.2.2.1 u.2.2.2.1 u.2.2.2.2.1 u.2.2.2.2.2) ?_ ?_ ?_ ?_
  · have hc3 : cst 3 = 85 := rfl
    refine rgo hfu hM hpl hB hB2 hq 3 q 0 fu 1 x count below opn sizes stream zeros (ps3 hq) (by show 64 * q + 0 = 64 * q; rfl) (by decide) (by omega) he hI hR (fun h c b o s st zs hr => ⟨⟨h, hr⟩, ⟨h, hr⟩⟩) (fun h f hf c b o s st zs hr => ?_)
    obtain ⟨f, rfl⟩ : ∃ g, f = g + 1 := ⟨f - 1, by omega⟩
    have hu : loop8 (m_Md_goSquare_k6 fu (nI q) (nI pl) (nI L) md fed ins w) (f + 1) = m_Md_goSquare_k6 fu (nI q) (nI pl) (nI L) md fed ins w (loop8 (m_Md_goSquare_k6 fu (nI q) (nI pl) (nI L) md fed ins w) f) := rfl
    rw [hu]
    unfold m_Md_goSquare_k6
    exact ok_if (fun _ => ok_some ⟨h, hr⟩) (fun c => absurd (show (64 : Int32) ≤ nI (0 + 4 ^ 3) by decide) c)
  · rintro ⟨c, b, o, s, st, zs⟩ ⟨h1, h2⟩
    exact ok_some ⟨(if_pos h1).symm, h2⟩
  · rintro ⟨c, b, o, s, st, zs⟩ ⟨h1, h2⟩
    exact ok_some ⟨(if_pos h1).symm, h2⟩
  · rintro ⟨c, b, o, s, st, zs⟩ ⟨h1, h2⟩
    exact ok_some ⟨(if_neg (by rw [h1]; decide)).symm, h2⟩
theorem kq_en {md : Int32} {F : Nat → Nat} {L pl j : Nat} {ins w : Nat → Int32} {x : (Nat × (Nat → Nat)) × Bool × (Nat → Nat) × (Nat → Int32) × (Nat → Int32) × (Nat → Int32)} (n : Nat) (h : (kq md F L pl ins w x j).2.1 = true) : kq md F L pl ins w x (j + n) = kq md F L pl ins w x j := by
  induction n with
  | zero => rfl
  | succ n ih =>
    show go md F L pl ins w 3 (j + n) (kq md F L pl ins w x (j + n)) = _
    rw [ih]
    exact go_en h
theorem b01 {b : Bool} : (if b = true then 0 else 1 : Int32) = 0 ↔ b = true := by
  cases b with
  | true => exact ⟨fun _ => rfl, fun _ => rfl⟩
  | false => exact ⟨fun h => absurd h (by decide), fun h => absurd h (by decide)⟩
theorem goPlane_ok {fu L pl B : Nat} {F : Nat → Nat} {md count : Int32} {fed below opn sizes stream zeros st0 z0 ins w : Nat → Int32} {x : (Nat × (Nat → Nat)) × Bool × (Nat → Nat) × (Nat → Int32) × (Nat → Int32) × (Nat → Int32)} (hfu : 600 < fu) (hM : MD md L F fed) (hpl : pl < 20) (hB : Bd B w) (hB2 : B < 2 ^ 29) (hI : IV L pl 0 x) (hR : RR md st0 z0 x count below opn sizes stream zeros) :
    Ok (loop8 (m_Md_goThrough_k21 fu (nI pl) (nI L) md fed ins w) fu (if x.2.1 = true then 0 else 1) 0 count below opn sizes stream zeros) (fun r => r.1 = (if (gop md F L pl ins w x).2.1 = true then 0 else 1) ∧ RR md st0 z0 (gop md F L pl ins w x) r.2.1 r.2.2.1 r.2.2.2.1 r.2.2.2.2.1 r.2.2.2.2.2.1 r.2.2.2.2.2.2) := by
  have hgop : gop md F L pl ins w x = kq md F L pl ins w x 4 := rfl
  rw [hgop]
  refine ok_loop8 (fun m x4 x6 count below opn sizes stream zeros => ∃ j, x6 = nI j ∧ j ≤ 4 ∧ m = 4 - j ∧ x4 = (if (kq md F L pl ins w x j).2.1 = true then 0 else 1) ∧ RR md st0 z0 (kq md F L pl ins w x j) count below opn sizes stream zeros) ?_ fu 4 _ 0 count below opn sizes stream zeros (by omega) ⟨0, rfl, by omega, rfl, rfl, hR⟩
  clear hR
  rintro rec m _ _ count below opn sizes stream zeros ⟨j, rfl, h1, rfl, rfl, hR⟩ ih
  unfold m_Md_goThrough_k21
  refine ok_if (fun c => ?_) (fun c => ?_)
  · have := (nI_leI (a := 4) (by decide) (by omega)).mp c
    have ej : j = 4 := by omega
    subst ej
    exact ok_some ⟨rfl, hR⟩
  · have c1 : j < 4 := by
      rcases Nat.lt_or_ge j 4 with r | r
      · exact r
      · exact absurd (nI_le (a := 4) r (by omega)) c
    refine ok_if (fun c2 => ?_) (fun c2 => ?_)
    · have e := kq_en (4 - j) (b01.mp c2)
      rw [show j + (4 - j) = 4 by omega] at e
      rw [e]
      exact ok_some ⟨rfl, hR⟩
    · have he : (kq md F L pl ins w x j).2.1 = false := by
        cases hh : (kq md F L pl ins w x j).2.1 with
        | true => exact absurd (b01.mpr hh) c2
        | false => rfl
      refine ok_bn7 (goSquare_ok hfu hM hpl hB hB2 c1 he (kq_IV hI (by omega)) hR) ?_
      rintro r c b o s st zs ⟨g1, g2⟩
      refine ok_letB ?_
      rw [nI_1]
      exact ih (4 - (j + 1)) _ _ _ _ _ _ _ _ (by omega) ⟨j + 1, rfl, c1, rfl, g1, g2⟩
theorem goThrough_ok {fu L k B : Nat} {F : Nat → Nat} {md count : Int32} {fed below opn sizes stream zeros st0 z0 ins w : Nat → Int32} {x : (Nat × (Nat → Nat)) × Bool × (Nat → Nat) × (Nat → Int32) × (Nat → Int32) × (Nat → Int32)} (hfu : 600 < fu) (hM : MD md L F fed) (hk : k ≤ 20) (hB : Bd B w) (hB2 : B < 2 ^ 29) (he : x.2.1 = false) (hI : k = 0 ∨ IV L (k - 1) 0 x) (hR : RR md st0 z0 x count below opn sizes stream zeros) :
    Ok (m_Md_goThrough fu (nI k) count (nI L) md below fed opn sizes stream zeros ins w) (fun r => RR md st0 z0 (gos md F L ins w k x) r.1 r.2.1 r.2.2.1 r.2.2.2.1 r.2.2.2.2.1 r.2.2.2.2.2) := by
  unfold m_Md_goThrough
  refine ok_letB ?_
  generalize hX0 : gos md F L ins w k x = Y
  refine ok_bn6 (Q := fun r => RR md st0 z0 Y r.1 r.2.1 r.2.2.1 r.2.2.2.1 r.2.2.2.2.1 r.2.2.2.2.2) ?_ (fun a1 a2 a3 a4 a5 a6 g => ok_some g)
  refine ok_loop8 (fun m x4 x5 count below opn sizes stream zeros => ∃ k' y, x5 = nI k' - 1 ∧ k' ≤ 20 ∧ m = k' ∧ (k' = 0 ∨ IV L (k' - 1) 0 y) ∧ x4 = (if y.2.1 = true then 0 else 1) ∧ RR md st0 z0 y count below opn sizes stream zeros ∧ gos md F L ins w k' y = Y) ?_ fu k 1 (nI k - 1) count below opn sizes stream zeros (by omega) ⟨k, x, rfl, hk, rfl, hI, by rw [he]; rfl, hR, hX0⟩
  clear hR hX0 hI he
  rintro rec m _ _ count below opn sizes stream zeros ⟨k', y, rfl, hk', rfl, hI, rfl, hR, hY⟩ ih
  unfold m_Md_goThrough_k8
  cases m with
  | zero =>
    refine ok_if (fun _ => ?_) (fun c => absurd (by decide) c)
    have hY2 : y = Y := hY
    rw [← hY2]
    exact ok_some hR
  | succ m =>
    rw [nI_pred]
    refine ok_if (fun c => absurd c (nI_pos (by omega))) (fun _ => ?_)
    refine ok_if (fun c => ?_) (fun c => ?_)
    · rw [gos_en (b01.mp c)] at hY
      rw [← hY]
      exact ok_some hR
    · have hI2 : IV L m 0 y := by
        rcases hI with r | r
        · omega
        · exact r
      have hgI := gop_IV (md := md) (F := F) (ins := ins) (w := w) hI2
      refine ok_bn7 (goPlane_ok hfu hM (by omega) hB hB2 hI2 hR) ?_
      rintro r c b o s st zs ⟨g1, g2⟩
      refine ok_letB (ih m _ _ _ _ _ _ _ _ (by omega) ⟨m, gop md F L m ins w y, ?_, by omega, rfl, ?_, g1, g2, hY⟩)
      · rw [Int32.sub_eq_add_neg]
      · rcases Nat.eq_zero_or_pos m with r | r
        · exact Or.inl r
        · obtain ⟨m', rfl⟩ : ∃ m', m = m' + 1 := ⟨m - 1, by omega⟩
          exact Or.inr hgI.next
