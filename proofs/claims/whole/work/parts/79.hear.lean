theorem ok_sm2 {α1 α2 ρ : Type} {o : Option (α1 ⊕ α2)} {k1 : α1 → Option ρ} {k2 : α2 → Option ρ} {P : ρ → Prop} {Q1 : α1 → Prop} {Q2 : α2 → Prop} (h : Ok o (Sum.elim Q1 Q2)) (h1 : ∀ u, Q1 u → Ok (k1 u) P) (h2 : ∀ u, Q2 u → Ok (k2 u) P) : Ok (sm2 o k1 k2) P := by
  obtain ⟨u, e, hq⟩ := h
  unfold sm2
  rw [bn1_eq e]
  cases u with
  | inl u => exact h1 u hq
  | inr u => exact h2 u hq
/-! READING: bits, numbers, runs -/
def oN (o : Option Nat) : Int32 := match o with
  | none => -1
  | some v => nI v
def hr (L : Nat) (F : Nat → Nat) : Nat → Nat → Nat × (Nat → Nat) → Option Nat × (Nat × (Nat → Nat))
  | 0, v, t => (some v, t)
  | k + 1, v, t => if t.1 = L then (none, t) else hr L F k (v * 2 + fb F t.1) (wr L t (fb F t.1))
theorem hr_end {L k v : Nat} {F : Nat → Nat} {t : Nat × (Nat → Nat)} (h : t.1 = L) : hr L F (k + 1) v t = (none, t) := if_pos h
theorem hr_step {L k v : Nat} {F : Nat → Nat} {t : Nat × (Nat → Nat)} (h : t.1 ≠ L) : hr L F (k + 1) v t = hr L F k (v * 2 + fb F t.1) (wr L t (fb F t.1)) := if_neg h
theorem fb_le (F : Nat → Nat) (c : Nat) : fb F c ≤ 1 := by unfold fb; omega
theorem hr_none {L k v : Nat} {F : Nat → Nat} {t : Nat × (Nat → Nat)} (h : (hr L F k v t).1 = none) : (hr L F k v t).2.1 = L := by
  induction k generalizing v t with
  | zero => exact absurd h (by simp [hr])
  | succ k ih =>
    by_cases e : t.1 = L
    · rw [hr_end e]; exact e
    · rw [hr_step e] at h ⊢; exact ih h
theorem hr_lt {L k v u : Nat} {F : Nat → Nat} {t : Nat × (Nat → Nat)} (h : (hr L F k v t).1 = some u) : u < (v + 1) * 2 ^ k := by
  induction k generalizing v t with
  | zero =>
    have h2 : some v = some u := h
    have h3 : v = u := Option.some.inj h2
    omega
  | succ k ih =>
    by_cases e : t.1 = L
    · rw [hr_end e] at h; exact absurd h (by simp)
    · rw [hr_step e] at h
      have h1 := ih h
      have h2 := fb_le F t.1
      have h3 : (v * 2 + fb F t.1 + 1) * 2 ^ k ≤ (2 * (v + 1)) * 2 ^ k := Nat.mul_le_mul_right _ (by omega)
      rw [Nat.pow_succ]
      have h4 : (v + 1) * (2 ^ k * 2) = (2 * (v + 1)) * 2 ^ k := by rw [Nat.mul_comm (2 ^ k) 2, ← Nat.mul_assoc, Nat.mul_comm (v + 1) 2]
      omega
def TS (L : Nat) (t : Nat × (Nat → Nat)) : Prop := SO t.1 t.2 ∧ t.1 ≤ L
theorem TS.wr {L b : Nat} {t : Nat × (Nat → Nat)} (h : TS L t) (hb : b ≤ 1) : TS L (wr L t b) := ⟨SO_wr h.1 hb, (wr_le h.2).1⟩
theorem rbit {fu L : Nat} {t : Nat × (Nat → Nat)} {count : Int32} {F : Nat → Nat} {fed stream st0 : Nat → Int32} (hR : RT 2 st0 t count stream) (hT : TS L t) (hL : L ≤ 19200) (hF : FD F fed) :
    Ok (m_Md_bit fu 0 count (nI L) 2 fed stream) (fun r => (t.1 = L ∧ r.1 = -1 ∧ RT 2 st0 t r.2.1 r.2.2) ∨ (t.1 ≠ L ∧ r.1 = nI (fb F t.1) ∧ RT 2 st0 (wr L t (fb F t.1)) r.2.1 r.2.2)) := by
  have hc := hT.2
  by_cases e : t.1 = L
  · exact ok_of (bit_end (by rw [hR.1, e])) (Or.inl ⟨e, rfl, hR⟩)
  · have hn : nb 2 F 0 t.1 = fb F t.1 := if_pos rfl
    have := bit_ok (fu := fu) (due := 0) (F := F) hR hT.1 (show t.1 < L by omega) (by omega) (by omega) (Or.inr (Or.inr ⟨rfl, hL, hF⟩))
    rw [hn] at this
    exact ok_mono this (fun r g => Or.inr ⟨e, g.1, g.2⟩)
theorem ebit {fu L : Nat} {t : Nat × (Nat → Nat)} {e p : Int32} {F : Nat → Nat} {row : Nat → Int32} (hX : CX_Eye L F row) (h : TP_Eye L t e p) :
    Ok (m_Tape_next_Eye fu 0 e (LM_Eye L) p row) (fun r => (t.1 = L ∧ r.1 = -1 ∧ TP_Eye L t r.2.1 r.2.2) ∨ (t.1 ≠ L ∧ r.1 = nI (fb F t.1) ∧ TP_Eye L (wr L t (fb F t.1)) r.2.1 r.2.2)) := by
  have hn : nb 2 F 0 t.1 = fb F t.1 := if_pos rfl
  have := next_Eye (fu := fu) (due := 0) hX h True.intro (by omega)
  rw [hn] at this
  refine ok_mono this (fun r g => ?_)
  rcases g with ⟨g1, g2, g3, g4⟩ | ⟨g1, g2, g3, g4⟩
  · exact Or.inl ⟨g1, g2, g4⟩
  · exact Or.inr ⟨g1, g2, g4⟩
theorem p17 {j : Nat} (h : j ≤ 17) : 2 ^ j ≤ 131072 := (Nat.pow_le_pow_right (by decide) h : 2 ^ j ≤ 2 ^ 17)
theorem hear_ok {fu L k : Nat} {t : Nat × (Nat → Nat)} {count : Int32} {F : Nat → Nat} {fed stream st0 : Nat → Int32} (hfu : 600 < fu) (hk : k ≤ 17) (hR : RT 2 st0 t count stream) (hT : TS L t) (hL : L ≤ 19200) (hF : FD F fed) :
    Ok (m_Md_hear fu (nI k) count (nI L) 2 fed stream) (fun r => r.1 = oN (hr L F k 0 t).1 ∧ RT 2 st0 (hr L F k 0 t).2 r.2.1 r.2.2 ∧ TS L (hr L F k 0 t).2) := by
  unfold m_Md_hear
  generalize hX : hr L F k 0 t = X
  refine ok_bn3 (Q := fun r => r.1 = oN X.1 ∧ RT 2 st0 X.2 r.2.1 r.2.2 ∧ TS L X.2) ?_ (fun a1 a2 a3 g => ok_some g)
  refine ok_loop4 (fun m x2 x3 count stream => (∃ j v t', x2 = nI v ∧ x3 = nI j ∧ j ≤ k ∧ v < 2 ^ j ∧ m = k - j + 1 ∧ RT 2 st0 t' count stream ∧ TS L t' ∧ hr L F (k - j) v t' = X) ∨ (x2 = -1 ∧ X.1 = none ∧ RT 2 st0 X.2 count stream ∧ TS L X.2)) ?_ fu (k + 1) 0 0 count stream (by omega) (Or.inl ⟨0, 0, t, rfl, rfl, by omega, by decide, rfl, hR, hT, hX⟩)
  clear hR hT hX
  rintro rec m x2 x3 count stream h ih
  unfold m_Md_hear_k4
  rcases h with ⟨j, v, t', rfl, rfl, hj, hv, rfl, hR, hT, hX⟩ | ⟨rfl, h1, h2, h3⟩
  · have hp := p17 (j := j) (by omega)
    refine ok_if (fun c => ?_) (fun c => ?_)
    · have := (nI_leI (by omega) (by omega)).mp c
      rw [show k - j = 0 by omega] at hX
      have hX2 : (some v, t') = X := hX
      rw [← hX2]
      exact ok_some ⟨rfl, hR, hT⟩
    · have c1 : j < k := by
        rcases Nat.lt_or_ge j k with q | q
        · exact q
        · exact absurd (nI_le q (by omega)) c
      refine ok_if (fun c2 => absurd c2 (nI_nm1 (by omega))) (fun _ => ?_)
      obtain ⟨n, hn⟩ : ∃ n, k - j = n + 1 := ⟨k - j - 1, by omega⟩
      rw [hn] at hX
      refine ok_bn3 (rbit hR hT hL hF) ?_
      rintro b c s (⟨g1, g2, g3⟩ | ⟨g1, g2, g3⟩)
      · dsimp only at g2 g3
        subst g2
        rw [hr_end g1] at hX
        refine ok_if (fun _ => ?_) (fun c => absurd rfl c)
        unfold m_Md_hear_b37
        refine ok_letB ?_
        refine ih (k - j) _ _ _ _ (by omega) (Or.inr ⟨rfl, ?_⟩)
        rw [← hX]
        exact ⟨rfl, g3, hT⟩
      · dsimp only at g2 g3
        subst g2
        have hb := fb_le F t'.1
        refine ok_if (fun c => absurd c (nI_nm1 (by omega))) (fun _ => ?_)
        unfold m_Md_hear_b37
        refine ok_letB ?_
        rw [hr_step g1] at hX
        refine ih (k - (j + 1) + 1) _ _ _ _ (by omega) (Or.inl ⟨j + 1, v * 2 + fb F t'.1, wr L t' (fb F t'.1), ?_, nI_1 j, c1, ?_, rfl, g3, hT.wr hb, ?_⟩)
        · rw [l2, pk_mul, nI_add, Nat.mul_comm]
        · rw [Nat.pow_succ]; omega
        · rw [show k - (j + 1) = n by omega]; exact hX
  · have fin : (-1 : Int32) = oN X.1 := by rw [h1]; rfl
    exact ok_if (fun _ => ok_some ⟨fin, h2, h3⟩) (fun _ => ok_if (fun _ => ok_some ⟨fin, h2, h3⟩) (fun c => absurd rfl c))
theorem hear_Eye {fu L k : Nat} {t : Nat × (Nat → Nat)} {e p : Int32} {F : Nat → Nat} {row : Nat → Int32} (hfu : 600 < fu) (hk : k ≤ 17) (hC : CX_Eye L F row) (hT : TP_Eye L t e p) :
    Ok (m_Tape_hear_Eye fu (nI k) e (LM_Eye L) p row) (fun r => r.1 = oN (hr L F k 0 t).1 ∧ TP_Eye L (hr L F k 0 t).2 r.2.1 r.2.2) := by
  unfold m_Tape_hear_Eye
  generalize hX : hr L F k 0 t = X
  refine ok_sm2 (Q1 := fun u => X.1 = none ∧ TP_Eye L X.2 u.1 u.2) (Q2 := fun u => u.1 = oN X.1 ∧ TP_Eye L X.2 u.2.1 u.2.2) ?_ ?_ ?_
  · refine ok_loop4 (fun m x2 x3 e p => ∃ j v t', x2 = nI v ∧ x3 = nI j ∧ j ≤ k ∧ v < 2 ^ j ∧ m = k - j ∧ TP_Eye L t' e p ∧ hr L F (k - j) v t' = X) ?_ fu k 0 0 e p (by omega) ⟨0, 0, t, rfl, rfl, by omega, by decide, rfl, hT, hX⟩
    clear hT hX
    rintro rec m _ _ e p ⟨j, v, t', rfl, rfl, hj, hv, rfl, hT, hX⟩ ih
    unfold m_Tape_hear_Eye_k4
    have hp := p17 (j := j) (by omega)
    refine ok_if (fun c => ?_) (fun c => ?_)
    · have := (nI_leI (by omega) (by omega)).mp c
      rw [show k - j = 0 by omega] at hX
      have hX2 : (some v, t') = X := hX
      rw [← hX2]
      exact ok_some ⟨rfl, hT⟩
    · have c1 : j < k := by
        rcases Nat.lt_or_ge j k with q | q
        · exact q
        · exact absurd (nI_le q (by omega)) c
      obtain ⟨n, hn⟩ : ∃ n, k - j = n + 1 := ⟨k - j - 1, by omega⟩
      rw [hn] at hX
      refine ok_bn3 (ebit hC hT) ?_
      rintro b e p (⟨g1, g2, g3⟩ | ⟨g1, g2, g3⟩)
      · dsimp only at g2 g3
        subst g2
        rw [hr_end g1] at hX
        refine ok_if (fun _ => ?_) (fun c => absurd rfl c)
        rw [← hX]
        exact ok_some ⟨rfl, g3⟩
      · dsimp only at g2 g3
        subst g2
        have hb := fb_le F t'.1
        refine ok_if (fun c => absurd c (nI_nm1 (by omega))) (fun _ => ?_)
        refine ok_letB (ok_letB ?_)
        rw [hr_step g1] at hX
        refine ih (k - (j + 1)) _ _ _ _ (by omega) ⟨j + 1, v * 2 + fb F t'.1, wr L t' (fb F t'.1), ?_, nI_1 j, c1, ?_, rfl, g3, ?_⟩
        · rw [l2, pk_mul, nI_add]
        · rw [Nat.pow_succ]; omega
        · rw [show k - (j + 1) = n by omega]; exact hX
  · rintro ⟨e, p⟩ ⟨h1, h2⟩
    exact ok_some ⟨by show (-1 : Int32) = oN X.1; rw [h1]; rfl, h2⟩
  · rintro ⟨v, e, p⟩ ⟨h1, h2⟩
    exact ok_some ⟨h1, h2⟩
def zr (L : Nat) (F : Nat → Nat) : Nat → Nat → Nat × (Nat → Nat) → Option (Nat × (Nat × (Nat → Nat)))
  | 0, _, _ => none
  | f + 1, z, t => if t.1 = L then none else if fb F t.1 = 1 then some (z, wr L t (fb F t.1)) else zr L F f (z + 1) (wr L t (fb F t.1))
theorem zr_end {L f z : Nat} {F : Nat → Nat} {t : Nat × (Nat → Nat)} (h : t.1 = L) : zr L F f z t = none := by
  cases f with
  | zero => rfl
  | succ f => exact if_pos h
theorem zr_one {L f z : Nat} {F : Nat → Nat} {t : Nat × (Nat → Nat)} (h : t.1 ≠ L) (h1 : fb F t.1 = 1) : zr L F (f + 1) z t = some (z, wr L t (fb F t.1)) := (if_neg h).trans (if_pos h1)
theorem zr_zero {L f z : Nat} {F : Nat → Nat} {t : Nat × (Nat → Nat)} (h : t.1 ≠ L) (h1 : fb F t.1 = 0) : zr L F (f + 1) z t = zr L F f (z + 1) (wr L t (fb F t.1)) := (if_neg h).trans (if_neg (by omega))
def rr (L : Nat) (F : Nat → Nat) (t : Nat × (Nat → Nat)) : Option (Nat × (Nat × (Nat → Nat))) :=
  Option.bind (zr L F 17 0 t) (fun q => Option.bind (hr L F q.1 0 q.2).1 (fun v => some (2 ^ q.1 + v - 1, (hr L F q.1 0 q.2).2)))
theorem shl1 : ∀ z, z < 17 → (1 : Int32) <<< (nI z &&& 31) = nI (2 ^ z) := by decide +kernel
def RRp (L : Nat) (F : Nat → Nat) (t : Nat × (Nat → Nat)) (x : Int32) (K : Nat × (Nat → Nat) → Prop) : Prop := (rr L F t = none ∧ x = -1) ∨ ∃ v t2, rr L F t = some (v, t2) ∧ x = nI v ∧ v < 131072 ∧ K t2
theorem rr_n {L : Nat} {F : Nat → Nat} {t : Nat × (Nat → Nat)} (h : zr L F 17 0 t = none) : rr L F t = none := by unfold rr; rw [h]; rfl
theorem rr_s {L z : Nat} {F : Nat → Nat} {t t1 : Nat × (Nat → Nat)} {x : Int32} {K : Nat × (Nat → Nat) → Prop} (h : zr L F 17 0 t = some (z, t1)) (hz : z ≤ 16) (hx : x = if oN (hr L F z 0 t1).1 = -1 then -1 else (((1 : Int32) <<< (nI z &&& 31)) + oN (hr L F z 0 t1).1) - 1) (hK : K (hr L F z 0 t1).2) : RRp L F t x K := by
  have hp := p17 (j := z) (by omega)
  have hp16 : 2 ^ z ≤ 65536 := (Nat.pow_le_pow_right (by decide) hz : 2 ^ z ≤ 2 ^ 16)
  have hp0 : 0 < 2 ^ z := Nat.pow_pos (by decide)
  unfold RRp rr
  rw [h]
  cases hv : (hr L F z 0 t1).1 with
  | none =>
    rw [hv] at hx
    refine Or.inl ⟨?_, hx.trans (if_pos rfl)⟩
    show Option.bind (hr L F z 0 t1).1 _ = none
    rw [hv]
    rfl
  | some v =>
    have hl := hr_lt hv
    rw [hv] at hx
    have hx2 : x = ((1 : Int32) <<< (nI z &&& 31) + nI v) - 1 := hx.trans (if_neg (nI_nm1 (by omega)))
    rw [shl1 z (by omega), nI_add, nIs1 (by omega)] at hx2
    refine Or.inr ⟨2 ^ z + v - 1, (hr L F z 0 t1).2, ?_, hx2, by omega, hK⟩
    show Option.bind (hr L F z 0 t1).1 _ = _
    rw [hv]
    rfl
theorem l17 : (17 : Int32) = nI 17 := rfl
theorem readRun_Eye {fu L : Nat} {t : Nat × (Nat → Nat)} {e p : Int32} {F : Nat → Nat} {row : Nat → Int32} (hfu : 600 < fu) (hC : CX_Eye L F row) (hT : TP_Eye L t e p) :
    Ok (m_Head_readRun_Eye fu e (LM_Eye L) p row) (fun r => RRp L F t r.1 (fun t2 => TP_Eye L t2 r.2.1 r.2.2)) := by
  unfold m_Head_readRun_Eye
  -- a bit read at z zeros
  have mid : ∀ x1 x2 e p, ((x2 = 0 ∧ ∃ z t', x1 = nI z ∧ z ≤ 16 ∧ TP_Eye L t' e p ∧ zr L F 17 0 t = zr L F (16 - z) (z + 1) t') ∨ (x2 = 1 ∧ ∃ z t', x1 = nI z ∧ z ≤ 16 ∧ TP_Eye L t' e p ∧ zr L F 17 0 t = some (z, t')) ∨ (x2 = -1 ∧ zr L F 17 0 t = none)) → Ok (loop4 (m_Head_readRun_Eye_k8 fu (LM_Eye L) row) fu x1 x2 e p) (fun r => (r.2.1 ≠ 1 ∧ zr L F 17 0 t = none) ∨ (r.2.1 = 1 ∧ ∃ z t', r.1 = nI z ∧ z ≤ 16 ∧ TP_Eye L t' r.2.2.1 r.2.2.2 ∧ zr L F 17 0 t = some (z, t'))) := by
    intro x1 x2 e p h0
    refine ok_loop4 (fun m x1 x2 e p => (x2 = 0 ∧ ∃ z t', x1 = nI z ∧ z ≤ 16 ∧ m = 17 - z ∧ TP_Eye L t' e p ∧ zr L F 17 0 t = zr L F (16 - z) (z + 1) t') ∨ (x2 = 1 ∧ ∃ z t', x1 = nI z ∧ z ≤ 16 ∧ TP_Eye L t' e p ∧ zr L F 17 0 t = some (z, t')) ∨ (x2 = -1 ∧ zr L F 17 0 t = none)) ?_ fu (if x2 = 0 then 17 - x1.toNatClampNeg else 0) x1 x2 e p (by split <;> omega) ?_
    · clear h0
      rintro rec m x1 x2 e p h ih
      unfold m_Head_readRun_Eye_k8
      rcases h with ⟨rfl, z, t', rfl, hz, rfl, hT, hY⟩ | ⟨rfl, h⟩ | ⟨rfl, h⟩
      · refine ok_if (fun _ => ?_) (fun c => absurd rfl c)
        refine ok_if (fun c => ?_) (fun c => ?_)
        · have := (nI_leI (a := 16) (by decide) (by omega)).mp c
          rw [show 16 - z = 0 by omega] at hY
          exact ok_some (Or.inl ⟨by show (0 : Int32) ≠ 1; decide, hY⟩)
        · have c1 : z < 16 := by
            rcases Nat.lt_or_ge z 16 with q | q
            · exact q
            · exact absurd (nI_le (a := 16) q (by omega)) c
          obtain ⟨n, hn⟩ : ∃ n, 16 - z = n + 1 := ⟨16 - z - 1, by omega⟩
          rw [hn] at hY
          refine ok_letB (ok_bn3 (ebit hC hT) ?_)
          rw [nI_1]
          rintro b e p (⟨g1, g2, g3⟩ | ⟨g1, g2, g3⟩)
          · rw [zr_end g1] at hY
            exact ih 0 _ _ _ _ (by omega) (Or.inr (Or.inr ⟨g2, hY⟩))
          · have hb := fb_le F t'.1
            dsimp only at g2 g3
            rcases (show fb F t'.1 = 0 ∨ fb F t'.1 = 1 by omega) with q | q
            · rw [zr_zero g1 q] at hY
              have g4 : b = 0 := by rw [g2, q]; rfl
              refine ih (17 - (z + 1)) _ _ _ _ (by omega) (Or.inl ⟨g4, z + 1, _, rfl, c1, rfl, g3, ?_⟩)
              rw [show 16 - (z + 1) = n by omega]
              exact hY
            · rw [zr_one g1 q] at hY
              have g4 : b = 1 := by rw [g2, q]; rfl
              exact ih 0 _ _ _ _ (by omega) (Or.inr (Or.inl ⟨g4, z + 1, _, rfl, c1, g3, hY⟩))
      · exact ok_if (fun c => absurd c (by decide)) (fun _ => ok_some (Or.inr ⟨rfl, h⟩))
      · exact ok_if (fun c => absurd c (by decide)) (fun _ => ok_some (Or.inl ⟨by show (-1 : Int32) ≠ 1; decide, h⟩))
    · rcases h0 with ⟨h1, z, t', rfl, hz, h2, h3⟩ | h | h
      · exact Or.inl ⟨h1, z, t', rfl, hz, by rw [if_pos h1, nI_clamp (by omega)], h2, h3⟩
      · exact Or.inr (Or.inl h)
      · exact Or.inr (Or.inr h)
  refine ok_bn3 (ebit hC hT) ?_
  rintro b e p g
  refine ok_bn4 (mid 0 b e p ?_) ?_
  · rcases g with ⟨g1, g2, g3⟩ | ⟨g1, g2, g3⟩
    · exact Or.inr (Or.inr ⟨g2, zr_end g1⟩)
    · have hb := fb_le F t.1
      dsimp only at g2 g3
      rcases (show fb F t.1 = 0 ∨ fb F t.1 = 1 by omega) with q | q
      · have g4 : b = 0 := by rw [g2, q]; rfl
        exact Or.inl ⟨g4, 0, _, rfl, by omega, g3, zr_zero g1 q⟩
      · have g4 : b = 1 := by rw [g2, q]; rfl
        exact Or.inr (Or.inl ⟨g4, 0, _, rfl, by omega, g3, zr_one g1 q⟩)
  · rintro x1 x2 e p (⟨g1, g2⟩ | ⟨g1, z, t', g2, g3, g4, g5⟩)
    · exact ok_if (fun c => absurd c g1) (fun _ => ok_some (Or.inl ⟨rr_n g2, rfl⟩))
    · dsimp only at g1 g2 g4
      subst g1 g2
      refine ok_if (fun _ => ?_) (fun c => absurd rfl c)
      refine ok_bn3 (hear_Eye hfu (by omega) hC g4) ?_
      rintro v e p ⟨q1, q2⟩
      dsimp only at q1 q2
      subst q1
      unfold m_Head_readRun_Eye_b59
      refine ok_if (fun c => ok_some (rr_s g5 g3 ?_ q2)) (fun c => ok_some (rr_s g5 g3 ?_ q2))
      · exact (if_pos c).symm
      · exact (if_neg c).symm
theorem hearRun_ok {fu L : Nat} {t : Nat × (Nat → Nat)} {count : Int32} {F : Nat → Nat} {fed stream st0 : Nat → Int32} (hfu : 600 < fu) (hR : RT 2 st0 t count stream) (hT : TS L t) (hL : L ≤ 19200) (hF : FD F fed) :
    Ok (m_Md_hearRun fu count (nI L) 2 fed stream) (fun r => RRp L F t r.1 (fun t2 => RT 2 st0 t2 r.2.1 r.2.2 ∧ TS L t2) ∧ r.2.2 = st0) := by
  unfold m_Md_hearRun
  have hst : ∀ {t : Nat × (Nat → Nat)} {c : Int32} {s : Nat → Int32}, RT 2 st0 t c s → s = st0 := fun h => h.2.2 (by decide)
  have hst2 : ∀ {t : Nat × (Nat → Nat)} {r : Int32 × Int32 × (Nat → Int32)}, ((t.1 = L ∧ r.1 = -1 ∧ RT 2 st0 t r.2.1 r.2.2) ∨ (t.1 ≠ L ∧ r.1 = nI (fb F t.1) ∧ RT 2 st0 (wr L t (fb F t.1)) r.2.1 r.2.2)) → r.2.2 = st0 := fun h => by
    rcases h with ⟨_, _, h⟩ | ⟨_, _, h⟩
    · exact hst h
    · exact hst h
  have mid : ∀ x1 x2 count stream, ((x2 = 0 ∧ ∃ z t', x1 = nI z ∧ z ≤ 16 ∧ (RT 2 st0 t' count stream ∧ TS L t') ∧ zr L F 17 0 t = zr L F (16 - z) (z + 1) t') ∨ (x2 = 1 ∧ ∃ z t', x1 = nI z ∧ z ≤ 16 ∧ (RT 2 st0 t' count stream ∧ TS L t') ∧ zr L F 17 0 t = some (z, t')) ∨ (x2 = -1 ∧ zr L F 17 0 t = none)) → stream = st0 → Ok (loop4 (m_Md_hearRun_k8 fu (nI L) 2 fed) fu x1 x2 count stream) (fun r => (((r.2.1 ≠ 1 ∨ r.1 = nI 17) ∧ zr L F 17 0 t = none) ∨ (r.2.1 = 1 ∧ ∃ z t', r.1 = nI z ∧ z ≤ 16 ∧ (RT 2 st0 t' r.2.2.1 r.2.2.2 ∧ TS L t') ∧ zr L F 17 0 t = some (z, t'))) ∧ r.2.2.2 = st0) := by
    intro x1 x2 count stream h0 hs0
    refine ok_loop4 (fun m x1 x2 count stream => ((x2 = 0 ∧ ∃ z t', x1 = nI z ∧ z ≤ 16 ∧ m = 17 - z ∧ (RT 2 st0 t' count stream ∧ TS L t') ∧ zr L F 17 0 t = zr L F (16 - z) (z + 1) t') ∨ (x2 = 1 ∧ ∃ z t', x1 = nI z ∧ z ≤ 16 ∧ (RT 2 st0 t' count stream ∧ TS L t') ∧ zr L F 17 0 t = some (z, t')) ∨ (x2 = -1 ∧ zr L F 17 0 t = none) ∨ (x1 = nI 17 ∧ zr L F 17 0 t = none)) ∧ stream = st0) ?_ fu (if x2 = 0 then 17 - x1.toNatClampNeg else 0) x1 x2 count stream (by split <;> omega) ⟨?_, hs0⟩
    · clear h0 hs0
      rintro rec m x1 x2 count stream ⟨h, hs0⟩ ih
      unfold m_Md_hearRun_k8
      rcases h with ⟨rfl, z, t', rfl, hz, rfl, hT, hY⟩ | ⟨rfl, h⟩ | ⟨rfl, h⟩ | ⟨rfl, h⟩
      · refine ok_if (fun _ => ?_) (fun c => absurd rfl c)
        refine ok_if (fun c => ?_) (fun c => ?_)
        · have := (nI_leI (a := 17) (by decide) (by omega)).mp c
          omega
        · refine ok_letB (ok_bn3 (rbit hT.1 hT.2 hL hF) ?_)
          rw [nI_1]
          by_cases c1 : z = 16
          · rintro b count stream g
            subst c1
            exact ih 0 _ _ _ _ (by omega) ⟨Or.inr (Or.inr (Or.inr ⟨rfl, hY⟩)), hst2 g⟩
          · obtain ⟨n, hn⟩ : ∃ n, 16 - z = n + 1 := ⟨16 - z - 1, by omega⟩
            rw [hn] at hY
            rintro b count stream g
            have gs := hst2 g
            rcases g with ⟨g1, g2, g3⟩ | ⟨g1, g2, g3⟩
            · rw [zr_end g1] at hY
              exact ih 0 _ _ _ _ (by omega) ⟨Or.inr (Or.inr (Or.inl ⟨g2, hY⟩)), gs⟩
            · have hb := fb_le F t'.1
              dsimp only at g2 g3
              rcases (show fb F t'.1 = 0 ∨ fb F t'.1 = 1 by omega) with q | q
              · rw [zr_zero g1 q] at hY
                have g4 : b = 0 := by rw [g2, q]; rfl
                refine ih (17 - (z + 1)) _ _ _ _ (by omega) ⟨Or.inl ⟨g4, z + 1, _, rfl, by omega, rfl, ⟨g3, hT.2.wr hb⟩, ?_⟩, gs⟩
                rw [show 16 - (z + 1) = n by omega]
                exact hY
              · rw [zr_one g1 q] at hY
                have g4 : b = 1 := by rw [g2, q]; rfl
                exact ih 0 _ _ _ _ (by omega) ⟨Or.inr (Or.inl ⟨g4, z + 1, _, rfl, by omega, ⟨g3, hT.2.wr hb⟩, hY⟩), gs⟩
      · exact ok_if (fun c => absurd c (by decide)) (fun _ => ok_some ⟨Or.inr ⟨rfl, h⟩, hs0⟩)
      · exact ok_if (fun c => absurd c (by decide)) (fun _ => ok_some ⟨Or.inl ⟨Or.inl (by show (-1 : Int32) ≠ 1; decide), h⟩, hs0⟩)
      · refine ok_if (fun c => ?_) (fun _ => ok_some ⟨Or.inl ⟨Or.inr rfl, h⟩, hs0⟩)
        exact ok_if (fun _ => ok_some ⟨Or.inl ⟨Or.inr rfl, h⟩, hs0⟩) (fun c => absurd (Int32.le_refl _) c)
    · rcases h0 with ⟨h1, z, t', rfl, hz, h2, h3⟩ | h | h
      · exact Or.inl ⟨h1, z, t', rfl, hz, by rw [if_pos h1, nI_clamp (by omega)], h2, h3⟩
      · exact Or.inr (Or.inl h)
      · exact Or.inr (Or.inr (Or.inl h))
  refine ok_bn3 (rbit hR hT hL hF) ?_
  rintro b count stream g
  refine ok_bn4 (mid 0 b count stream ?_ (hst2 g)) ?_
  · rcases g with ⟨g1, g2, g3⟩ | ⟨g1, g2, g3⟩
    · exact Or.inr (Or.inr ⟨g2, zr_end g1⟩)
    · have hb := fb_le F t.1
      dsimp only at g2 g3
      rcases (show fb F t.1 = 0 ∨ fb F t.1 = 1 by omega) with q | q
      · have g4 : b = 0 := by rw [g2, q]; rfl
        exact Or.inl ⟨g4, 0, _, rfl, by omega, ⟨g3, hT.wr hb⟩, zr_zero g1 q⟩
      · have g4 : b = 1 := by rw [g2, q]; rfl
        exact Or.inr (Or.inl ⟨g4, 0, _, rfl, by omega, ⟨g3, hT.wr hb⟩, zr_one g1 q⟩)
  · unfold m_Md_hearRun_b49 m_Md_hearRun_b50 m_Md_hearRun_b67
    rintro x1 x2 count stream ⟨⟨g1, g2⟩ | ⟨g1, z, t', g2, g3, g4, g5⟩, gs⟩
    · have fin : ∀ (K : Nat × (Nat → Nat) → Prop), RRp L F t (-1) K := fun K => Or.inl ⟨rr_n g2, rfl⟩
      dsimp only at g1
      refine ok_if (fun c => ?_) (fun _ => ok_if (fun _ => ok_some ⟨fin _, gs⟩) (fun c => absurd rfl c))
      refine ok_if (fun _ => ok_if (fun _ => ok_some ⟨fin _, gs⟩) (fun c => absurd rfl c)) (fun c2 => ?_)
      rcases g1 with g1 | g1
      · exact absurd c g1
      · exact absurd (by rw [g1]; exact Int32.le_refl _) c2
    · dsimp only at g1 g2 g4
      subst g1 g2
      refine ok_if (fun _ => ?_) (fun c => absurd rfl c)
      refine ok_if (fun c => absurd c (nI_ge (b := 17) (by omega) (by decide))) (fun _ => ?_)
      refine ok_bn3 (hear_ok hfu (by omega) g4.1 g4.2 hL hF) ?_
      rintro v count stream ⟨q1, q2, q3⟩
      dsimp only at q1 q2
      subst q1
      refine ok_if (fun c => ok_some ⟨rr_s g5 g3 ?_ ⟨q2, q3⟩, hst q2⟩) (fun c => ok_some ⟨rr_s g5 g3 ?_ ⟨q2, q3⟩, hst q2⟩)
      · exact (if_pos c).symm
      · exact (if_neg c).symm
