/-! READING: the runs of the mask -/
def ix (W i : Nat) : Nat := 16 * (i / W) + i % W
def rp (L : Nat) (F : Nat → Nat) (W : Nat) : Nat → Nat → Int32 → Nat → Nat × (Nat → Nat) → (Nat → Int32) → Option ((Nat × (Nat → Nat)) × (Nat → Int32))
  | 0, _, _, left, t, ins => if left = 0 then some (t, ins) else none
  | n + 1, i, on, left, t, ins => if left = 0 then Option.bind (rr L F t) (fun q => if q.1 = 0 then none else rp L F W n (i + 1) (fl on) (q.1 - 1) q.2 (upd ins (ix W i) (fl on))) else rp L F W n (i + 1) on (left - 1) t (upd ins (ix W i) on)
def fillr (W : Nat) : Nat → Nat → Int32 → (Nat → Int32) → (Nat → Int32)
  | 0, _, _, ins => ins
  | n + 1, i, on, ins => fillr W n (i + 1) on (upd ins (ix W i) on)
theorem rp_s {L W n i left : Nat} {F : Nat → Nat} {on : Int32} {t : Nat × (Nat → Nat)} {ins : Nat → Int32} (h : 0 < left) : rp L F W (n + 1) i on left t ins = rp L F W n (i + 1) on (left - 1) t (upd ins (ix W i) on) := if_neg (by omega)
theorem rp_n {L W n i : Nat} {F : Nat → Nat} {on : Int32} {t : Nat × (Nat → Nat)} {ins : Nat → Int32} (h : rr L F t = none) : rp L F W (n + 1) i on 0 t ins = none := by
  refine (if_pos rfl).trans ?_
  rw [h]
  rfl
theorem rp_z {L W n i : Nat} {F : Nat → Nat} {on : Int32} {t t2 : Nat × (Nat → Nat)} {ins : Nat → Int32} (h : rr L F t = some (0, t2)) : rp L F W (n + 1) i on 0 t ins = none := by
  refine (if_pos rfl).trans ?_
  rw [h]
  rfl
theorem rp_r {L W n i v : Nat} {F : Nat → Nat} {on : Int32} {t t2 : Nat × (Nat → Nat)} {ins : Nat → Int32} (h : rr L F t = some (v, t2)) (hv : 0 < v) : rp L F W (n + 1) i on 0 t ins = rp L F W n (i + 1) (fl on) (v - 1) t2 (upd ins (ix W i) (fl on)) := by
  refine (if_pos rfl).trans ?_
  rw [h]
  exact if_neg (show ¬ v = 0 by omega)
theorem rp_fill {L W n : Nat} {F : Nat → Nat} {on : Int32} {t : Nat × (Nat → Nat)} (left : Nat) : ∀ (i : Nat) (ins : Nat → Int32), rp L F W (n + left) i on left t ins = rp L F W n (i + left) on 0 t (fillr W left i on ins) := by
  induction left with
  | zero => intro i ins; rfl
  | succ left ih =>
    intro i ins
    have h1 : rp L F W (n + (left + 1)) i on (left + 1) t ins = rp L F W (n + left) (i + 1) on left t (upd ins (ix W i) on) := rp_s (n := n + left) (by omega)
    rw [h1, ih (i + 1), show i + 1 + left = i + (left + 1) by omega]
    rfl
theorem rp_over {L W n left i : Nat} {F : Nat → Nat} {on : Int32} {t : Nat × (Nat → Nat)} {ins : Nat → Int32} (h : n < left) : rp L F W n i on left t ins = none := by
  induction n generalizing left i ins with
  | zero => exact if_neg (by omega)
  | succ n ih => rw [rp_s (by omega)]; exact ih (by omega)
theorem nar_b {b : Int32} (h : b = 0 ∨ b = 1) : vp_nar .boolean b = b := by rcases h with rfl | rfl <;> rfl
theorem eqT_upd {f g : Nat → Int32} {k : Nat} {v : Int32} (h : EqT f g) : EqT (upd f k v) (upd g k v) := by
  intro j hj
  by_cases e : j = k
  · rw [e, pk_us, pk_us]
  · rw [pk_un e, pk_un e]; exact h j hj
theorem ix_at {W y x : Nat} (h : x < W) : ix W (W * y + x) = 16 * y + x := by
  unfold ix
  rw [Nat.mul_add_div (by omega), Nat.mul_add_mod, Nat.mod_eq_of_lt h, Nat.div_eq_of_lt h, Nat.add_zero]
def GI (W H : Nat) (ins : Nat → Int32) : Prop := B01 ins ∧ Out W H ins
theorem GI.upd {W H i : Nat} {ins : Nat → Int32} {v : Int32} (h : GI W H ins) (hW0 : 0 < W) (hi : i < W * H) (hW : W ≤ 16) (hv : v = 0 ∨ v = 1) : GI W H (upd ins (ix W i) v) := by
  have hd : i / W < H := Nat.div_lt_of_lt_mul hi
  have hm : i % W < W := Nat.mod_lt _ hW0
  refine ⟨fun j hj => ?_, fun a ha h2 => ?_⟩
  · by_cases e : j = ix W i
    · rw [e, pk_us]; exact hv
    · rw [pk_un e]; exact h.1 j hj
  · have e : a ≠ ix W i := by unfold ix; omega
    rw [pk_un e]
    exact h.2 a ha h2
theorem rp_GI {L W H n : Nat} {F : Nat → Nat} (hW0 : 0 < W) (hW : W ≤ 16) {t' : Nat × (Nat → Nat)} {ins' : Nat → Int32} : ∀ (i left : Nat) (on : Int32) (t : Nat × (Nat → Nat)) (ins : Nat → Int32), i + n = W * H → (on = 0 ∨ on = 1) → GI W H ins → rp L F W n i on left t ins = some (t', ins') → GI W H ins' := by
  induction n with
  | zero =>
    intro i left on t ins _ _ hG h
    by_cases e : left = 0
    · have h2 : some (t, ins) = some (t', ins') := (if_pos e).symm.trans h
      have h3 := Option.some.inj h2
      have h4 : ins = ins' := congrArg Prod.snd h3
      rw [← h4]; exact hG
    · have h2 : none = some (t', ins') := (if_neg e).symm.trans h
      exact absurd h2 (by simp)
  | succ n ih =>
    intro i left on t ins hi hon hG h
    by_cases e : left = 0
    · subst e
      cases hr : rr L F t with
      | none => rw [rp_n hr] at h; exact absurd h (by simp)
      | some q =>
        obtain ⟨v, t2⟩ := q
        by_cases v0 : v = 0
        · subst v0; rw [rp_z hr] at h; exact absurd h (by simp)
        · rw [rp_r hr (by omega)] at h
          exact ih (i + 1) _ _ _ _ (by omega) fl_01 (hG.upd hW0 (by omega) hW fl_01) h
    · rw [rp_s (by omega)] at h
      exact ih (i + 1) _ _ _ _ (by omega) hon (hG.upd hW0 (by omega) hW hon) h
theorem rruns29 {fu L W H y left : Nat} {F : Nat → Nat} {row ins insS : Nat → Int32} {on e p : Int32} {t : Nat × (Nat → Nat)} {X : Option ((Nat × (Nat → Nat)) × (Nat → Int32))} (hfu : 600 < fu) (hW : W ≤ 16) (hH : H ≤ 16) (hy : y < H) (hC : CX_Eye L F row) (hl : left < 131072) (hon : on = 0 ∨ on = 1) (hE : EqT ins insS) (hT : TP_Eye L t e p) (hX : rp L F W (W * H - W * y) (W * y) on left t insS = X) :
    Ok (loop6 (m_Head_readRuns_Eye_k29 fu (nI y) (nI H) (nI W) (LM_Eye L) row) fu on (nI left) 0 ins e p) (Sum.elim (fun _ => X = none) (fun u => ∃ left t insS, u.2.1 = nI left ∧ left < 131072 ∧ (u.1 = 0 ∨ u.1 = 1) ∧ EqT u.2.2.1 insS ∧ TP_Eye L t u.2.2.2.1 u.2.2.2.2 ∧ rp L F W (W * H - W * (y + 1)) (W * (y + 1)) u.1 left t insS = X)) := by
  have hyH : W * (y + 1) ≤ W * H := Nat.mul_le_mul_left _ hy
  have h256 : W * H ≤ 16 * 16 := Nat.mul_le_mul hW hH
  have hs : W * (y + 1) = W * y + W := Nat.mul_succ _ _
  refine ok_loop6 (fun m x2 x3 x5 ins e p => ∃ x left t insS, x5 = nI x ∧ x ≤ W ∧ m = W - x ∧ x3 = nI left ∧ left < 131072 ∧ (x2 = 0 ∨ x2 = 1) ∧ EqT ins insS ∧ TP_Eye L t e p ∧ rp L F W (W * H - (W * y + x)) (W * y + x) x2 left t insS = X) ?_ fu W on (nI left) 0 ins e p (by omega) ⟨0, left, t, insS, rfl, by omega, rfl, rfl, hl, hon, hE, hT, hX⟩
  clear hl hon hE hT hX
  rintro rec m on _ _ ins e p ⟨x, left, t, insS, rfl, hx, rfl, rfl, hl, hon, hE, hT, hX⟩ ih
  unfold m_Head_readRuns_Eye_k29
  refine ok_if (fun c => ?_) (fun c => ?_)
  · have := (nI_leI (by omega) (by omega)).mp c
    have hi : W * y + x = W * (y + 1) := by omega
    rw [hi] at hX
    exact ok_some ⟨left, t, insS, rfl, hl, hon, hE, hT, hX⟩
  · have c1 : x < W := by
      rcases Nat.lt_or_ge x W with q | q
      · exact q
      · exact absurd (nI_le q (by omega)) c
    obtain ⟨n, hn⟩ : ∃ n, W * H - (W * y + x) = n + 1 := ⟨W * H - (W * y + x) - 1, by omega⟩
    have hn2 : W * H - (W * y + (x + 1)) = n := by omega
    rw [hn] at hX
    -- one sample set
    have put : ∀ (on : Int32) (v : Nat) (t : Nat × (Nat → Nat)) (e p : Int32), 0 < v → v < 131072 → (on = 0 ∨ on = 1) → TP_Eye L t e p → rp L F W n (W * y + x + 1) on (v - 1) t (upd insS (ix W (W * y + x)) on) = X → Ok (m_Head_readRuns_Eye_b57 fu rec on (nI v) (nI y) (nI x) (nI H) (nI W) ins e (LM_Eye L) p row) (Sum.elim (fun _ => X = none) (fun u => ∃ left t insS, u.2.1 = nI left ∧ left < 131072 ∧ (u.1 = 0 ∨ u.1 = 1) ∧ EqT u.2.2.1 insS ∧ TP_Eye L t u.2.2.2.1 u.2.2.2.2 ∧ rp L F W (W * H - W * (y + 1)) (W * (y + 1)) u.1 left t insS = X)) := by
      intro on v t e p hv0 hv hon hT hX
      unfold m_Head_readRuns_Eye_b57
      refine ok_if (fun _ => ?_) (fun c => absurd (nI_le (a := 1) (b := v) hv0 (by omega)) c)
      rw [bn1_eq (samp_eq fu x y)]
      refine ok_chk (vp_nI (by omega)) (ok_letB (ok_letB ?_))
      rw [nI_clamp (by omega), nar_b hon, nI_1]
      refine ih (W - (x + 1)) _ _ _ _ _ _ (by omega) ⟨x + 1, v - 1, t, upd insS (ix W (W * y + x)) on, rfl, c1, rfl, ?_, by omega, hon, ?_, hT, ?_⟩
      · rw [← nIs1 hv0, Int32.sub_eq_add_neg]
      · rw [ix_at c1]; exact eqT_upd hE
      · rw [hn2]; exact hX
    refine ok_if (fun c2 => ?_) (fun c2 => ?_)
    · have hz : left = 0 := (nI_eq (b := 0) (by omega) (by decide)).mp c2
      subst hz
      refine ok_bn3 (readRun_Eye hfu hC hT) ?_
      rintro r e p g
      unfold m_Head_readRuns_Eye_b56
      have bad : ∀ (o : Int32), ¬ (1 : Int32) ≤ r → X = none → Ok (m_Head_readRuns_Eye_b57 fu rec o r (nI y) (nI x) (nI H) (nI W) ins e (LM_Eye L) p row) (Sum.elim (fun _ => X = none) (fun u => ∃ left t insS, u.2.1 = nI left ∧ left < 131072 ∧ (u.1 = 0 ∨ u.1 = 1) ∧ EqT u.2.2.1 insS ∧ TP_Eye L t u.2.2.2.1 u.2.2.2.2 ∧ rp L F W (W * H - W * (y + 1)) (W * (y + 1)) u.1 left t insS = X)) := by
        intro o h1 h2
        unfold m_Head_readRuns_Eye_b57
        exact ok_if (fun c => absurd c h1) (fun _ => ok_some h2)
      rcases g with ⟨g1, g2⟩ | ⟨v, t2, g1, g2, g3, g4⟩
      · dsimp only at g2
        rw [rp_n g1] at hX
        have h1 : ¬ (1 : Int32) ≤ r := by rw [g2]; decide
        exact ok_if (fun _ => bad _ h1 hX.symm) (fun _ => bad _ h1 hX.symm)
      · dsimp only at g2 g4
        by_cases v0 : v = 0
        · subst v0
          rw [rp_z g1] at hX
          have h1 : ¬ (1 : Int32) ≤ r := by rw [g2]; decide
          exact ok_if (fun _ => bad _ h1 hX.symm) (fun _ => bad _ h1 hX.symm)
        · rw [rp_r g1 (by omega)] at hX
          subst g2
          refine ok_if (fun c3 => ?_) (fun c3 => ?_)
          · have hf : fl on = 1 := if_pos c3
            rw [hf] at hX
            exact put 1 v t2 e p (by omega) g3 (Or.inr rfl) g4 hX
          · have hf : fl on = 0 := if_neg c3
            rw [hf] at hX
            exact put 0 v t2 e p (by omega) g3 (Or.inl rfl) g4 hX
    · have hz : 0 < left := by
        rcases Nat.eq_zero_or_pos left with q | q
        · exact absurd (by rw [q]; rfl) c2
        · exact q
      rw [rp_s hz] at hX
      exact put on left t e p hz hl hon hT hX
theorem rruns17 {fu L W H left : Nat} {F : Nat → Nat} {row ins insS : Nat → Int32} {e p : Int32} {t : Nat × (Nat → Nat)} {X : Option ((Nat × (Nat → Nat)) × (Nat → Int32))} (hfu : 600 < fu) (hW : W ≤ 16) (hH : H ≤ 16) (hC : CX_Eye L F row) (hl : left < 131072) (hE : EqT ins insS) (hT : TP_Eye L t e p) (hX : rp L F W (W * H) 0 0 left t insS = X) :
    Ok (loop6 (m_Head_readRuns_Eye_k17 fu (nI H) (nI W) (LM_Eye L) row) fu 0 (nI left) 0 ins e p) (Sum.elim (fun _ => X = none) (fun u => ∃ left t insS, u.1 = nI left ∧ left < 131072 ∧ EqT u.2.1 insS ∧ TP_Eye L t u.2.2.1 u.2.2.2 ∧ (if left = 0 then some (t, insS) else none) = X)) := by
  refine ok_loop6 (fun m x2 x3 x4 ins e p => ∃ y left t insS, x4 = nI y ∧ y ≤ H ∧ m = H - y ∧ x3 = nI left ∧ left < 131072 ∧ (x2 = 0 ∨ x2 = 1) ∧ EqT ins insS ∧ TP_Eye L t e p ∧ rp L F W (W * H - W * y) (W * y) x2 left t insS = X) ?_ fu H 0 (nI left) 0 ins e p (by omega) ⟨0, left, t, insS, rfl, by omega, rfl, rfl, hl, Or.inl rfl, hE, hT, hX⟩
  clear hl hE hT hX
  rintro rec m on _ _ ins e p ⟨y, left, t, insS, rfl, hy, rfl, rfl, hl, hon, hE, hT, hX⟩ ih
  unfold m_Head_readRuns_Eye_k17
  refine ok_if (fun c => ?_) (fun c => ?_)
  · have := (nI_leI (by omega) (by omega)).mp c
    rw [show y = H by omega, Nat.sub_self] at hX
    exact ok_some ⟨left, t, insS, rfl, hl, hE, hT, hX⟩
  · have c1 : y < H := by
      rcases Nat.lt_or_ge y H with q | q
      · exact q
      · exact absurd (nI_le q (by omega)) c
    refine ok_sm2 (rruns29 hfu hW hH c1 hC hl hon hE hT hX) ?_ ?_
    · rintro ⟨i, e, p⟩ h
      exact ok_some h
    · rintro ⟨on, l, ins, e, p⟩ ⟨left, t, insS, g1, g2, g3, g4, g5, g6⟩
      refine ok_letB ?_
      rw [nI_1]
      exact ih (H - (y + 1)) _ _ _ _ _ _ (by omega) ⟨y + 1, left, t, insS, rfl, c1, rfl, g1, g2, g3, g4, g5, g6⟩
def RZ (L : Nat) (F : Nat → Nat) (W H : Nat) (t : Nat × (Nat → Nat)) : Option ((Nat × (Nat → Nat)) × (Nat → Int32)) := Option.bind (rr L F t) (fun q => rp L F W (W * H) 0 0 q.1 q.2 (fun _ => 0))
theorem RZ_n {L W H : Nat} {F : Nat → Nat} {t : Nat × (Nat → Nat)} (h : rr L F t = none) : RZ L F W H t = none := by unfold RZ; rw [h]; rfl
theorem RZ_s {L W H v : Nat} {F : Nat → Nat} {t t2 : Nat × (Nat → Nat)} (h : rr L F t = some (v, t2)) : RZ L F W H t = rp L F W (W * H) 0 0 v t2 (fun _ => 0) := by unfold RZ; rw [h]; rfl
theorem readRuns_ok {fu L W H : Nat} {F : Nat → Nat} {row ins : Nat → Int32} {e p : Int32} {t : Nat × (Nat → Nat)} (hfu : 600 < fu) (hW : W ≤ 16) (hH : H ≤ 16) (hC : CX_Eye L F row) (hE : ∀ j, j < 256 → ins j = 0) (hT : TP_Eye L t e p) :
    Ok (m_Head_readRuns_Eye fu (nI H) (nI W) ins e (LM_Eye L) p row) (fun r => (r.1 = 0 ∧ RZ L F W H t = none) ∨ (r.1 = 1 ∧ ∃ t' insS, RZ L F W H t = some (t', insS) ∧ EqT r.2.1 insS ∧ TP_Eye L t' r.2.2.1 r.2.2.2)) := by
  unfold m_Head_readRuns_Eye
  refine ok_bn3 (readRun_Eye hfu hC hT) ?_
  rintro r e p g
  rcases g with ⟨g1, g2⟩ | ⟨v, t2, g1, g2, g3, g4⟩
  · exact ok_if (fun _ => ok_some (Or.inl ⟨rfl, RZ_n g1⟩)) (fun c => absurd g2 c)
  · dsimp only at g2 g4
    subst g2
    refine ok_if (fun c => absurd c (nI_nm1 (by omega))) (fun _ => ?_)
    refine ok_sm2 (rruns17 (X := RZ L F W H t) hfu hW hH hC g3 (insS := fun _ => 0) hE g4 (RZ_s g1).symm) ?_ ?_
    · rintro ⟨i, e, p⟩ h
      exact ok_some (Or.inl ⟨rfl, h⟩)
    · rintro ⟨l, ins, e, p⟩ ⟨left, t, insS, q1, q2, q3, q4, q5⟩
      dsimp only at q1 q3 q4
      subst q1
      unfold m_Head_readRuns_Eye_b101
      refine ok_if (fun c => ok_chkB (Or.inr rfl) (ok_some (Or.inr ⟨rfl, t, insS, ?_, q3, q4⟩))) (fun c => ok_chkB (Or.inl rfl) (ok_some (Or.inl ⟨rfl, ?_⟩)))
      · have hz : left = 0 := (nI_eq (b := 0) (by omega) (by decide)).mp c
        rw [if_pos hz] at q5
        exact q5.symm
      · have hz : ¬ left = 0 := fun q => c (by rw [q]; rfl)
        rw [if_neg hz] at q5
        exact q5.symm
