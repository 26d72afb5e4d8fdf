/-! READING: the head -/
def RH (L : Nat) (F : Nat → Nat) (t : Nat × (Nat → Nat)) : Option (Nat × Nat × Nat × (Nat × (Nat → Nat)) × (Nat → Int32)) :=
  Option.bind (hr L F 4 0 t).1 (fun w => Option.bind (hr L F 4 0 (hr L F 4 0 t).2).1 (fun h => Option.bind (hr L F 5 0 (hr L F 4 0 (hr L F 4 0 t).2).2).1 (fun k => if 20 < k then none else Option.bind (RZ L F (w + 1) (h + 1) (hr L F 5 0 (hr L F 4 0 (hr L F 4 0 t).2).2).2) (fun q => some (w + 1, h + 1, k, q.1, q.2)))))
/-- how the three numbers of the head come out -/
def H3 (L : Nat) (F : Nat → Nat) (t : Nat × (Nat → Nat)) (a b c : Int32) (K : Nat × (Nat → Nat) → Prop) : Prop :=
  (RH L F t = none ∧ (c = -1 ∨ ∃ k, 20 < k ∧ k < 32 ∧ c = nI k)) ∨ ∃ w h k t3, w < 16 ∧ h < 16 ∧ k ≤ 20 ∧ a = nI w ∧ b = nI h ∧ c = nI k ∧ K t3 ∧ RH L F t = Option.bind (RZ L F (w + 1) (h + 1) t3) (fun q => some (w + 1, h + 1, k, q.1, q.2))
theorem hr_full {L k v : Nat} {F : Nat → Nat} {t : Nat × (Nat → Nat)} (h : t.1 = L) : hr L F (k + 1) v t = (none, t) := if_pos h
theorem H3_of {L : Nat} {F : Nat → Nat} {t : Nat × (Nat → Nat)} {a b c : Int32} {K : Nat × (Nat → Nat) → Prop} (ha : a = oN (hr L F 4 0 t).1) (hb : b = oN (hr L F 4 0 (hr L F 4 0 t).2).1) (hc : c = oN (hr L F 5 0 (hr L F 4 0 (hr L F 4 0 t).2).2).1) (hK : K (hr L F 5 0 (hr L F 4 0 (hr L F 4 0 t).2).2).2) : H3 L F t a b c K := by
  unfold H3 RH
  cases h1 : (hr L F 4 0 t).1 with
  | none =>
    have e1 := hr_none h1
    rw [hr_full e1] at hc
    rw [hr_full e1] at hc
    exact Or.inl ⟨rfl, Or.inl hc⟩
  | some w =>
    have w1 := hr_lt h1
    rw [h1] at ha
    cases h2 : (hr L F 4 0 (hr L F 4 0 t).2).1 with
    | none =>
      have e2 := hr_none h2
      rw [hr_full e2] at hc
      exact Or.inl ⟨rfl, Or.inl hc⟩
    | some h =>
      have w2 := hr_lt h2
      rw [h2] at hb
      cases h3 : (hr L F 5 0 (hr L F 4 0 (hr L F 4 0 t).2).2).1 with
      | none =>
        rw [h3] at hc
        exact Or.inl ⟨rfl, Or.inl hc⟩
      | some k =>
        have w3 := hr_lt h3
        rw [h3] at hc
        by_cases q : 20 < k
        · exact Or.inl ⟨if_pos q, Or.inr ⟨k, q, by omega, hc⟩⟩
        · exact Or.inr ⟨w, h, k, _, by omega, by omega, by omega, ha, hb, hc, hK, if_neg q⟩
theorem RH_facts {L W H k : Nat} {F : Nat → Nat} {t t' : Nat × (Nat → Nat)} {insS : Nat → Int32} (h : RH L F t = some (W, H, k, t', insS)) : 0 < W ∧ W ≤ 16 ∧ 0 < H ∧ H ≤ 16 ∧ k ≤ 20 ∧ GI W H insS := by
  have h0 := H3_of (L := L) (F := F) (t := t) (K := fun _ => True) rfl rfl rfl True.intro
  rcases h0 with ⟨h1, _⟩ | ⟨w, hh, k', t3, h1, h2, h3, _, _, _, _, h4⟩
  · rw [h1] at h; exact absurd h (by simp)
  · rw [h4] at h
    cases hz : RZ L F (w + 1) (hh + 1) t3 with
    | none => rw [hz] at h; exact absurd h (by simp)
    | some q =>
      obtain ⟨t4, i4⟩ := q
      rw [hz] at h
      have h5 : some (w + 1, hh + 1, k', t4, i4) = some (W, H, k, t', insS) := h
      have h6 := Option.some.inj h5
      simp only [Prod.mk.injEq] at h6
      obtain ⟨e1, e2, e3, e4, e5⟩ := h6
      subst e1 e2 e3 e4 e5
      refine ⟨by omega, by omega, by omega, by omega, h3, ?_⟩
      unfold RZ at hz
      cases hr : rr L F t3 with
      | none => rw [hr] at hz; exact absurd hz (by simp)
      | some q =>
        rw [hr] at hz
        exact rp_GI (by omega) (by omega) 0 _ 0 _ _ (Nat.zero_add _) (Or.inl rfl) ⟨fun _ _ => Or.inl rfl, fun _ _ _ => rfl⟩ hz
theorem nI20 {k : Nat} (h : 20 < k) (hk : k < 32) : ¬ nI k ≤ (20 : Int32) := nI_ge (a := 20) h (by omega)
theorem read_Eye {fu L : Nat} {F : Nat → Nat} {row f ins P q z waves : Nat → Int32} {planes cnt h0 parts w0 e p : Int32} {t : Nat × (Nat → Nat)} (hfu : 600 < fu) (hC : CX_Eye L F row) (hT : TP_Eye L t e p) :
    Ok (m_Head_read_Eye fu planes cnt h0 parts w0 f ins P q z waves e (LM_Eye L) p row) (fun r => (r.1 = 0 ∧ RH L F t = none) ∨ (r.1 = 1 ∧ ∃ W H k t' insS, RH L F t = some (W, H, k, t', insS) ∧ r.2.1 = nI k ∧ r.2.2.2.1 = nI H ∧ r.2.2.2.2.2.1 = nI W ∧ EqT r.2.2.2.2.2.2.2.1 insS ∧ (∀ j, j < 256 → r.2.2.2.2.2.2.2.2.2.2.2.1 j = 0) ∧ TP_Eye L t' r.2.2.2.2.2.2.2.2.2.2.2.2.1 r.2.2.2.2.2.2.2.2.2.2.2.2.2)) := by
  unfold m_Head_read_Eye
  refine ok_bn3 (hear_Eye (k := 4) hfu (by decide) hC hT) ?_
  rintro a e p ⟨a1, a2⟩
  refine ok_letB (ok_bn3 (hear_Eye (k := 4) hfu (by decide) hC a2) ?_)
  rintro b e p ⟨b1, b2⟩
  refine ok_letB (ok_bn3 (hear_Eye (k := 5) hfu (by decide) hC b2) ?_)
  rintro c e p ⟨c1, c2⟩
  have hh := H3_of (K := fun t => TP_Eye L t e p) a1 b1 c1 c2
  clear a1 b1 c1 a2 b2 c2
  unfold m_Head_read_Eye_b36
  rcases hh with ⟨h1, h2⟩ | ⟨w, h, k, t3, h1, h2, h3, rfl, rfl, rfl, h4, h5⟩
  · refine ok_if (fun _ => ok_some (Or.inl ⟨rfl, h1⟩)) (fun c => ok_if (fun c2 => ?_) (fun _ => ok_some (Or.inl ⟨rfl, h1⟩)))
    rcases h2 with h2 | ⟨k, k1, k2, h2⟩
    · exact absurd h2 c
    · dsimp only at h2; rw [h2] at c2; exact absurd c2 (nI20 k1 k2)
  · refine ok_if (fun c => absurd c (nI_nm1 (by omega))) (fun _ => ok_if (fun _ => ?_) (fun c => absurd (nI_le (b := 20) h3 (by decide)) c))
    rw [nI_1, nI_1]
    unfold m_Picture_begin
    refine ok_bn11 (Q := fun r => r.1 = nI k ∧ r.2.2.1 = nI (h + 1) ∧ r.2.2.2.2.1 = nI (w + 1) ∧ (∀ j, j < 256 → r.2.2.2.2.2.2.1 j = 0) ∧ ∀ j, j < 256 → r.2.2.2.2.2.2.2.2.2.2 j = 0) ?_ ?_
    · refine ok_bn9 (resize_ok hfu (by omega) (by omega)) ?_
      rintro b1 b2 b3 b4 b5 b6 b7 b8 b9 ⟨g1, g2, g3, g4⟩
      refine ok_bn1 (fill_ok (by decide) (by omega)) ?_
      rintro wv g5
      exact ok_some ⟨rfl, g1, g2, g3, fun j hj => g5.1 j hj⟩
    · rintro b1 b2 b3 b4 b5 b6 b7 b8 b9 b10 b11 ⟨g1, g2, g3, g4, g5⟩
      dsimp only at g1 g2 g3 g4 g5
      subst g1 g2 g3
      refine ok_bn4 (readRuns_ok (W := w + 1) (H := h + 1) hfu (by omega) (by omega) hC g4 h4) ?_
      rintro r i e p (⟨r1, r2⟩ | ⟨r1, t', insS, r2, r3, r4⟩)
      · dsimp only at r1
        subst r1
        rw [r2] at h5
        exact ok_chkB (Or.inl rfl) (ok_some (Or.inl ⟨rfl, h5⟩))
      · dsimp only at r1 r3 r4
        subst r1
        rw [r2] at h5
        exact ok_chkB (Or.inr rfl) (ok_some (Or.inr ⟨rfl, w + 1, h + 1, k, t', insS, h5, rfl, rfl, rfl, r3, g5, r4⟩))
theorem hhead56 {fu : Nat} {c l m h k w : Int32} {fed stream ins : Nat → Int32} (hfu : 600 < fu) : Ok (loop2 (m_Md_hearHead_k56 fu c l m h k w fed stream) fu 0 ins) (fun r => ∀ j, j < 256 → r j = 0) := by
  refine ok_loop2 (fun m x ins => ∃ i, x = nI i ∧ i ≤ 256 ∧ m = 256 - i ∧ ∀ j, j < i → ins j = 0) ?_ fu 256 0 ins (by omega) ⟨0, rfl, by omega, rfl, fun j hj => absurd hj (Nat.not_lt_zero _)⟩
  rintro rec m _ ins ⟨i, rfl, h1, rfl, h2⟩ ih
  unfold m_Md_hearHead_k56
  refine ok_if (fun c => ?_) (fun c => ?_)
  · have := (nI_leI (a := 256) (by decide) (by omega)).mp c
    exact ok_some (fun j hj => h2 j (by omega))
  · have c1 : i < 256 := by
      rcases Nat.lt_or_ge i 256 with q | q
      · exact q
      · exact absurd (nI_le (a := 256) q (by omega)) c
    refine ok_chk (vp_nI c1) (ok_letB ?_)
    rw [nI_1, nI_clamp (by omega), nar_b0]
    refine ih (256 - (i + 1)) _ _ (by omega) ⟨i + 1, rfl, c1, rfl, fun j hj => ?_⟩
    by_cases e : j = i
    · rw [e, pk_us]
    · rw [pk_un e]; exact h2 j (by omega)
theorem hhead140 {fu W H i v : Nat} {x3 c l m h k on : Int32} {fed stream ins insS : Nat → Int32} (hfu : 600 < fu) (hW0 : 0 < W) (hW : W ≤ 16) (hH : H ≤ 16) (hon : on = 0 ∨ on = 1) (hi : i + v ≤ W * H) (hE : EqT ins insS) :
    Ok (loop2 (m_Md_hearHead_k140 fu x3 (nI i) on (nI v) c l m h k (nI W) fed stream) fu (nI i) ins) (fun r => EqT r (fillr W v i on insS)) := by
  have h256 : W * H ≤ 16 * 16 := Nat.mul_le_mul hW hH
  refine ok_loop2 (fun m x ins => ∃ j n s, x = nI j ∧ j + n = i + v ∧ m = n ∧ EqT ins s ∧ fillr W n j on s = fillr W v i on insS) ?_ fu v (nI i) ins (by omega) ⟨i, v, insS, rfl, rfl, rfl, hE, rfl⟩
  clear hE
  rintro rec m _ ins ⟨j, n, s, rfl, h1, rfl, hE, hF⟩ ih
  unfold m_Md_hearHead_k140
  rw [nI_add]
  refine ok_if (fun c => ?_) (fun c => ?_)
  · have := (nI_leI (by omega) (by omega)).mp c
    have hn : m = 0 := by omega
    subst hn
    refine ok_some ?_
    rw [← hF]
    exact hE
  · have c1 : j < i + v := by
      rcases Nat.lt_or_ge j (i + v) with q | q
      · exact q
      · exact absurd (nI_le q (by omega)) c
    obtain ⟨n, rfl⟩ : ∃ n, m = n + 1 := ⟨m - 1, by omega⟩
    have hd : j / W < H := Nat.div_lt_of_lt_mul (by omega)
    have hm : j % W < W := Nat.mod_lt _ hW0
    have hidx : ((16 : Int32) * (nI j / nI W)) + (nI j - nI j / nI W * nI W) = nI (16 * (j / W) + j % W) := by
      rw [pk_rem (by omega) hW0 (by omega), pk_div (by omega) hW0 (by omega), l16, pk_mul, nI_add]
    rw [hidx]
    refine ok_nz (nI_ne0 hW0 (by omega)) (ok_nz (nI_ne0 hW0 (by omega)) (ok_chk (vp_nI (by omega)) (ok_letB ?_)))
    rw [nI_clamp (by omega), nar_b hon, nI_1]
    exact ih n _ _ (by omega) ⟨j + 1, n, upd s (ix W j) on, rfl, by omega, rfl, eqT_upd hE, hF⟩
theorem hhead92 {fu L W H : Nat} {F : Nat → Nat} {fed ins stream st0 : Nat → Int32} {h k count : Int32} {t : Nat × (Nat → Nat)} (hfu : 600 < fu) (hW0 : 0 < W) (hW : W ≤ 16) (hH0 : 0 < H) (hH : H ≤ 16) (hL : L ≤ 19200) (hF : FD F fed) (hE : ∀ j, j < 256 → ins j = 0) (hR : RT 2 st0 t count stream) (hT : TS L t) :
    Ok (loop5 (m_Md_hearHead_k92 fu (nI (W * H)) (nI L) 2 h k (nI W) fed) fu 0 0 count ins stream) (Sum.elim (fun u => RZ L F W H t = none ∧ u.2.2 = st0) (fun u => ∃ t' insS, RZ L F W H t = some (t', insS) ∧ RT 2 st0 t' u.1 u.2.2 ∧ TS L t' ∧ EqT u.2.1 insS)) := by
  have h256 : W * H ≤ 16 * 16 := Nat.mul_le_mul hW hH
  have hA : 0 < W * H := Nat.mul_pos hW0 hH0
  generalize hX : RZ L F W H t = X
  refine ok_loop5 (fun m x4 x5 count ins stream => ∃ i t' insS, x4 = nI i ∧ i ≤ W * H ∧ (x5 = 0 ∨ x5 = 1) ∧ RT 2 st0 t' count stream ∧ TS L t' ∧ EqT ins insS ∧ ((m = W * H + 1 ∧ i = 0 ∧ x5 = 0 ∧ Option.bind (rr L F t') (fun q => rp L F W (W * H) 0 0 q.1 q.2 insS) = X) ∨ (m = W * H - i ∧ (x5 = 1 ∨ 0 < i) ∧ rp L F W (W * H - i) i (fl x5) 0 t' insS = X))) ?_ fu (W * H + 1) 0 0 count ins stream (by omega) ⟨0, t, fun _ => 0, rfl, by omega, Or.inl rfl, hR, hT, hE, Or.inl ⟨rfl, rfl, rfl, hX⟩⟩
  clear hE hR hT hX
  rintro rec m _ on count ins stream ⟨i, t', insS, rfl, hi, hon, hR, hT, hE, hX⟩ ih
  have hff : fl (fl on) = on := by rcases hon with rfl | rfl <;> rfl
  unfold m_Md_hearHead_k92
  refine ok_if (fun c => ?_) (fun c => ?_)
  · have := (nI_leI (by omega) (by omega)).mp c
    rcases hX with ⟨_, h1, _⟩ | ⟨_, _, h1⟩
    · omega
    · rw [show i = W * H by omega, Nat.sub_self] at h1
      have h2 : some (t', insS) = X := h1
      exact ok_some ⟨t', insS, h2.symm, hR, hT, hE⟩
  · have c1 : i < W * H := by
      rcases Nat.lt_or_ge i (W * H) with q | q
      · exact q
      · exact absurd (nI_le q (by omega)) c
    obtain ⟨n, hn⟩ : ∃ n, W * H - i = n + 1 := ⟨W * H - i - 1, by omega⟩
    refine ok_bn3 (hearRun_ok hfu hR hT hL hF) ?_
    rintro r count2 stream2 ⟨g, gs⟩
    dsimp only at gs
    rcases g with ⟨g1, g2⟩ | ⟨v, t2, g1, g2, g3, g4⟩
    · have hXn : X = none := by
        rcases hX with ⟨_, _, _, h1⟩ | ⟨_, _, h1⟩
        · rw [g1] at h1; exact h1.symm
        · rw [hn, rp_n g1] at h1; exact h1.symm
      exact ok_if (fun _ => ok_some ⟨hXn, gs⟩) (fun c => absurd g2 c)
    · dsimp only at g2 g4
      subst g2
      refine ok_if (fun c => absurd c (nI_nm1 (by omega))) (fun _ => ?_)
      -- the run is long enough, or the first
      have fin : ((m = W * H + 1 ∧ i = 0 ∧ on = 0) ∨ (m = W * H - i ∧ 0 < v)) → rp L F W (W * H - i) i on v t2 insS = X → Ok (m_Md_hearHead_b125 fu rec (nI (W * H)) (nI i) on (nI v) count2 (nI L) 2 h k (nI W) fed ins stream2) (Sum.elim (fun u => X = none ∧ u.2.2 = st0) (fun u => ∃ t' insS, X = some (t', insS) ∧ RT 2 st0 t' u.1 u.2.2 ∧ TS L t' ∧ EqT u.2.1 insS)) := by
        intro hm hX
        unfold m_Md_hearHead_b125 m_Md_hearHead_b198
        rw [nI_add]
        refine ok_if (fun c => ?_) (fun c => ?_)
        · have c2 : i + v ≤ W * H := (nI_leI (by omega) (by omega)).mp c
          refine ok_bn1 (hhead140 hfu hW0 hW hH hon c2 hE) ?_
          rintro ins2 hE2
          refine ok_letB ?_
          have e1 : W * H - i = (W * H - (i + v)) + v := by omega
          rw [e1, rp_fill, ← hff] at hX
          have key : ∀ o, o = fl on → Ok (rec (nI (i + v)) o count2 ins2 stream2) (Sum.elim (fun u => X = none ∧ u.2.2 = st0) (fun u => ∃ t' insS, X = some (t', insS) ∧ RT 2 st0 t' u.1 u.2.2 ∧ TS L t' ∧ EqT u.2.1 insS)) := by
            rintro _ rfl
            refine ih (W * H - (i + v)) _ _ _ _ _ (by omega) ⟨i + v, t2, _, rfl, c2, fl_01, g4.1, g4.2, hE2, Or.inr ⟨rfl, ?_, ?_⟩⟩
            · rcases hm with ⟨_, q1, q2⟩ | ⟨_, q⟩
              · rw [q2]; exact Or.inl rfl
              · exact Or.inr (by omega)
            · rw [hff] at hX ⊢
              exact hX
          exact ok_if (fun c3 => key _ (if_pos c3).symm) (fun c3 => key _ (if_neg c3).symm)
        · have c2 : W * H < i + v := by
            rcases Nat.lt_or_ge (W * H) (i + v) with q | q
            · exact q
            · exact absurd (nI_le q (by omega)) c
          rw [rp_over (by omega)] at hX
          exact ok_some ⟨hX.symm, gs⟩
      have bad : v = 0 → ¬ (i = 0 ∧ on = 0) → X = none := by
        intro v0 hno
        rcases hX with ⟨_, q1, q2, _⟩ | ⟨_, _, h1⟩
        · exact absurd ⟨q1, q2⟩ hno
        · subst v0
          rw [hn, rp_z g1] at h1
          exact h1.symm
      refine ok_if (fun c2 => ?_) (fun c2 => ?_)
      · have v0 : v = 0 := (nI_eq (b := 0) (by omega) (by decide)).mp c2
        refine ok_if (fun c3 => ?_) (fun c3 => ?_)
        · have : 0 < i := (nI_ltI (a := 0) (by decide) (by omega)).mp c3
          exact ok_some ⟨bad v0 (fun q => by omega), gs⟩
        · refine ok_if (fun c4 => ?_) (fun c4 => ok_some ⟨bad v0 (fun q => c4 q.2), gs⟩)
          have i0 : i = 0 := by
            rcases Nat.eq_zero_or_pos i with q | q
            · exact q
            · exact absurd (nI_lt (a := 0) q (by omega)) c3
          rcases hX with ⟨q0, q1, q2, h1⟩ | ⟨_, q2, _⟩
          · refine fin (Or.inl ⟨q0, q1, q2⟩) ?_
            rw [g1] at h1
            rw [q1, q2, Nat.sub_zero]
            exact h1
          · rcases q2 with q2 | q2
            · rw [q2] at c4; exact absurd c4 (by decide)
            · omega
      · have v0 : 0 < v := by
          rcases Nat.eq_zero_or_pos v with q | q
          · exact absurd (by rw [q]; rfl) c2
          · exact q
        rcases hX with ⟨q0, q1, q2, h1⟩ | ⟨q0, q2, h1⟩
        · refine fin (Or.inl ⟨q0, q1, q2⟩) ?_
          rw [g1] at h1
          rw [q1, q2, Nat.sub_zero]
          exact h1
        · refine fin (Or.inr ⟨q0, v0⟩) ?_
          rw [hn, rp_r g1 v0, hff] at h1
          rw [hn, rp_s v0]
          exact h1
theorem hearHead_ok {fu L : Nat} {F : Nat → Nat} {fed ins stream st0 : Nat → Int32} {h0 k0 w0 count : Int32} {t : Nat × (Nat → Nat)} (hfu : 600 < fu) (hL : L ≤ 19200) (hF : FD F fed) (hR : RT 2 st0 t count stream) (hT : TS L t) :
    Ok (m_Md_hearHead fu count (nI L) 2 h0 k0 w0 fed ins stream) (fun r => ((r.1 = 0 ∧ RH L F t = none) ∨ (r.1 = 1 ∧ ∃ W H k t' insS, RH L F t = some (W, H, k, t', insS) ∧ RT 2 st0 t' r.2.1 r.2.2.2.2.2.2 ∧ TS L t' ∧ r.2.2.1 = nI H ∧ r.2.2.2.1 = nI k ∧ r.2.2.2.2.1 = nI W ∧ EqT r.2.2.2.2.2.1 insS)) ∧ r.2.2.2.2.2.2 = st0) := by
  have hst : ∀ {t : Nat × (Nat → Nat)} {c : Int32} {s : Nat → Int32}, RT 2 st0 t c s → s = st0 := fun h => h.2.2 (by decide)
  unfold m_Md_hearHead
  refine ok_bn3 (hear_ok (k := 4) hfu (by decide) hR hT hL hF) ?_
  rintro a c1 s1 ⟨a1, a2, a3⟩
  refine ok_bn3 (hear_ok (k := 4) hfu (by decide) a2 a3 hL hF) ?_
  rintro b c2 s2 ⟨b1, b2, b3⟩
  refine ok_bn3 (hear_ok (k := 5) hfu (by decide) b2 b3 hL hF) ?_
  rintro c c3 s3 ⟨d1, d2, d3⟩
  have hh := H3_of (K := fun t => RT 2 st0 t c3 s3 ∧ TS L t) a1 b1 d1 ⟨d2, d3⟩
  have hs3 : s3 = st0 := hst d2
  clear a1 b1 d1 a2 b2 d2 a3 b3 d3
  unfold m_Md_hearHead_b38
  rcases hh with ⟨h1, h2⟩ | ⟨w, h, k, t3, h1, h2, h3, rfl, rfl, rfl, h4, h5⟩
  · refine ok_if (fun _ => ok_some ⟨Or.inl ⟨rfl, h1⟩, hs3⟩) (fun c => ok_if (fun c2 => ?_) (fun _ => ok_some ⟨Or.inl ⟨rfl, h1⟩, hs3⟩))
    rcases h2 with h2 | ⟨k, k1, k2, h2⟩
    · exact absurd h2 c
    · dsimp only at h2; rw [h2] at c2; exact absurd c2 (nI20 k1 k2)
  · refine ok_if (fun c => absurd c (nI_nm1 (by omega))) (fun _ => ok_if (fun _ => ?_) (fun c => absurd (nI_le (b := 20) h3 (by decide)) c))
    refine ok_letB (ok_letB ?_)
    rw [nI_1, nI_1]
    refine ok_bn1 (hhead56 hfu) ?_
    rintro i0 hi0
    refine ok_letB ?_
    rw [pk_mul]
    refine ok_sm2 (hhead92 (W := w + 1) (H := h + 1) hfu (by omega) (by omega) (by omega) (by omega) hL hF hi0 h4.1 h4.2) ?_ ?_
    · rintro ⟨c, i, s⟩ ⟨q1, q2⟩
      rw [q1] at h5
      exact ok_some ⟨Or.inl ⟨rfl, h5⟩, q2⟩
    · rintro ⟨c, i, s⟩ ⟨t', insS, q1, q2, q3, q4⟩
      rw [q1] at h5
      exact ok_some ⟨Or.inr ⟨rfl, w + 1, h + 1, k, t', insS, h5, q2, q3, rfl, rfl, rfl, q4⟩, hst q2⟩
