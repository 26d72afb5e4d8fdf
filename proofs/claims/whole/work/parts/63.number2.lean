theorem number_k66 {fu : Nat} {ins P0 : Nat → Int32} {n x4 : Int32} {s : Nat} (hfu : 600 < fu) (hn : n ≠ -1) {pile P : Nat → Int32} (hS : NS ins P0 n s 512 1 pile P) (hP : NP ins P0 1 pile P (fun _ => False)) :
      Ok (loop3 (m_Md_number_k66 fu n x4 ins) fu 1 pile P) (fun r => Fl ins P0 n s r.2 ∧ r.2 s = n ∧ ∀ a, a < 256 → P0 a = -1 → r.2 a ≠ -1 → Dn ins r.2 a) := by
  refine ok_loop3 (fun m x5 pile P => ∃ lf, x5 = nI lf ∧ NS ins P0 n s m lf pile P ∧ NP ins P0 lf pile P (fun _ => False)) ?_ fu 512 1 pile P (by omega) ⟨1, rfl, hS, hP⟩
  clear hS hP
  rintro rec m x5 pile P ⟨lf, rfl, hS, hP⟩ ih
  unfold m_Md_number_k66
  have hlf : lf ≤ 256 := Nat.le_trans hS.2.2.1 (cn_le _ _)
  refine ok_if (fun c1 => ?_) (fun c1 => ?_)
  · have h0 : lf ≤ 0 := (nI_leI (b := 0) (by omega) (by decide)).mp c1
    refine ok_some ⟨hS.1, hS.2.1, ?_⟩
    intro a ha h0a hPa
    rcases hP a ha h0a hPa with q | q | ⟨t, q, _⟩
    · exact absurd q id
    · exact q
    · omega
  · have h0 : 0 < lf := by
      rcases Nat.eq_zero_or_pos lf with q | q
      · subst q; exact absurd (nI_le (Nat.le_refl 0) (by decide)) c1
      · exact q
    obtain ⟨k, rfl⟩ : ∃ k, lf = k + 1 := ⟨lf - 1, by omega⟩
    refine ok_letB ?_
    rw [pk_m1]
    refine ok_chk (vp_nI (by omega)) ?_
    rw [nI_clamp (by omega)]
    obtain ⟨h1, h2, h3, h4, h5⟩ := hS
    obtain ⟨c, hc, hpc, hc0, hcP⟩ := h5 k (by omega)
    refine ok_letB ?_
    rw [hpc]
    have hS' : NS ins P0 n s (m - 1) k pile P := ⟨h1, h2, by omega, by omega, fun t ht => h5 t (by omega)⟩
    have hP' : NP ins P0 k pile P (fun d => d = c) := by
      intro d hd hd0 hdP
      rcases hP d hd hd0 hdP with q | q | ⟨t, q1, q2⟩
      · exact absurd q id
      · exact Or.inr (Or.inl q)
      · by_cases e : t = k
        · subst e
          rw [hpc] at q2
          exact Or.inl ((nI_eq (by omega) (by omega)).mp q2).symm
        · exact Or.inr (Or.inr ⟨t, by omega, q2⟩)
    refine ok_bn3 (number_k86 (by omega) hn hc hc0 k pile P hS' hP' hcP) ?_
    rintro a1 a2 a3 ⟨lf', e1, g1, g2⟩
    exact ih (m - 1) a1 a2 a3 (by omega) ⟨lf', e1, g1, g2⟩
theorem lab_skip {ins : Nat → Int32} {k m : Nat} (h : k ≤ m) (hz : ∀ j, k ≤ j → j < m → ins j = 0) : lab ins m = lab ins k := by
  induction m with
  | zero => have : k = 0 := by omega
            subst this; rfl
  | succ m ih =>
    by_cases e : k = m + 1
    · subst e; rfl
    · rw [lab_miss (Or.inl (hz m (by omega) (by omega))), ih (by omega) (fun j h1 h2 => hz j h1 (by omega))]
theorem number_k24 {fu : Nat} {ins : Nat → Int32} (hfu : 600 < fu) {pile P : Nat → Int32} (hP : ∀ j, P j = -1 ∨ 256 ≤ j) :
      Ok (loop4 (m_Md_number_k24 fu ins) fu 0 0 pile P) (fun r => r.1 = nI (lab ins 256).2 ∧ ∀ j, j < 256 → r.2.2 j = (lab ins 256).1 j) := by
  have hP0 : ∀ j, j < 256 → P j = -1 := fun j hj => (hP j).resolve_right (by omega)
  refine ok_loop4 (fun m x3 x4 pile P => ∃ k, x4 = nI k ∧ k ≤ 256 ∧ m = 256 - k ∧ x3 = nI (lab ins k).2 ∧ (∀ j, j < 256 → P j = (lab ins k).1 j) ∧ Cls ins P) ?_ fu 256 0 0 pile P (by omega) ⟨0, rfl, by omega, rfl, rfl, fun j hj => hP0 j hj, fun a ha h => absurd (hP0 a ha) h, fun a b ha h => absurd (hP0 a ha) h⟩
  clear hP hP0
  rintro rec m x3 x4 pile P ⟨k, rfl, hk, hm, rfl, hL, hC⟩ ih
  unfold m_Md_number_k24
  have hl := lab_le ins k
  refine ok_if (fun c1 => ?_) (fun c1 => ?_)
  · have h0 : 256 ≤ k := (nI_leI (a := 256) (by decide) (by omega)).mp c1
    have : k = 256 := by omega
    subst this
    exact ok_some ⟨rfl, hL⟩
  · have hk2 : k < 256 := by
      rcases Nat.lt_or_ge k 256 with q | q
      · exact q
      · exact absurd (nI_le q (by omega)) c1
    have hcl : (nI k).toNatClampNeg = k := nI_clamp (by omega)
    have next : ∀ (P' pile' : Nat → Int32), (∀ j, j < 256 → P' j = (lab ins (k + 1)).1 j) → Cls ins P' → Ok (m_Md_number_b151 fu rec (nI (lab ins (k + 1)).2) (nI k) pile' ins P') (fun r => r.1 = nI (lab ins 256).2 ∧ ∀ j, j < 256 → r.2.2 j = (lab ins 256).1 j) := by
      intro P' pile' g1 g2
      unfold m_Md_number_b151
      refine ok_letB ?_
      rw [nI_1]
      exact ih (256 - (k + 1)) _ _ _ _ (by omega) ⟨k + 1, rfl, by omega, rfl, rfl, g1, g2⟩
    refine ok_chk (vp_nI hk2) ?_
    rw [hcl]
    refine ok_if (fun c2 => ?_) (fun c2 => ?_)
    · have e := lab_miss (k := k) (Or.inl c2)
      have := next P pile (by rw [e]; exact hL) hC
      rw [e] at this; exact this
    · refine ok_chk (vp_nI hk2) ?_
      refine ok_if (fun c3 => ?_) (fun c3 => ?_)
      · refine ok_chk (vp_nI hk2) (ok_chk (vp_nI (n := 0) (by omega)) ?_)
        have hlk : (lab ins k).1 k = -1 := by rw [← hL k hk2]; exact c3
        have hn : nI (lab ins k).2 ≠ -1 := nI_nm1 (by omega)
        have e0 : (0 : Int32).toNatClampNeg = 0 := nI_clamp (n := 0) (by omega)
        rw [e0]
        have hcu := cn_upd (v := nI (lab ins k).2) hk2 c3 hn
        have hcl := cn_lt hk2 c3
        refine ok_bn2 (number_k66 (P0 := P) (s := k) hfu hn ⟨Fl.start c3 c2, pk_us, by omega, by omega, ?_⟩ ?_) ?_
        · intro t ht
          have : t = 0 := by omega
          subst this
          exact ⟨k, hk2, pk_us, c3, by rw [pk_us]; exact hn⟩
        · intro c hc h0 h1
          by_cases e : c = k
          · subst e; exact Or.inr (Or.inr ⟨0, by omega, pk_us⟩)
          · rw [pk_un e] at h1; exact absurd h0 h1
        · rintro a1 a2 ⟨g1, g2, g3⟩
          have hd := Fl.done hk2 hn c3 c2 hC g2 g1 g3
          have hh := lab_hit c2 hlk
          refine ok_letB ?_
          rw [nI_1, ← hh.1]
          refine next a2 a1 (fun j hj => ?_) hd.2
          by_cases e : Rch ins k j
          · exact ((hd.1 j hj).1 e).1.trans ((hh.2 j).1 e).symm
          · exact ((hd.1 j hj).2 e).trans ((hL j hj).trans ((hh.2 j).2 e).symm)
      · have e := lab_miss (k := k) (Or.inr (by rw [← hL k hk2]; exact c3))
        have := next P pile (by rw [e]; exact hL) hC
        rw [e] at this; exact this
theorem number_k2 {fu : Nat} {pile ins P : Nat → Int32} (hfu : 600 < fu) : Ok (loop2 (m_Md_number_k2 fu pile ins) fu 0 P) (fun r => ∀ j, r j = -1 ∨ 256 ≤ j) := by
  refine ok_loop2 (fun m x3 P => ∃ k, x3 = nI k ∧ k ≤ 256 ∧ m = 256 - k ∧ ∀ j, j < k → P j = -1) ?_ fu 256 0 P (by omega) ⟨0, rfl, by omega, rfl, fun j h => absurd h (Nat.not_lt_zero _)⟩
  rintro rec m x3 P ⟨k, rfl, hk, hm, hP⟩ ih
  unfold m_Md_number_k2
  refine ok_if (fun c1 => ?_) (fun c1 => ?_)
  · have h0 : 256 ≤ k := (nI_leI (a := 256) (by decide) (by omega)).mp c1
    refine ok_some (fun j => ?_)
    rcases Nat.lt_or_ge j 256 with q | q
    · exact Or.inl (hP j (by omega))
    · exact Or.inr q
  · have hk2 : k < 256 := by
      rcases Nat.lt_or_ge k 256 with q | q
      · exact q
      · exact absurd (nI_le q (by omega)) c1
    refine ok_chk (vp_nI hk2) (ok_letB ?_)
    rw [nI_1, nI_clamp (by omega)]
    refine ih (256 - (k + 1)) _ _ (by omega) ⟨k + 1, rfl, by omega, rfl, fun j hj => ?_⟩
    by_cases e : j = k
    · subst e; exact pk_us
    · rw [pk_un e]; exact hP j (by omega)
theorem number_ok {fu : Nat} {pile ins P : Nat → Int32} (hfu : 600 < fu) : Ok (m_Md_number fu pile ins P) (fun r => r.1 = nI (lab ins 256).2 ∧ ∀ j, j < 256 → r.2.2 j = (lab ins 256).1 j) := by
  unfold m_Md_number
  refine ok_bn1 (number_k2 hfu) (fun P1 h1 => ?_)
  refine ok_bn3 (number_k24 hfu h1) ?_
  rintro a1 a2 a3 ⟨h1, h2⟩
  exact ok_some ⟨h1, h2⟩
