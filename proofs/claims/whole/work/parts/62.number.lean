noncomputable def lab (ins : Nat → Int32) : Nat → (Nat → Int32) × Nat
  | 0 => (fun _ => -1, 0)
  | k + 1 => @ite _ (ins k ≠ 0 ∧ (lab ins k).1 k = -1) (Classical.propDecidable _) (fun j => @ite _ (Rch ins k j) (Classical.propDecidable _) (nI (lab ins k).2) ((lab ins k).1 j), (lab ins k).2 + 1) (lab ins k)
theorem lab_le (ins : Nat → Int32) (k : Nat) : (lab ins k).2 ≤ k := by
  induction k with
  | zero => exact Nat.le_refl _
  | succ k ih =>
    by_cases h : ins k ≠ 0 ∧ (lab ins k).1 k = -1
    · rw [lab, if_pos h]; show (lab ins k).2 + 1 ≤ k + 1; omega
    · rw [lab, if_neg h]; omega
theorem lab_hit {ins : Nat → Int32} {k : Nat} (h1 : ins k ≠ 0) (h2 : (lab ins k).1 k = -1) : (lab ins (k + 1)).2 = (lab ins k).2 + 1 ∧ ∀ j, (Rch ins k j → (lab ins (k + 1)).1 j = nI (lab ins k).2) ∧ (¬ Rch ins k j → (lab ins (k + 1)).1 j = (lab ins k).1 j) := by
  rw [lab, if_pos ⟨h1, h2⟩]
  exact ⟨rfl, fun j => ⟨fun h => if_pos h, fun h => if_neg h⟩⟩
theorem lab_miss {ins : Nat → Int32} {k : Nat} (h : ins k = 0 ∨ (lab ins k).1 k ≠ -1) : lab ins (k + 1) = lab ins k := by
  rw [lab, if_neg]
  rintro ⟨h1, h2⟩
  rcases h with h | h
  · exact h1 h
  · exact h h2
theorem nI_nm1 {n : Nat} (h : n < 2 ^ 31) : nI n ≠ -1 := by
  intro e
  have h1 := nI_toInt h
  rw [e] at h1
  have h2 : (-1 : Int32).toInt = -1 := by decide
  omega
def NS (ins P0 : Nat → Int32) (n : Int32) (s M lf : Nat) (pile P : Nat → Int32) : Prop := Fl ins P0 n s P ∧ P s = n ∧ lf ≤ cn P 256 ∧ 2 * (256 - cn P 256) + lf ≤ M ∧ ∀ t, t < lf → ∃ c, c < 256 ∧ pile t = nI c ∧ P0 c = -1 ∧ P c ≠ -1
def NP (ins P0 : Nat → Int32) (lf : Nat) (pile P : Nat → Int32) (x : Nat → Prop) : Prop := ∀ c, c < 256 → P0 c = -1 → P c ≠ -1 → x c ∨ Dn ins P c ∨ ∃ t, t < lf ∧ pile t = nI c
theorem NS.push {ins P0 : Nat → Int32} {n : Int32} {s M lf a b : Nat} {pile P : Nat → Int32} (hn : n ≠ -1) (h : NS ins P0 n s M lf pile P) (ha : a < 256) (h0 : P0 a = -1) (hPa : P a ≠ -1) (hab : adj a b) (hb : ins b ≠ 0) (hPb : P b = -1) : NS ins P0 n s M (lf + 1) (upd pile lf (nI b)) (upd P b n) := by
  obtain ⟨h1, h2, h3, h4, h5⟩ := h
  have hb2 := adj_lt ha hab
  have hc := cn_upd (v := n) hb2 hPb hn
  have hl := cn_lt hb2 hPb
  refine ⟨h1.add ha h0 hPa hab hb hPb, ?_, by omega, by omega, ?_⟩
  · by_cases e : s = b
    · subst e; exact pk_us
    · rw [pk_un e]; exact h2
  · intro t ht
    by_cases e : t = lf
    · subst e
      refine ⟨b, hb2, pk_us, ?_, by rw [pk_us]; exact hn⟩
      rcases h1 b hb2 with q | q
      · rw [← q]; exact hPb
      · exact q.1
    · obtain ⟨c, c1, c2, c3, c4⟩ := h5 t (by omega)
      refine ⟨c, c1, by rw [pk_un e]; exact c2, c3, ?_⟩
      by_cases e2 : c = b
      · subst e2; exact absurd hPb c4
      · rw [pk_un e2]; exact c4
theorem NP.push {ins P0 : Nat → Int32} {n : Int32} {lf b : Nat} {pile P : Nat → Int32} {x : Nat → Prop} (hn : n ≠ -1) (h : NP ins P0 lf pile P x) : NP ins P0 (lf + 1) (upd pile lf (nI b)) (upd P b n) x := by
  intro c hc h0 hP
  by_cases e : c = b
  · subst e; exact Or.inr (Or.inr ⟨lf, by omega, pk_us⟩)
  · rw [pk_un e] at hP
    rcases h c hc h0 hP with q | q | ⟨t, q1, q2⟩
    · exact Or.inl q
    · exact Or.inr (Or.inl (q.mono hn))
    · exact Or.inr (Or.inr ⟨t, by omega, by rw [pk_un (by omega)]; exact q2⟩)
theorem number_k86 {fu : Nat} {ins P0 : Nat → Int32} {n x4 : Int32} {s M a : Nat} (hfu : 10 < fu) (hn : n ≠ -1) (ha : a < 256) (h0 : P0 a = -1) :
    ∀ (lf : Nat) (pile P : Nat → Int32), NS ins P0 n s M lf pile P → NP ins P0 lf pile P (fun c => c = a) → P a ≠ -1 →
      Ok (loop4 (m_Md_number_k86 fu n x4 (nI a) ins) fu (nI lf) 0 pile P) (fun r => ∃ lf', r.1 = nI lf' ∧ NS ins P0 n s M lf' r.2.1 r.2.2 ∧ NP ins P0 lf' r.2.1 r.2.2 (fun _ => False)) := by
  intro lf pile P hS hP hPa
  refine ok_loop4 (fun m x5 x7 pile P => ∃ lf w, x5 = nI lf ∧ x7 = nI w ∧ w ≤ 4 ∧ m = 4 - w ∧ NS ins P0 n s M lf pile P ∧ NP ins P0 lf pile P (fun c => c = a) ∧ P a ≠ -1 ∧ ∀ w' b, w' < w → nbr a w' = some b → ins b ≠ 0 → P b ≠ -1) ?_ fu 4 (nI lf) 0 pile P (by omega) ⟨lf, 0, rfl, rfl, by omega, rfl, hS, hP, hPa, fun w' b h => absurd h (Nat.not_lt_zero _)⟩
  clear hS hP hPa
  rintro rec m x5 x7 pile P ⟨lf, w, rfl, rfl, hw, hm, hS, hP, hPa, hww⟩ ih
  unfold m_Md_number_k86
  have hlf : lf ≤ 256 := Nat.le_trans hS.2.2.1 (cn_le _ _)
  refine ok_if (fun c1 => ?_) (fun c1 => ?_)
  · have hw4 : w = 4 := by
      have : 4 ≤ w := (nI_leI (a := 4) (by decide) (by omega)).mp c1
      omega
    subst hw4
    refine ok_some ⟨lf, rfl, hS, ?_⟩
    intro c hc hc0 hcP
    rcases hP c hc hc0 hcP with q | q
    · subst q
      refine Or.inr (Or.inl ?_)
      intro b hb hi
      obtain ⟨w', h1, h2⟩ := adj_nbr hc hb
      exact hww w' b h1 h2 hi
    · exact Or.inr q
  · have hw4 : w < 4 := by
      rcases Nat.lt_or_ge w 4 with q | q
      · exact q
      · exact absurd (nI_le q (by omega)) c1
    rw [bn1_eq (beside_eq fu ha hw4)]
    have next : ∀ (lf' : Nat) (pile' P' : Nat → Int32), NS ins P0 n s M lf' pile' P' → NP ins P0 lf' pile' P' (fun c => c = a) → P' a ≠ -1 → (∀ w' b, w' < w + 1 → nbr a w' = some b → ins b ≠ 0 → P' b ≠ -1) → Ok (m_Md_number_b139 fu rec n x4 (nI lf') (nI a) (nI w) pile' ins P') (fun r => ∃ lf', r.1 = nI lf' ∧ NS ins P0 n s M lf' r.2.1 r.2.2 ∧ NP ins P0 lf' r.2.1 r.2.2 (fun _ => False)) := by
      intro lf' pile' P' g1 g2 g3 g4
      unfold m_Md_number_b139
      refine ok_letB ?_
      rw [nI_1]
      exact ih (4 - (w + 1)) _ _ _ _ (by omega) ⟨lf', w + 1, rfl, rfl, by omega, rfl, g1, g2, g3, g4⟩
    cases hnb : nbr a w with
    | none =>
      refine ok_if (fun _ => ?_) (fun c2 => absurd rfl c2)
      refine next lf pile P hS hP hPa (fun w' b h1 h2 h3 => ?_)
      by_cases e : w' = w
      · subst e; rw [hnb] at h2; cases h2
      · exact hww w' b (by omega) h2 h3
    | some b =>
      have hab := nbr_adj ha hnb
      have hb := adj_lt ha hab
      have keep : ∀ P' : Nat → Int32, (∀ c, P c ≠ -1 → P' c ≠ -1) → (ins b ≠ 0 → P' b ≠ -1) → ∀ w' b', w' < w + 1 → nbr a w' = some b' → ins b' ≠ 0 → P' b' ≠ -1 := by
        intro P' k1 k2 w' b' h1 h2 h3
        by_cases e : w' = w
        · subst e; rw [hnb] at h2; cases h2; exact k2 h3
        · exact k1 _ (hww w' b' (by omega) h2 h3)
      have hcl : (nI b).toNatClampNeg = b := nI_clamp (by omega)
      refine ok_if (fun c2 => absurd c2 (nI_nm1 (by omega))) (fun _ => ?_)
      refine ok_chk (vp_nI hb) ?_
      show Ok (if ins (nI b).toNatClampNeg = 0 then _ else _) _
      rw [hcl]
      refine ok_if (fun c3 => next lf pile P hS hP hPa (keep P (fun _ h => h) (fun h => absurd c3 h))) (fun c3 => ?_)
      refine ok_chk (vp_nI hb) ?_
      show Ok (if P (nI b).toNatClampNeg = -1 then _ else _) _
      rw [hcl]
      refine ok_if (fun c4 => ?_) (fun c4 => next lf pile P hS hP hPa (keep P (fun _ h => h) (fun _ => c4)))
      have hlt := cn_lt hb c4
      refine ok_chk (vp_nI hb) (ok_chk (vp_nI (by have := hS.2.2.1; omega)) (ok_letB ?_))
      show Ok (m_Md_number_b139 fu rec n x4 (nI lf + 1) (nI a) (nI w) (upd pile (nI lf).toNatClampNeg (nI b)) ins (upd P (nI b).toNatClampNeg n)) _
      rw [nI_1, nI_clamp (by omega), hcl]
      refine next (lf + 1) _ _ (hS.push hn ha h0 hPa hab c3 c4) (hP.push hn) ?_ (keep _ (fun c h => ?_) (fun _ => by rw [pk_us]; exact hn))
      · by_cases e : a = b
        · subst e; rw [pk_us]; exact hn
        · rw [pk_un e]; exact hPa
      · by_cases e : c = b
        · subst e; rw [pk_us]; exact hn
        · rw [pk_un e]; exact h
