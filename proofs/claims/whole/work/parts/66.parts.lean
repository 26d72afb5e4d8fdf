theorem spread_ok {fu : Nat} {ins : Nat → Int32} {cnt parts : Int32} {k W H : Nat} {f z q P : Nat → Int32} (hfu : 600 < fu) (hW : W ≤ 16) (hH : H ≤ 16) (hO : Out W H ins) (h : FP ins k cnt parts f P z) (hk : k < 256) (hi : ins k ≠ 0) (h0 : P k = -1) :
    Ok (m_Shape_spread fu (nI k) cnt (nI H) parts (nI W) f ins P q z) (fun r => FP ins (k + 1) r.1 r.2.1 r.2.2.1 r.2.2.2.1 r.2.2.2.2.2) := by
  have hlk : (lab ins k).1 k = -1 := by rw [← h.part k hk]; exact h0
  have hl := lab_le ins k
  have hp := h.parts
  have hn : parts ≠ -1 := by rw [hp]; exact nI_nm1 (by omega)
  have hC : Cls ins P := by
    have := (LB.mk0 ins k (by omega)).cls
    refine ⟨fun a ha hPa => this.1 a ha (by rw [← h.part a ha]; exact hPa), fun a b ha hPa hab hb => ?_⟩
    rw [h.part b (adj_lt ha hab)]
    exact this.2 a b ha (by rw [← h.part a ha]; exact hPa) hab hb
  have hj : m_Shape_join fu (nI k) 0 parts ins P q = some (nI 1, upd P k parts, upd q 0 (nI k)) := by
    unfold m_Shape_join
    have hcl : (nI k).toNatClampNeg = k := nI_clamp (by omega)
    rw [hcl, chk_ok (vp_nI hk), if_neg hi, chk_ok (vp_nI hk), if_pos h0, if_pos (by decide), chk_ok (vp_nI hk), chk_ok (show vp_in 0 256 from vp_nI (n := 0) (N := 256) (by decide))]
    rfl
  unfold m_Shape_spread
  rw [bn3_eq hj]
  refine ok_bn3 (spread_k9 (P0 := P) (s := k) hfu hn hW hH hO ⟨Fl.start h0 hi, pk_us, cn_upd hk h0 hn, fun t ht => ?_, fun c hc c0 cP => ?_⟩) ?_
  · have : t = 0 := by omega
    subst this
    exact ⟨k, hk, pk_us, h0, by rw [pk_us]; exact hn⟩
  · by_cases e : c = k
    · subst e; exact ⟨0, by omega, pk_us⟩
    · rw [pk_un e] at cP; exact absurd c0 cP
  · rintro a1 a2 a3 ⟨e, e1, g1, g2⟩
    dsimp only at e1 g1 g2
    subst e1
    have hd := Fl.done hk hn h0 hi hC g1.2.1 g1.1 g2
    have hv : vp_in parts 256 := by rw [hp]; exact vp_nI (by omega)
    refine ok_chk hv (ok_chk hv (ok_letB (ok_letB (ok_some ?_))))
    refine h.hit hk hi hlk (fun j hj => ⟨fun r => ?_, fun r => ?_⟩) ?_
    · exact ((hd.1 j hj).1 r).1.trans hp
    · exact ((hd.1 j hj).2 r).trans (h.part j hj)
    · exact g1.2.2.1.trans (by rw [cn_congr (fun j hj => h.part j hj)])
theorem samp_eq (fu : Nat) (x y : Nat) : m_FW_sampleOf fu (nI x) (nI y) = some (nI (16 * y + x)) := by
  unfold m_FW_sampleOf
  rw [show (16 : Int32) = nI 16 from rfl, pk_mul, nI_add, Nat.mul_comm]
theorem find_k30 {fu : Nat} {ins : Nat → Int32} {cnt parts : Int32} {y W H : Nat} {f z q P : Nat → Int32} (hfu : 600 < fu) (hW : W ≤ 16) (hH : H ≤ 16) (hO : Out W H ins) (hy : y < H) (h : FP ins (16 * y) cnt parts f P z) :
    Ok (loop7 (m_Shape_findParts_k30 fu (nI y) (nI H) (nI W) ins) fu 0 cnt parts f P q z) (fun r => FP ins (16 * (y + 1)) r.1 r.2.1 r.2.2.1 r.2.2.2.1 r.2.2.2.2.2) := by
  refine ok_loop7 (fun m x2 cnt parts f P q z => ∃ x, x2 = nI x ∧ x ≤ W ∧ m = W - x ∧ FP ins (16 * y + x) cnt parts f P z) ?_ fu W 0 cnt parts f P q z (by omega) ⟨0, rfl, by omega, rfl, h⟩
  clear h
  rintro rec m x2 cnt parts f P q z ⟨x, rfl, hx, hm, h⟩ ih
  unfold m_Shape_findParts_k30
  refine ok_if (fun c => ?_) (fun c => ?_)
  · have : W ≤ x := (nI_leI (by omega) (by omega)).mp c
    have : x = W := by omega
    subst this
    refine ok_some (h.miss (lab_skip (by omega) (fun j h1 h2 => hO j (by omega) (by omega))))
  · have hx2 : x < W := by
      rcases Nat.lt_or_ge x W with q | q
      · exact q
      · exact absurd (nI_le q (by omega)) c
    rw [bn1_eq (samp_eq fu x y), nI_clamp (by omega)]
    have hk : 16 * y + x < 256 := by omega
    have next : ∀ cnt parts f P q z, FP ins (16 * y + x + 1) cnt parts f P z → Ok (m_Shape_findParts_b78 fu rec (nI y) (nI x) cnt (nI H) parts (nI W) f ins P q z) (fun r => FP ins (16 * (y + 1)) r.1 r.2.1 r.2.2.1 r.2.2.2.1 r.2.2.2.2.2) := by
      intro cnt parts f P q z g
      unfold m_Shape_findParts_b78
      refine ok_letB ?_
      rw [nI_1]
      exact ih (W - (x + 1)) _ _ _ _ _ _ _ (by omega) ⟨x + 1, rfl, by omega, rfl, g⟩
    refine ok_chk (vp_nI hk) ?_
    refine ok_if (fun c2 => next _ _ _ _ _ _ (h.miss (lab_miss (Or.inl c2)))) (fun c2 => ok_chk (vp_nI hk) ?_)
    refine ok_if (fun c3 => ?_) (fun c3 => next _ _ _ _ _ _ (h.miss (lab_miss (Or.inr (by rw [← h.part _ hk]; exact c3)))))
    have hl := lab_le ins (16 * y + x)
    refine ok_if (fun c4 => ?_) (fun _ => ?_)
    · exfalso
      rw [h.parts] at c4
      have := (nI_leI (a := 256) (by decide) (by omega)).mp c4
      omega
    refine ok_bn6 (spread_ok hfu hW hH hO h hk c2 c3) ?_
    intro a1 a2 a3 a4 a5 a6 g
    exact next _ _ _ _ _ _ g
theorem fill_ok {fu N : Nat} {v : Int32} {a : Nat → Int32} (hN : N < 30000) (hfu : N < fu) : Ok (m_Arrays_fill fu N v a) (fun r => (∀ j, j < N → r j = v) ∧ ∀ j, N ≤ j → r j = a j) := by
  unfold m_Arrays_fill
  refine ok_letB ?_
  refine ok_bn1 (Q := fun r => (∀ j, j < N → r j = v) ∧ ∀ j, N ≤ j → r j = a j) ?_ (fun r h => ok_some h)
  refine ok_loop2 (fun m x2 b => ∃ k, x2 = nI k ∧ k ≤ N ∧ m = N - k ∧ (∀ j, j < k → b j = v) ∧ ∀ j, N ≤ j → b j = a j) ?_ fu N 0 a (by omega) ⟨0, rfl, by omega, rfl, fun j h => absurd h (Nat.not_lt_zero _), fun j h => rfl⟩
  rintro rec m x2 b ⟨k, rfl, hk, hm, h1, h2⟩ ih
  unfold m_Arrays_fill_k5
  refine ok_if (fun c => ?_) (fun c => ?_)
  · have : N ≤ k := (nI_leI (by omega) (by omega)).mp c
    exact ok_some ⟨fun j hj => h1 j (by omega), h2⟩
  · have hk2 : k < N := by
      rcases Nat.lt_or_ge k N with q | q
      · exact q
      · exact absurd (nI_le q (by omega)) c
    refine ok_chk (vp_nI hk2 (by omega)) (ok_letB ?_)
    rw [nI_1, nI_clamp (by omega)]
    refine ih (N - (k + 1)) _ _ (by omega) ⟨k + 1, rfl, by omega, rfl, fun j hj => ?_, fun j hj => ?_⟩
    · by_cases e : j = k
      · subst e; exact pk_us
      · rw [pk_un e]; exact h1 j (by omega)
    · rw [pk_un (by omega)]; exact h2 j hj
theorem find_ok {fu : Nat} {ins : Nat → Int32} {cnt parts : Int32} {W H : Nat} {f z q P : Nat → Int32} (hfu : 600 < fu) (hW : W ≤ 16) (hH : H ≤ 16) (hO : Out W H ins) :
    Ok (m_Shape_findParts fu cnt (nI H) parts (nI W) f ins P q z) (fun r => FP ins 256 r.1 r.2.1 r.2.2.1 r.2.2.2.1 r.2.2.2.2.2) := by
  unfold m_Shape_findParts
  refine ok_bn1 (fill_ok (by decide) (by omega)) (fun P1 h1 => ?_)
  refine ok_bn6 (Q := fun r => FP ins 256 r.1 r.2.1 r.2.2.1 r.2.2.2.1 r.2.2.2.2.2) ?_ (fun a1 a2 a3 a4 a5 a6 g => ok_some g)
  refine ok_loop7 (fun m x1 cnt parts f P q z => ∃ y, x1 = nI y ∧ y ≤ H ∧ m = H - y ∧ FP ins (16 * y) cnt parts f P z) ?_ fu H 0 0 0 f P1 q z (by omega) ⟨0, rfl, by omega, rfl, FP.zero h1.1⟩
  rintro rec m x1 cnt parts f P q z ⟨y, rfl, hy, hm, h⟩ ih
  unfold m_Shape_findParts_k20
  refine ok_if (fun c => ?_) (fun c => ?_)
  · have : H ≤ y := (nI_leI (by omega) (by omega)).mp c
    exact ok_some (h.miss (lab_skip (by omega) (fun j h1 h2 => hO j (by omega) (by omega))))
  · have hy2 : y < H := by
      rcases Nat.lt_or_ge y H with q | q
      · exact q
      · exact absurd (nI_le q (by omega)) c
    refine ok_bn6 (find_k30 hfu hW hH hO hy2 h) ?_
    intro a1 a2 a3 a4 a5 a6 g
    refine ok_letB ?_
    rw [nI_1]
    exact ih (H - (y + 1)) _ _ _ _ _ _ _ (by omega) ⟨y + 1, rfl, by omega, rfl, g⟩
theorem nar_b0 : vp_nar .boolean (0 : Int32) = 0 := by rfl
theorem resize_ok {fu : Nat} {ins : Nat → Int32} {cnt parts h0 w0 : Int32} {W H : Nat} {f z q P : Nat → Int32} (hfu : 600 < fu) (hW : W ≤ 16) (hH : H ≤ 16) :
    Ok (m_Shape_resize fu (nI W) (nI H) cnt h0 parts w0 f ins P q z) (fun r => r.2.1 = nI H ∧ r.2.2.2.1 = nI W ∧ (∀ j, j < 256 → r.2.2.2.2.2.1 j = 0) ∧ FP r.2.2.2.2.2.1 256 r.1 r.2.2.1 r.2.2.2.2.1 r.2.2.2.2.2.2.1 r.2.2.2.2.2.2.2.2) := by
  unfold m_Shape_resize
  refine ok_bn1 (Q := fun r => ∀ j, j < 256 → r j = 0) ?_ (fun i1 g1 => ?_)
  · refine ok_loop2 (fun m x3 b => ∃ k, x3 = nI k ∧ k ≤ 256 ∧ m = 256 - k ∧ ∀ j, j < k → b j = 0) ?_ fu 256 0 ins (by omega) ⟨0, rfl, by omega, rfl, fun j h => absurd h (Nat.not_lt_zero _)⟩
    rintro rec m x2 b ⟨k, rfl, hk, hm, h1⟩ ih
    unfold m_Shape_resize_k12
    refine ok_if (fun c => ?_) (fun c => ?_)
    · have : 256 ≤ k := (nI_leI (a := 256) (by decide) (by omega)).mp c
      exact ok_some (fun j hj => h1 j (by omega))
    · have hk2 : k < 256 := by
        rcases Nat.lt_or_ge k 256 with q | q
        · exact q
        · exact absurd (nI_le q (by omega)) c
      refine ok_chk (vp_nI hk2 (by omega)) (ok_letB ?_)
      rw [nI_1, nI_clamp (by omega), nar_b0]
      refine ih (256 - (k + 1)) _ _ (by omega) ⟨k + 1, rfl, by omega, rfl, fun j hj => ?_⟩
      by_cases e : j = k
      · subst e; exact pk_us
      · rw [pk_un e]; exact h1 j (by omega)
  · refine ok_bn6 (find_ok hfu hW hH (fun a ha _ => g1 a ha)) ?_
    intro a1 a2 a3 a4 a5 a6 g
    exact ok_some ⟨rfl, rfl, g1, g⟩
