theorem lift_ok {fu st B : Nat} {L v : Nat → Int32} {ac od bk : Int32} (hfu : 600 < fu) (hst : st = 1 ∨ st = 2 ∨ st = 4) (hB : Bd B v) (hB2 : B < 2 ^ 30) :
    Ok (m_Md_lift fu (nI st) ac od bk L v) (fun r => ∀ j, j < 256 → r j = ls L st ac od bk v j) := by
  unfold m_Md_lift
  refine ok_bn1 (Q := fun r => ∀ j, j < 256 → r j = ls L st ac od bk v j) ?_ (fun r h => ok_some h)
  refine ok_loop2 (fun m x6 cur => ∃ k, x6 = nI k ∧ k ≤ 256 ∧ m = 256 - k ∧ ∀ j, j < 256 → (j < k → cur j = ls L st ac od bk v j) ∧ (k ≤ j → cur j = v j)) ?_ fu 256 0 v (by omega) ⟨0, rfl, by omega, rfl, fun j hj => ⟨fun h => absurd h (Nat.not_lt_zero _), fun _ => rfl⟩⟩
  rintro rec m x6 cur ⟨k, rfl, hk, hm, hc⟩ ih
  have hs1 : 0 < st := by omega
  have hs2 : st ≤ 4 := by omega
  unfold m_Md_lift_k3
  refine ok_if (fun c => ?_) (fun c => ?_)
  · have : 256 ≤ k := (nI_leI (a := 256) (by decide) (by omega)).mp c
    exact ok_some (fun j hj => (hc j hj).1 (by omega))
  · have hk2 : k < 256 := by
      rcases Nat.lt_or_ge k 256 with q | q
      · exact q
      · exact absurd (nI_le q (by omega)) c
    have hcl : (nI k).toNatClampNeg = k := nI_clamp (by omega)
    have next : ∀ cur', cur' k = ls L st ac od bk v k → (∀ j, j ≠ k → cur' j = cur j) → Ok (m_Md_lift_b142 fu rec (nI st) ac od bk (nI k) L cur') (fun r => ∀ j, j < 256 → r j = ls L st ac od bk v j) := by
      intro cur' g1 g2
      unfold m_Md_lift_b142
      refine ok_letB ?_
      rw [nI_1]
      refine ih (256 - (k + 1)) _ _ (by omega) ⟨k + 1, rfl, by omega, rfl, fun j hj => ⟨fun h => ?_, fun h => ?_⟩⟩
      · by_cases e : j = k
        · subst e; exact g1
        · rw [g2 j e]; exact (hc j hj).1 (by omega)
      · rw [g2 j (by omega)]; exact (hc j hj).2 (by omega)
    have hck : cur k = v k := (hc k hk2).2 (Nat.le_refl _)
    have stay : ¬ Sl L st ac od k → Ok (m_Md_lift_b142 fu rec (nI st) ac od bk (nI k) L cur) (fun r => ∀ j, j < 256 → r j = ls L st ac od bk v j) := fun h => next cur (by rw [ls_n h, hck]) (fun _ _ => rfl)
    rw [l16, nz_nI (by decide) (by decide), pk_rem (by omega) (by decide) (by decide), pk_div (by omega) (by decide) (by decide)]
    refine ok_letB ?_
    rw [nz_nI (by decide) (by decide)]
    refine ok_letB ?_
    have e : (if ac = 0 then m_Md_lift_b36 fu rec (nI st) ac od bk (nI k) (nI (k % 16)) (nI (k / 16)) (nI (k / 16)) L cur else m_Md_lift_b36 fu rec (nI st) ac od bk (nI k) (nI (k % 16)) (nI (k / 16)) (nI (k % 16)) L cur) = m_Md_lift_b36 fu rec (nI st) ac od bk (nI k) (nI (k % 16)) (nI (k / 16)) (nI (cc ac k)) L cur := by
      unfold cc
      by_cases c : ac = 0
      · rw [if_pos c, if_pos c]
      · rw [if_neg c, if_neg c]
    rw [e]
    have hcc := cc_lt (ac := ac) hk2
    unfold m_Md_lift_b36
    rw [nz_nI hs1 (by omega), pk_div (by omega) hs1 (by omega)]
    refine ok_letB (ok_chk (vp_nI hk2) ?_)
    rw [hcl]
    refine ok_if (fun c2 => stay (fun h => h.1 c2)) (fun c2 => ?_)
    rw [nz_nI hs1 (by omega), pk_rem (by omega) hs1 (by omega)]
    refine ok_if (fun c3 => ?_) (fun c3 => stay (fun h => c3 (by rw [h.2.1]; rfl)))
    rw [nz_nI hs1 (by omega), pk_rem (by omega) hs1 (by omega)]
    refine ok_if (fun c4 => ?_) (fun c4 => stay (fun h => c4 (by rw [h.2.2.1]; rfl)))
    have hp : cc ac k / st ≤ 16 := Nat.le_trans (Nat.div_le_self _ _) (by omega)
    rw [l2, nz_nI (by decide) (by decide), pk_rem (by omega) (by decide) (by decide)]
    have hx : k % 16 % st = 0 := (nI_eq (b := 0) (Nat.lt_of_le_of_lt (Nat.mod_le _ _) (by omega)) (by decide)).mp c3
    have hy : k / 16 % st = 0 := (nI_eq (b := 0) (Nat.lt_of_le_of_lt (Nat.mod_le _ _) (by omega)) (by decide)).mp c4
    have main : Ok (m_Md_lift_b75 fu rec (nI st) ac od bk (nI k) (nI (cc ac k / st % 2)) L cur) (fun r => ∀ j, j < 256 → r j = ls L st ac od bk v j) := by
      unfold m_Md_lift_b75
      refine ok_if (fun c5 => ?_) (fun c5 => stay (fun h => c5 h.2.2.2))
      have hS : Sl L st ac od k := ⟨c2, hx, hy, c5⟩
      have hM : Mx L st ac od bk v cur := fun j hj => by
        rcases Nat.lt_or_ge j k with q | q
        · exact Or.inr ((hc j hj).1 q)
        · exact Or.inl ((hc j hj).2 q)
      rw [bn1_eq (around_eq fu hk2 hs1 hs2), sm_cur hst hk2 hS hM]
      cases hsm : sm L v st ac k with
      | none =>
        refine ok_if (fun _ => next cur (by rw [ls_y hS, hsm, hck]; rfl) (fun _ _ => rfl)) (fun c => absurd rfl c)
      | some s =>
        refine ok_if (fun c => absurd c (sm_ne hB hB2 hk2 hsm)) (fun _ => ?_)
        have fin : Ok (m_Md_lift_b120 fu rec (nI st) ac od bk (nI k) (d0 od s) L cur) (fun r => ∀ j, j < 256 → r j = ls L st ac od bk v j) := by
          unfold m_Md_lift_b120 m_Md_lift_b140
          rw [hcl]
          refine ok_chk (vp_nI hk2) ?_
          refine ok_if (fun c6 => ?_) (fun c6 => ?_)
          · refine ok_letB (ok_chk (vp_nI hk2) (next _ ?_ (fun j hj => pk_un hj)))
            rw [pk_us, ls_y hS, hsm, hck]
            unfold lo dl
            dsimp only
            rw [if_pos c6]
          · refine ok_letB (ok_chk (vp_nI hk2) (next _ ?_ (fun j hj => pk_un hj)))
            rw [pk_us, ls_y hS, hsm, hck]
            unfold lo dl
            dsimp only
            rw [if_neg c6]
        unfold d0 at fin
        by_cases c7 : od = 0
        · rw [if_pos c7] at fin ⊢; exact fin
        · rw [if_neg c7] at fin ⊢; exact fin
    refine ok_if (fun c5 => ?_) (fun c5 => ?_)
    · rw [c5] at main; exact main
    · have : cc ac k / st % 2 = 0 := by
        rcases Nat.mod_two_eq_zero_or_one (cc ac k / st) with q | q
        · exact q
        · exact absurd (by rw [q]; rfl) c5
      rw [this] at main; exact main
