theorem pl7 : ∀ r, r < 8 → ∀ b, b < 2 → nI b <<< (((7 : Int32) - nI r) &&& 31) = nI (b * 2 ^ (7 - r)) := by decide +kernel
theorem or0 : ∀ x, x < 256 → (nI x ||| nI 0) = nI x := by decide +kernel
theorem or1 : ∀ x, x < 256 → ∀ r, r < 8 → ¬ ((r = 0 ∧ x = 0) ∨ (r ≠ 0 ∧ x % 2 ^ (8 - r) = 0)) ∨ (nI x ||| nI (2 ^ (7 - r))) = nI (x + 2 ^ (7 - r)) := by decide +kernel
theorem or7 {x r b : Nat} (hx : x < 256) (hr : r < 8) (hb : b < 2) (h : (r = 0 ∧ x = 0) ∨ (r ≠ 0 ∧ x % 2 ^ (8 - r) = 0)) : (nI x ||| nI (b * 2 ^ (7 - r))) = nI (x + b * 2 ^ (7 - r)) := by
  have hb2 : b = 0 ∨ b = 1 := by omega
  rcases hb2 with q | q <;> subst q
  · rw [Nat.zero_mul, Nat.add_zero]; exact or0 x hx
  · rw [Nat.one_mul]; exact (or1 x hx r hr).resolve_left (fun q => q h)
theorem by255 : ∀ x, x < 256 → (nI x).toInt8.toInt32 &&& (255 : Int32) = nI x := by decide +kernel
theorem rd7 : ∀ x, x < 256 → ∀ r, r < 8 → (nI x >>> (((7 : Int32) - nI r) &&& 31)) &&& (1 : Int32) = nI (x / 2 ^ (7 - r) % 2) := by decide +kernel
theorem l8 : (8 : Int32) = nI 8 := rfl
/-- the reference's tape -/
def RT (md : Int32) (st0 : Nat → Int32) (t : Nat × (Nat → Nat)) (count : Int32) (stream : Nat → Int32) : Prop := count = nI t.1 ∧ (md = 0 → ∀ j, 8 * j < t.1 → stream j = nI (t.2 j)) ∧ (md ≠ 0 → stream = st0)
/-- what is fed -/
def FD (F : Nat → Nat) (fed : Nat → Int32) : Prop := ∀ j, j < 2400 → F j < 256 ∧ fed j = nI (F j)
def fb (F : Nat → Nat) (c : Nat) : Nat := F (c / 8) / 2 ^ (7 - c % 8) % 2
def nb (md : Int32) (F : Nat → Nat) (due c : Nat) : Nat := if md = 2 then fb F c else due
theorem nb_le {md : Int32} {F : Nat → Nat} {due c : Nat} (h : due ≤ 1) : nb md F due c ≤ 1 := by
  unfold nb fb
  split
  · omega
  · exact h
theorem bit_end {fu L : Nat} {x md count : Int32} {fed stream : Nat → Int32} (h : count = nI L) : m_Md_bit fu x count (nI L) md fed stream = some (-1, count, stream) := by
  unfold m_Md_bit
  rw [if_pos h]
theorem bit_ok {fu L due : Nat} {t : Nat × (Nat → Nat)} {md count : Int32} {F : Nat → Nat} {fed stream st0 : Nat → Int32} (hR : RT md st0 t count stream) (hS : SO t.1 t.2) (hc : t.1 < L) (hL : L ≤ 60000) (hd : due ≤ 1) (hm : md = 0 ∨ md = 1 ∨ (md = 2 ∧ L ≤ 19200 ∧ FD F fed)) :
    Ok (m_Md_bit fu (nI due) count (nI L) md fed stream) (fun r => r.1 = nI (nb md F due t.1) ∧ RT md st0 (wr L t (nb md F due t.1)) r.2.1 r.2.2) := by
  obtain ⟨h1, h2, h3⟩ := hR
  obtain ⟨c, s⟩ := t
  dsimp only at h1 h2 h3 hc hS ⊢
  subst h1
  have hw : ∀ b, wr L (c, s) b = (c + 1, wrb s c b) := fun b => if_neg (show ¬ c = L by omega)
  unfold m_Md_bit
  rw [if_neg (fun q => by have := (nI_eq (by omega) (by omega)).mp q; omega), l8, pk_rem (by omega) (by decide) (by decide), pk_div (by omega) (by decide) (by decide)]
  have hr : c % 8 < 8 := by omega
  rcases hm with rfl | rfl | ⟨rfl, hL2, hF⟩
  · rw [if_neg (by decide)]
    have hn : nb 0 F due c = due := if_neg (by decide)
    rw [hn, hw]
    unfold m_Md_bit_b49 m_Md_bit_b93 m_Md_bit_b107
    rw [if_pos rfl, l8, pk_rem (by omega) (by decide) (by decide), pk_div (by omega) (by decide) (by decide), pl7 _ hr _ (by omega)]
    refine ok_nz (nI_ne0 (by decide) (by decide)) (ok_nz (nI_ne0 (by decide) (by decide)) ?_)
    have fin : ∀ t0 : Nat, t0 = (if c % 8 = 0 then 0 else s (c / 8)) → Ok (nz (nI 8) (letB (nI t0 + nI (due * 2 ^ (7 - c % 8))) (fun y_11 => chk (nI (c / 8)) 7500 (letB (nI c + 1) (fun f_4 => some (nI due, f_4, upd stream (nI (c / 8)).toNatClampNeg y_11)))))) (fun r => r.1 = nI due ∧ RT 0 st0 (c + 1, wrb s c due) r.2.1 r.2.2) := by
      intro t0 e
      refine ok_nz (nI_ne0 (by decide) (by decide)) (ok_letB (ok_chk (vp_nI (by omega)) (ok_letB (ok_some ⟨rfl, ?_, fun _ j hj => ?_, fun q => absurd rfl q⟩))))
      · exact nI_1 c
      · show upd stream (nI (c / 8)).toNatClampNeg (nI t0 + nI (due * 2 ^ (7 - c % 8))) j = nI (wrb s c due j)
        rw [nI_clamp (by omega), nI_add]
        unfold wrb
        by_cases ej : j = c / 8
        · rw [if_pos ej, ej, pk_us, e]
        · rw [if_neg ej, pk_un ej]
          exact h2 rfl j (by have hj2 : 8 * j < c + 1 := hj; omega)
    refine ok_if (fun c0 => ?_) (fun c0 => ?_)
    · have : c % 8 = 0 := (nI_eq (b := 0) (by omega) (by decide)).mp c0
      have := fin 0 (by rw [if_pos this])
      exact this
    · have c1 : ¬ c % 8 = 0 := fun q => c0 (by rw [q]; rfl)
      refine ok_nz (nI_ne0 (by decide) (by decide)) (ok_chk (vp_nI (by omega)) ?_)
      rw [nI_clamp (by omega), h2 rfl (c / 8) (by omega)]
      have := fin (s (c / 8)) (by rw [if_neg c1])
      rw [nI_clamp (by omega)] at this
      exact this
  · rw [if_neg (by decide)]
    have hn : nb 1 F due c = due := if_neg (by decide)
    rw [hn, hw]
    unfold m_Md_bit_b49 m_Md_bit_b107
    rw [if_neg (by decide)]
    refine ok_letB (ok_some ⟨rfl, ?_, fun q => absurd q (by decide), fun q => h3 q⟩)
    exact nI_1 c
  · rw [if_pos rfl, nI_clamp (by omega)]
    have hn : nb 2 F due c = fb F c := if_pos rfl
    have hf := hF (c / 8) (by omega)
    rw [hn, hw, hf.2, rd7 _ hf.1 _ hr]
    refine ok_nz (nI_ne0 (by decide) (by decide)) (ok_chk (vp_nI (by omega)) (ok_nz (nI_ne0 (by decide) (by decide)) (ok_letB ?_)))
    unfold m_Md_bit_b49 m_Md_bit_b107
    rw [if_neg (by decide)]
    refine ok_letB (ok_some ⟨rfl, ?_, fun q => absurd q (by decide), fun q => h3 q⟩)
    exact nI_1 c
theorem bit_of {v k : Nat} (hv : v < 2 ^ 31) (hk : k < 31) : ((nI v >>> (nI k &&& 31)) &&& (1 : Int32)) = nI (v / 2 ^ k % 2) := by
  have h : v / 2 ^ k ≤ v := Nat.div_le_self _ _
  rw [shr_nI hv (by omega), pk_andN (by omega) 1 (by decide)]
theorem nIp1 (k : Nat) : nI (k + 1) - 1 = nI k := nI_pred k
theorem tell_ok {fu L v k : Nat} {t : Nat × (Nat → Nat)} {md count : Int32} {fed stream st0 : Nat → Int32} (hfu : 600 < fu) (hv : v < 2 ^ 31) (hk : k ≤ 31) (hR : RT md st0 t count stream) (hS : SO t.1 t.2) (hc : t.1 ≤ L) (hL : L ≤ 60000) (hm : md = 0 ∨ md = 1) :
    Ok (m_Md_tell fu (nI v) (nI k) count (nI L) md fed stream) (fun r => (r.1 = 0 → (wrs L (bl v k) t).1 = L) ∧ RT md st0 (wrs L (bl v k) t) r.2.1 r.2.2 ∧ SO (wrs L (bl v k) t).1 (wrs L (bl v k) t).2) := by
  unfold m_Md_tell
  refine ok_letB ?_
  refine ok_bn3 (Q := fun r => (r.1 = -1 → (wrs L (bl v k) t).1 = L) ∧ RT md st0 (wrs L (bl v k) t) r.2.1 r.2.2 ∧ SO (wrs L (bl v k) t).1 (wrs L (bl v k) t).2) ?_ ?_
  · refine ok_loop4 (fun m x3 x4 count stream => ∃ k' t', x4 = nI k' - 1 ∧ m = k' ∧ k' ≤ 31 ∧ (x3 = -1 → t'.1 = L) ∧ t'.1 ≤ L ∧ SO t'.1 t'.2 ∧ RT md st0 t' count stream ∧ wrs L (bl v k') t' = wrs L (bl v k) t) ?_ fu k 0 (nI k - 1) count stream (by omega) ⟨k, t, rfl, rfl, hk, fun q => absurd q (by decide), hc, hS, hR, rfl⟩
    clear hR hS hc
    rintro rec m x3 x4 count stream ⟨k', t', rfl, rfl, hk', h0, hc, hS, hR, he⟩ ih
    unfold m_Md_tell_k7
    cases m with
    | zero =>
      refine ok_if (fun _ => ?_) (fun c => absurd (by decide) c)
      have he : t' = wrs L (bl v k) t := he
      rw [← he]
      exact ok_some ⟨h0, hR, hS⟩
    | succ k' =>
      rw [nIp1]
      refine ok_if (fun c => absurd c (nI_pos (by omega))) (fun _ => ?_)
      rw [bit_of hv (by omega)]
      have hb : v / 2 ^ k' % 2 ≤ 1 := by omega
      have hmove : (nI k' + (-1 : Int32)) = nI k' - 1 := by rw [Int32.sub_eq_add_neg]
      by_cases e : t'.1 = L
      · rw [bn3_eq (bit_end (by rw [hR.1, e]))]
        refine ok_letB ?_
        rw [hmove]
        refine ih k' _ _ _ _ (by omega) ⟨k', t', rfl, rfl, by omega, fun _ => e, hc, hS, hR, ?_⟩
        rw [← he, wrs_full e, wrs_full e]
      · refine ok_bn3 (bit_ok (F := fun _ => 0) hR hS (by omega) hL hb (by rcases hm with q | q; exact Or.inl q; exact Or.inr (Or.inl q))) ?_
        rintro a1 a2 a3 ⟨g1, g2⟩
        have hn : nb md (fun _ => 0) (v / 2 ^ k' % 2) t'.1 = v / 2 ^ k' % 2 := by
          unfold nb
          rcases hm with q | q <;> subst q <;> exact if_neg (by decide)
        dsimp only at g1 g2
        rw [hn] at g1 g2
        refine ok_letB ?_
        rw [hmove]
        refine ih k' _ _ _ _ (by omega) ⟨k', wr L t' (v / 2 ^ k' % 2), rfl, rfl, by omega, fun q => ?_, (wr_le hc).1, SO_wr hS hb, g2, he⟩
        rw [g1] at q
        exact absurd q (nI_nm1 (by omega))
  · rintro a1 a2 a3 ⟨g1, g2, g3⟩
    unfold m_Md_tell_b39
    refine ok_if (fun c => ok_chkB (Or.inl rfl) (ok_some ⟨fun _ => g1 c, g2, g3⟩)) (fun c => ok_chkB (Or.inr rfl) (ok_some ⟨fun q => absurd (show (1 : Int32) = 0 from q) (by decide), g2, g3⟩))
