/-! THE HEAD: its bits -/
def run (len : Nat) : List Nat := bl 0 (Nat.log2 (len + 1)) ++ bl (len + 1) (Nat.log2 (len + 1) + 1)
def fl (on : Int32) : Int32 := if on = 0 then 1 else 0
def rn (px : Nat → Int32) : Nat → Nat → Int32 → Nat → List Nat
  | 0, _, _, len => run len
  | n + 1, i, on, len => if px i = on then rn px n (i + 1) on (len + 1) else run len ++ rn px n (i + 1) (fl on) 1
def px (W : Nat) (ins : Nat → Int32) (i : Nat) : Int32 := ins (16 * (i / W) + i % W)
def Rm (W H : Nat) (ins : Nat → Int32) (i : Nat) (on : Int32) (len : Nat) : List Nat := rn (px W ins) (W * H - i) i on len
def HB (W H k : Nat) (ins : Nat → Int32) : List Nat := bl (W - 1) 4 ++ (bl (H - 1) 4 ++ (bl k 5 ++ Rm W H ins 0 0 0))
theorem PL_log {n k : Nat} (h : PL (n + 1) k) : k = Nat.log2 (n + 1) + 1 :=
  h.uniq ⟨Nat.lt_log2_self, fun i hi => Nat.le_trans (Nat.pow_le_pow_right (by decide) (by omega)) (Nat.log2_self_le (by omega))⟩
theorem log_le (len : Nat) : Nat.log2 (len + 1) ≤ len := by
  have h1 : 2 ^ Nat.log2 (len + 1) ≤ len + 1 := Nat.log2_self_le (by omega)
  have h2 : Nat.log2 (len + 1) < 2 ^ Nat.log2 (len + 1) := Nat.lt_two_pow_self
  omega
theorem log_8 {len : Nat} (h : len ≤ 256) : Nat.log2 (len + 1) ≤ 8 := by
  have := (Nat.log2_lt (n := len + 1) (k := 9) (by omega)).mpr (by omega)
  omega
theorem run_length (len : Nat) : (run len).length = Nat.log2 (len + 1) + (Nat.log2 (len + 1) + 1) := by unfold run; rw [List.length_append, bl_len, bl_len]
theorem rn_len (p : Nat → Int32) (n i : Nat) (on : Int32) (len : Nat) : (rn p n i on len).length ≤ 3 * n + 2 * len + 1 := by
  induction n generalizing i on len with
  | zero => have := run_length len; have := log_le len; show (run len).length ≤ _; omega
  | succ n ih =>
    unfold rn
    split
    · have := ih (i + 1) on (len + 1); omega
    · have := ih (i + 1) (fl on) 1
      have := run_length len; have := log_le len
      rw [List.length_append]; omega
theorem HB_len {W H k : Nat} {ins : Nat → Int32} (hW : W ≤ 16) (hH : H ≤ 16) : (HB W H k ins).length ≤ 782 := by
  have h256 : W * H ≤ 16 * 16 := Nat.mul_le_mul hW hH
  have := rn_len (px W ins) (W * H - 0) 0 0 0
  unfold HB Rm
  rw [List.length_append, List.length_append, List.length_append, bl_len, bl_len, bl_len]
  omega
theorem px_at {W y x : Nat} {ins : Nat → Int32} (h : x < W) : px W ins (W * y + x) = ins (16 * y + x) := by
  unfold px
  rw [Nat.mul_add_div (by omega), Nat.mul_add_mod, Nat.mod_eq_of_lt h, Nat.div_eq_of_lt h, Nat.add_zero]
theorem Rm_eq {W H i len : Nat} {ins : Nat → Int32} {on : Int32} (h : i < W * H) (hp : px W ins i = on) : Rm W H ins i on len = Rm W H ins (i + 1) on (len + 1) := by
  unfold Rm
  obtain ⟨n, hn⟩ : ∃ n, W * H - i = n + 1 := ⟨W * H - i - 1, by omega⟩
  have hn2 : W * H - (i + 1) = n := by omega
  rw [hn, hn2]
  exact if_pos hp
theorem Rm_ne {W H i len : Nat} {ins : Nat → Int32} {on : Int32} (h : i < W * H) (hp : ¬ px W ins i = on) : Rm W H ins i on len = run len ++ Rm W H ins (i + 1) (fl on) 1 := by
  unfold Rm
  obtain ⟨n, hn⟩ : ∃ n, W * H - i = n + 1 := ⟨W * H - i - 1, by omega⟩
  have hn2 : W * H - (i + 1) = n := by omega
  rw [hn, hn2]
  exact if_neg hp
theorem Rm_end {W H len : Nat} {ins : Nat → Int32} {on : Int32} : Rm W H ins (W * H) on len = run len := by
  unfold Rm
  rw [Nat.sub_self]
  rfl
theorem nIs1 {n : Nat} (h : 0 < n) : nI n - 1 = nI (n - 1) := by
  obtain ⟨m, rfl⟩ : ∃ m, n = m + 1 := ⟨n - 1, by omega⟩
  exact nI_pred m
theorem wrun_Pen {fu L len : Nat} {t : Nat × (Nat → Nat)} {e p : Int32} {cnt : Int32} {row : Nat → Int32} (hfu : 600 < fu) (hl : len ≤ 256) (hX : CX_Pen L (fun _ => 0)) (h : TP_Pen L t e p cnt row) (hg : Bg_Pen t.1 (run len).length) :
    Ok (m_Head_writeRun_Pen fu (nI len) e (LM_Pen L) p cnt row) (fun r => TP_Pen L (wrs L (run len) t) r.1 r.2.1 r.2.2.1 r.2.2.2) := by
  unfold m_Head_writeRun_Pen
  rw [nI_1]
  refine ok_bn1 (bitsOf_ok hfu (by omega)) ?_
  rintro _ ⟨k, rfl, hk, hP⟩
  have ek := PL_log hP
  have hq : wrs L (run len) t = wrs L (bl (len + 1) k) (wrs L (bl 0 (Nat.log2 (len + 1))) t) := by rw [ek]; exact wrs_app _ _ _ _
  have hlen := run_length len
  have h8 := log_8 hl
  have hle := wrs_le (l := bl 0 (Nat.log2 (len + 1))) h.2.1
  rw [bl_len] at hle
  rw [hq, show nI k - 1 = nI (Nat.log2 (len + 1)) by rw [ek]; exact nI_pred _]
  refine ok_bn4 (say_Pen (v := 0) hfu (by decide) (by omega) hX h (hg.mono (by omega))) ?_
  rintro a1 a2 a3 a4 g
  exact ok_bn4 (say_Pen hfu (by omega) (by omega) hX g (hg.mono (by omega))) (fun a1 a2 a3 a4 g => ok_some g)
theorem whead56_Pen {fu L W H y len : Nat} {R t : Nat × (Nat → Nat)} {planes on : Int32} {ins : Nat → Int32} {e p : Int32} {cnt : Int32} {row : Nat → Int32} (hfu : 600 < fu) (hW : W ≤ 16) (hH : H ≤ 16) (hy : y < H) (hX : CX_Pen L (fun _ => 0)) (hl : len ≤ W * y) (h : TP_Pen L t e p cnt row) (hg : Bg_Pen t.1 (Rm W H ins (W * y) on len).length) (hR : wrs L (Rm W H ins (W * y) on len) t = R) :
    Ok (loop7 (m_Head_write_Pen_k56 fu (nI y) planes (nI H) (nI W) ins (LM_Pen L)) fu on (nI len) 0 e p cnt row) (fun r => ∃ len t, r.2.1 = nI len ∧ len ≤ W * (y + 1) ∧ TP_Pen L t r.2.2.1 r.2.2.2.1 r.2.2.2.2.1 r.2.2.2.2.2 ∧ Bg_Pen t.1 (Rm W H ins (W * (y + 1)) r.1 len).length ∧ wrs L (Rm W H ins (W * (y + 1)) r.1 len) t = R) := by
  have hyH : W * (y + 1) ≤ W * H := Nat.mul_le_mul_left _ hy
  have h256 : W * H ≤ 16 * 16 := Nat.mul_le_mul hW hH
  have hs : W * (y + 1) = W * y + W := Nat.mul_succ _ _
  refine ok_loop7 (fun m x3 x4 x6 e p cnt row => ∃ x len t', x6 = nI x ∧ x4 = nI len ∧ x ≤ W ∧ m = W - x ∧ len ≤ W * y + x ∧ TP_Pen L t' e p cnt row ∧ Bg_Pen t'.1 (Rm W H ins (W * y + x) x3 len).length ∧ wrs L (Rm W H ins (W * y + x) x3 len) t' = R) ?_ fu W on (nI len) 0 e p cnt row (by omega) ⟨0, len, t, rfl, rfl, by omega, by omega, hl, h, hg, hR⟩
  clear h hg hR hl
  rintro rec m on _ _ e p cnt row ⟨x, len, t', rfl, rfl, hx, rfl, hl, h, hg, hR⟩ ih
  unfold m_Head_write_Pen_k56
  refine ok_if (fun c => ?_) (fun c => ?_)
  · have hxW : W ≤ x := (nI_leI (by omega) (by omega)).mp c
    have hi : W * y + x = W * (y + 1) := by omega
    rw [hi] at hg hR
    exact ok_some ⟨len, t', rfl, by omega, h, hg, hR⟩
  · have c1 : x < W := by
      rcases Nat.lt_or_ge x W with q | q
      · exact q
      · exact absurd (nI_le q (by omega)) c
    rw [bn1_eq (samp_eq fu x y)]
    refine ok_chk (vp_nI (by omega)) ?_
    rw [nI_clamp (by omega)]
    have hpx : px W ins (W * y + x) = ins (16 * y + x) := px_at c1
    refine ok_if (fun c2 => ?_) (fun c2 => ?_)
    · rw [Rm_eq (by omega) (hpx.trans c2)] at hg hR
      unfold m_Head_write_Pen_b100
      refine ok_letB (ok_letB ?_)
      rw [nI_1, nI_1]
      exact ih (W - (x + 1)) _ _ _ _ _ _ _ (by omega) ⟨x + 1, len + 1, t', rfl, rfl, c1, rfl, by omega, h, hg, hR⟩
    · rw [Rm_ne (by omega) (fun q => c2 (hpx.symm.trans q))] at hg hR
      rw [List.length_append] at hg
      rw [wrs_app] at hR
      have hle := wrs_le (l := run len) h.2.1
      refine ok_bn4 (wrun_Pen hfu (by omega) hX h (hg.mono (by omega))) ?_
      rintro a1 a2 a3 a4 g
      refine ok_if (fun c3 => ?_) (fun c3 => ?_)
      · have hf : fl on = 1 := if_pos c3
        rw [hf] at hg hR
        have hgm := hg.mono (c' := (wrs L (run len) t').1) (n' := (Rm W H ins (W * y + x + 1) 1 1).length) (by omega)
        unfold m_Head_write_Pen_b96 m_Head_write_Pen_b100
        refine ok_letB (ok_letB ?_)
        rw [nI_1 x]
        exact ih (W - (x + 1)) _ _ _ _ _ _ _ (by omega) ⟨x + 1, 1, _, rfl, rfl, c1, rfl, by omega, g, hgm, hR⟩
      · have hf : fl on = 0 := if_neg c3
        rw [hf] at hg hR
        have hgm := hg.mono (c' := (wrs L (run len) t').1) (n' := (Rm W H ins (W * y + x + 1) 0 1).length) (by omega)
        unfold m_Head_write_Pen_b96 m_Head_write_Pen_b100
        refine ok_letB (ok_letB ?_)
        rw [nI_1 x]
        exact ih (W - (x + 1)) _ _ _ _ _ _ _ (by omega) ⟨x + 1, 1, _, rfl, rfl, c1, rfl, by omega, g, hgm, hR⟩
theorem whead44_Pen {fu L W H : Nat} {R t : Nat × (Nat → Nat)} {planes : Int32} {ins : Nat → Int32} {e p : Int32} {cnt : Int32} {row : Nat → Int32} (hfu : 600 < fu) (hW : W ≤ 16) (hH : H ≤ 16) (hX : CX_Pen L (fun _ => 0)) (h : TP_Pen L t e p cnt row) (hg : Bg_Pen t.1 (Rm W H ins 0 0 0).length) (hR : wrs L (Rm W H ins 0 0 0) t = R) :
    Ok (loop7 (m_Head_write_Pen_k44 fu planes (nI H) (nI W) ins (LM_Pen L)) fu 0 0 0 e p cnt row) (fun r => ∃ len t, r.1 = nI len ∧ len ≤ 256 ∧ TP_Pen L t r.2.1 r.2.2.1 r.2.2.2.1 r.2.2.2.2 ∧ Bg_Pen t.1 (run len).length ∧ wrs L (run len) t = R) := by
  have h256 : W * H ≤ 16 * 16 := Nat.mul_le_mul hW hH
  refine ok_loop7 (fun m x3 x4 x5 e p cnt row => ∃ y len t', x5 = nI y ∧ x4 = nI len ∧ y ≤ H ∧ m = H - y ∧ len ≤ W * y ∧ TP_Pen L t' e p cnt row ∧ Bg_Pen t'.1 (Rm W H ins (W * y) x3 len).length ∧ wrs L (Rm W H ins (W * y) x3 len) t' = R) ?_ fu H 0 0 0 e p cnt row (by omega) ⟨0, 0, t, rfl, rfl, by omega, by omega, by omega, h, hg, hR⟩
  clear h hg hR
  rintro rec m on _ _ e p cnt row ⟨y, len, t', rfl, rfl, hy, rfl, hl, h, hg, hR⟩ ih
  unfold m_Head_write_Pen_k44
  refine ok_if (fun c => ?_) (fun c => ?_)
  · have hyH : H ≤ y := (nI_leI (by omega) (by omega)).mp c
    have ey : y = H := by omega
    rw [ey] at hl
    rw [ey, Rm_end] at hg hR
    exact ok_some ⟨len, t', rfl, by omega, h, hg, hR⟩
  · have c1 : y < H := by
      rcases Nat.lt_or_ge y H with q | q
      · exact q
      · exact absurd (nI_le q (by omega)) c
    refine ok_bn6 (whead56_Pen hfu hW hH c1 hX hl h hg hR) ?_
    rintro b1 b2 a1 a2 a3 a4 ⟨len2, t2, g1, g2, g3, g4, g5⟩
    refine ok_letB ?_
    rw [nI_1]
    exact ih (H - (y + 1)) _ _ _ _ _ _ _ (by omega) ⟨y + 1, len2, t2, rfl, g1, c1, rfl, g2, g3, g4, g5⟩
theorem whead_Pen {fu L W H k : Nat} {t : Nat × (Nat → Nat)} {ins : Nat → Int32} {e p : Int32} {cnt : Int32} {row : Nat → Int32} (hfu : 600 < fu) (hW0 : 0 < W) (hW : W ≤ 16) (hH0 : 0 < H) (hH : H ≤ 16) (hk : k < 32) (hX : CX_Pen L (fun _ => 0)) (h : TP_Pen L t e p cnt row) (hg : Bg_Pen t.1 (HB W H k ins).length) :
    Ok (m_Head_write_Pen fu (nI k) (nI H) (nI W) ins e (LM_Pen L) p cnt row) (fun r => TP_Pen L (wrs L (HB W H k ins) t) r.1 r.2.1 r.2.2.1 r.2.2.2) := by
  unfold HB at hg ⊢
  rw [List.length_append, List.length_append, List.length_append, bl_len, bl_len, bl_len] at hg
  rw [wrs_app, wrs_app, wrs_app]
  unfold m_Head_write_Pen
  rw [nIs1 hW0, nIs1 hH0]
  have w1 := wrs_le (l := bl (W - 1) 4) h.2.1
  have w2 := wrs_le (l := bl (H - 1) 4) w1.1
  have w3 := wrs_le (l := bl k 5) w2.1
  rw [bl_len] at w1 w2 w3
  refine ok_bn4 (say_Pen (v := W - 1) (k := 4) hfu (by omega) (by omega) hX h (hg.mono (by omega))) ?_
  rintro a1 a2 a3 a4 g1
  refine ok_bn4 (say_Pen (v := H - 1) (k := 4) hfu (by omega) (by omega) hX g1 (hg.mono (by omega))) ?_
  rintro a1 a2 a3 a4 g2
  refine ok_bn4 (say_Pen (v := k) (k := 5) hfu (by omega) (by omega) hX g2 (hg.mono (by omega))) ?_
  rintro a1 a2 a3 a4 g3
  refine ok_bn5 (whead44_Pen (R := wrs L (Rm W H ins 0 0 0) (wrs L (bl k 5) (wrs L (bl (H - 1) 4) (wrs L (bl (W - 1) 4) t)))) hfu hW hH hX g3 (hg.mono (by omega)) rfl) ?_
  rintro b1 a1 a2 a3 a4 ⟨len, t2, q1, q2, q3, q4, q5⟩
  dsimp only at q1 q3
  subst q1
  rw [← q5]
  exact ok_bn4 (wrun_Pen hfu q2 hX q3 q4) (fun a1 a2 a3 a4 g => ok_some g)
theorem wrun_Tape {fu L len : Nat} {t : Nat × (Nat → Nat)} {e p : Int32} (hfu : 600 < fu) (hl : len ≤ 256) (hX : CX_Tape L (fun _ => 0)) (h : TP_Tape L t e p) (hg : Bg_Tape t.1 (run len).length) :
    Ok (m_Head_writeRun_Tape fu (nI len) e (LM_Tape L) p) (fun r => TP_Tape L (wrs L (run len) t) r.1 r.2) := by
  unfold m_Head_writeRun_Tape
  rw [nI_1]
  refine ok_bn1 (bitsOf_ok hfu (by omega)) ?_
  rintro _ ⟨k, rfl, hk, hP⟩
  have ek := PL_log hP
  have hq : wrs L (run len) t = wrs L (bl (len + 1) k) (wrs L (bl 0 (Nat.log2 (len + 1))) t) := by rw [ek]; exact wrs_app _ _ _ _
  have hlen := run_length len
  have h8 := log_8 hl
  have hle := wrs_le (l := bl 0 (Nat.log2 (len + 1))) h.2.1
  rw [bl_len] at hle
  rw [hq, show nI k - 1 = nI (Nat.log2 (len + 1)) by rw [ek]; exact nI_pred _]
  refine ok_bn2 (say_Tape (v := 0) hfu (by decide) (by omega) hX h (hg.mono (by omega))) ?_
  rintro a1 a2 g
  exact ok_bn2 (say_Tape hfu (by omega) (by omega) hX g (hg.mono (by omega))) (fun a1 a2 g => ok_some g)
theorem whead56_Tape {fu L W H y len : Nat} {R t : Nat × (Nat → Nat)} {planes on : Int32} {ins : Nat → Int32} {e p : Int32} (hfu : 600 < fu) (hW : W ≤ 16) (hH : H ≤ 16) (hy : y < H) (hX : CX_Tape L (fun _ => 0)) (hl : len ≤ W * y) (h : TP_Tape L t e p) (hg : Bg_Tape t.1 (Rm W H ins (W * y) on len).length) (hR : wrs L (Rm W H ins (W * y) on len) t = R) :
    Ok (loop5 (m_Head_write_Tape_k56 fu (nI y) planes (nI H) (nI W) ins (LM_Tape L)) fu on (nI len) 0 e p) (fun r => ∃ len t, r.2.1 = nI len ∧ len ≤ W * (y + 1) ∧ TP_Tape L t r.2.2.1 r.2.2.2 ∧ Bg_Tape t.1 (Rm W H ins (W * (y + 1)) r.1 len).length ∧ wrs L (Rm W H ins (W * (y + 1)) r.1 len) t = R) := by
  have hyH : W * (y + 1) ≤ W * H := Nat.mul_le_mul_left _ hy
  have h256 : W * H ≤ 16 * 16 := Nat.mul_le_mul hW hH
  have hs : W * (y + 1) = W * y + W := Nat.mul_succ _ _
  refine ok_loop5 (fun m x3 x4 x6 e p => ∃ x len t', x6 = nI x ∧ x4 = nI len ∧ x ≤ W ∧ m = W - x ∧ len ≤ W * y + x ∧ TP_Tape L t' e p ∧ Bg_Tape t'.1 (Rm W H ins (W * y + x) x3 len).length ∧ wrs L (Rm W H ins (W * y + x) x3 len) t' = R) ?_ fu W on (nI len) 0 e p (by omega) ⟨0, len, t, rfl, rfl, by omega, by omega, hl, h, hg, hR⟩
  clear h hg hR hl
  rintro rec m on _ _ e p ⟨x, len, t', rfl, rfl, hx, rfl, hl, h, hg, hR⟩ ih
  unfold m_Head_write_Tape_k56
  refine ok_if (fun c => ?_) (fun c => ?_)
  · have hxW : W ≤ x := (nI_leI (by omega) (by omega)).mp c
    have hi : W * y + x = W * (y + 1) := by omega
    rw [hi] at hg hR
    exact ok_some ⟨len, t', rfl, by omega, h, hg, hR⟩
  · have c1 : x < W := by
      rcases Nat.lt_or_ge x W with q | q
      · exact q
      · exact absurd (nI_le q (by omega)) c
    rw [bn1_eq (samp_eq fu x y)]
    refine ok_chk (vp_nI (by omega)) ?_
    rw [nI_clamp (by omega)]
    have hpx : px W ins (W * y + x) = ins (16 * y + x) := px_at c1
    refine ok_if (fun c2 => ?_) (fun c2 => ?_)
    · rw [Rm_eq (by omega) (hpx.trans c2)] at hg hR
      unfold m_Head_write_Tape_b100
      refine ok_letB (ok_letB ?_)
      rw [nI_1, nI_1]
      exact ih (W - (x + 1)) _ _ _ _ _ (by omega) ⟨x + 1, len + 1, t', rfl, rfl, c1, rfl, by omega, h, hg, hR⟩
    · rw [Rm_ne (by omega) (fun q => c2 (hpx.symm.trans q))] at hg hR
      rw [List.length_append] at hg
      rw [wrs_app] at hR
      have hle := wrs_le (l := run len) h.2.1
      refine ok_bn2 (wrun_Tape hfu (by omega) hX h (hg.mono (by omega))) ?_
      rintro a1 a2 g
      refine ok_if (fun c3 => ?_) (fun c3 => ?_)
      · have hf : fl on = 1 := if_pos c3
        rw [hf] at hg hR
        have hgm := hg.mono (c' := (wrs L (run len) t').1) (n' := (Rm W H ins (W * y + x + 1) 1 1).length) (by omega)
        unfold m_Head_write_Tape_b96 m_Head_write_Tape_b100
        refine ok_letB (ok_letB ?_)
        rw [nI_1 x]
        exact ih (W - (x + 1)) _ _ _ _ _ (by omega) ⟨x + 1, 1, _, rfl, rfl, c1, rfl, by omega, g, hgm, hR⟩
      · have hf : fl on = 0 := if_neg c3
        rw [hf] at hg hR
        have hgm := hg.mono (c' := (wrs L (run len) t').1) (n' := (Rm W H ins (W * y + x + 1) 0 1).length) (by omega)
        unfold m_Head_write_Tape_b96 m_Head_write_Tape_b100
        refine ok_letB (ok_letB ?_)
        rw [nI_1 x]
        exact ih (W - (x + 1)) _ _ _ _ _ (by omega) ⟨x + 1, 1, _, rfl, rfl, c1, rfl, by omega, g, hgm, hR⟩
theorem whead44_Tape {fu L W H : Nat} {R t : Nat × (Nat → Nat)} {planes : Int32} {ins : Nat → Int32} {e p : Int32} (hfu : 600 < fu) (hW : W ≤ 16) (hH : H ≤ 16) (hX : CX_Tape L (fun _ => 0)) (h : TP_Tape L t e p) (hg : Bg_Tape t.1 (Rm W H ins 0 0 0).length) (hR : wrs L (Rm W H ins 0 0 0) t = R) :
    Ok (loop5 (m_Head_write_Tape_k44 fu planes (nI H) (nI W) ins (LM_Tape L)) fu 0 0 0 e p) (fun r => ∃ len t, r.1 = nI len ∧ len ≤ 256 ∧ TP_Tape L t r.2.1 r.2.2 ∧ Bg_Tape t.1 (run len).length ∧ wrs L (run len) t = R) := by
  have h256 : W * H ≤ 16 * 16 := Nat.mul_le_mul hW hH
  refine ok_loop5 (fun m x3 x4 x5 e p => ∃ y len t', x5 = nI y ∧ x4 = nI len ∧ y ≤ H ∧ m = H - y ∧ len ≤ W * y ∧ TP_Tape L t' e p ∧ Bg_Tape t'.1 (Rm W H ins (W * y) x3 len).length ∧ wrs L (Rm W H ins (W * y) x3 len) t' = R) ?_ fu H 0 0 0 e p (by omega) ⟨0, 0, t, rfl, rfl, by omega, by omega, by omega, h, hg, hR⟩
  clear h hg hR
  rintro rec m on _ _ e p ⟨y, len, t', rfl, rfl, hy, rfl, hl, h, hg, hR⟩ ih
  unfold m_Head_write_Tape_k44
  refine ok_if (fun c => ?_) (fun c => ?_)
  · have hyH : H ≤ y := (nI_leI (by omega) (by omega)).mp c
    have ey : y = H := by omega
    rw [ey] at hl
    rw [ey, Rm_end] at hg hR
    exact ok_some ⟨len, t', rfl, by omega, h, hg, hR⟩
  · have c1 : y < H := by
      rcases Nat.lt_or_ge y H with q | q
      · exact q
      · exact absurd (nI_le q (by omega)) c
    refine ok_bn4 (whead56_Tape hfu hW hH c1 hX hl h hg hR) ?_
    rintro b1 b2 a1 a2 ⟨len2, t2, g1, g2, g3, g4, g5⟩
    refine ok_letB ?_
    rw [nI_1]
    exact ih (H - (y + 1)) _ _ _ _ _ (by omega) ⟨y + 1, len2, t2, rfl, g1, c1, rfl, g2, g3, g4, g5⟩
theorem whead_Tape {fu L W H k : Nat} {t : Nat × (Nat → Nat)} {ins : Nat → Int32} {e p : Int32} (hfu : 600 < fu) (hW0 : 0 < W) (hW : W ≤ 16) (hH0 : 0 < H) (hH : H ≤ 16) (hk : k < 32) (hX : CX_Tape L (fun _ => 0)) (h : TP_Tape L t e p) (hg : Bg_Tape t.1 (HB W H k ins).length) :
    Ok (m_Head_write_Tape fu (nI k) (nI H) (nI W) ins e (LM_Tape L) p) (fun r => TP_Tape L (wrs L (HB W H k ins) t) r.1 r.2) := by
  unfold HB at hg ⊢
  rw [List.length_append, List.length_append, List.length_append, bl_len, bl_len, bl_len] at hg
  rw [wrs_app, wrs_app, wrs_app]
  unfold m_Head_write_Tape
  rw [nIs1 hW0, nIs1 hH0]
  have w1 := wrs_le (l := bl (W - 1) 4) h.2.1
  have w2 := wrs_le (l := bl (H - 1) 4) w1.1
  have w3 := wrs_le (l := bl k 5) w2.1
  rw [bl_len] at w1 w2 w3
  refine ok_bn2 (say_Tape (v := W - 1) (k := 4) hfu (by omega) (by omega) hX h (hg.mono (by omega))) ?_
  rintro a1 a2 g1
  refine ok_bn2 (say_Tape (v := H - 1) (k := 4) hfu (by omega) (by omega) hX g1 (hg.mono (by omega))) ?_
  rintro a1 a2 g2
  refine ok_bn2 (say_Tape (v := k) (k := 5) hfu (by omega) (by omega) hX g2 (hg.mono (by omega))) ?_
  rintro a1 a2 g3
  refine ok_bn3 (whead44_Tape (R := wrs L (Rm W H ins 0 0 0) (wrs L (bl k 5) (wrs L (bl (H - 1) 4) (wrs L (bl (W - 1) 4) t)))) hfu hW hH hX g3 (hg.mono (by omega)) rfl) ?_
  rintro b1 a1 a2 ⟨len, t2, q1, q2, q3, q4, q5⟩
  dsimp only at q1 q3
  subst q1
  rw [← q5]
  exact ok_bn2 (wrun_Tape hfu q2 hX q3 q4) (fun a1 a2 g => ok_some g)
