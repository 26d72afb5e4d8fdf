theorem m1lt : ¬ (0 : Int32) ≤ -1 := by decide
/-- the class's tapes -/
def TP_Pen (L : Nat) (t : Nat × (Nat → Nat)) (e p cnt : Int32) (row : Nat → Int32) : Prop := p = nI t.1 ∧ t.1 ≤ L ∧ (e = 0 ∨ (e = 1 ∧ t.1 = L)) ∧ SO t.1 t.2 ∧ cnt = nI ((t.1 + 7) / 8) ∧ ∀ j, 8 * j < t.1 → row j &&& 255 = nI (t.2 j)
def TP_Tape (L : Nat) (t : Nat × (Nat → Nat)) (e p : Int32) : Prop := p = nI t.1 ∧ t.1 ≤ L ∧ (e = 0 ∨ (e = 1 ∧ t.1 = L)) ∧ SO t.1 t.2
def TP_Eye (L : Nat) (t : Nat × (Nat → Nat)) (e p : Int32) : Prop := p = nI t.1 ∧ t.1 ≤ L ∧ (e = 0 ∨ (e = 1 ∧ t.1 = L)) ∧ SO t.1 t.2
def LM_Pen (L : Nat) : Int32 := if (19200 : Int32) < nI L then (19200 : Int32) else nI L
def LM_Tape (L : Nat) : Int32 := nI L
def LM_Eye (L : Nat) : Int32 := nI L
def Bg_Pen (c n : Nat) : Prop := c + n ≤ 19200
def Bg_Tape (_ _ : Nat) : Prop := True
def Bg_Eye (_ _ : Nat) : Prop := True
theorem Bg_Pen.mono {c n c' n' : Nat} (h : Bg_Pen c n) (h2 : c' + n' ≤ c + n) : Bg_Pen c' n' := Nat.le_trans h2 h
theorem Bg_Tape.mono {c n c' n' : Nat} (_ : Bg_Tape c n) (_ : c' + n' ≤ c + n) : Bg_Tape c' n' := True.intro
theorem Bg_Eye.mono {c n c' n' : Nat} (_ : Bg_Eye c n) (_ : c' + n' ≤ c + n) : Bg_Eye c' n' := True.intro
def FE (F : Nat → Nat) (row : Nat → Int32) : Prop := ∀ j, j < 2400 → F j < 256 ∧ row j &&& 255 = nI (F j)
def CX_Pen (L : Nat) (_ : Nat → Nat) : Prop := L ≤ 60000
def CX_Tape (L : Nat) (_ : Nat → Nat) : Prop := L ≤ 60000
def CX_Eye (L : Nat) (F : Nat → Nat) (row : Nat → Int32) : Prop := L ≤ 19200 ∧ FE F row
theorem get_ok {fu j : Nat} {row : Nat → Int32} (h : j < 2400) : m_Bytes_get fu (nI j) row = some (row j &&& 255) := by
  unfold m_Bytes_get m_Bytes_get_b25
  rw [if_neg (nI_pos (by omega)), if_neg (show ¬ (2400 : Int32) ≤ nI j from nI_ge (b := 2400) h (by decide)), chk_nI h (by decide), nI_clamp (by omega)]
theorem set_ok {fu j : Nat} {x : Int32} {row : Nat → Int32} (h : j < 2400) : m_Bytes_set fu (nI j) x row = some (upd row j x.toInt8.toInt32) := by
  unfold m_Bytes_set m_Bytes_set_b19
  rw [if_neg (nI_pos (by omega)), if_neg (show ¬ (2400 : Int32) ≤ nI j from nI_ge (b := 2400) h (by decide)), chk_nI h (by decide), nI_clamp (by omega), pk_vb]
theorem add_ok {fu j : Nat} {x : Int32} {row : Nat → Int32} (h : j < 2400) : m_Bytes_add fu x (nI j) row = some (nI (j + 1), upd row j x.toInt8.toInt32) := by
  unfold m_Bytes_add m_Bytes_add_b38 letB
  rw [if_neg (nI_pos (by omega)), if_neg (show ¬ (2400 : Int32) ≤ nI j from nI_ge (b := 2400) h (by decide)), chk_nI h (by decide), nI_clamp (by omega), pk_vb, nI_1]
theorem div8 {c : Nat} (h : c < 2 ^ 31) : nI c >>> ((3 : Int32) &&& 31) = nI (c / 8) := pk_shrN h _ 3 (by decide)
theorem and7 {c : Nat} (h : c < 2 ^ 31) : nI c &&& (7 : Int32) = nI (c % 8) := pk_andN (by omega) 3 (by decide)
theorem pick_Pen {fu due L : Nat} {t : Nat × (Nat → Nat)} {e p cnt : Int32} {row : Nat → Int32} (h : TP_Pen L t e p cnt row) (hc : t.1 < 19200) (hd : due ≤ 1) :
    Ok (m_Pen_pick_Pen fu (nI due) p cnt row) (fun r => r.1 = nI due ∧ r.2.1 = nI ((t.1 + 8) / 8) ∧ ∀ j, 8 * j < t.1 + 1 → r.2.2 j &&& 255 = nI (wrb t.2 t.1 due j)) := by
  obtain ⟨c, s⟩ := t
  obtain ⟨h1, h2, h3, h4, h5, h6⟩ := h
  dsimp only at h1 h2 h3 h4 h5 h6 hc ⊢
  subst h1 h5
  unfold m_Pen_pick_Pen m_Pen_pick_Pen_b26
  rw [div8 (by omega)]
  refine ok_letB ?_
  rw [and7 (by omega), pl7 _ (by omega) _ (by omega)]
  by_cases r0 : c % 8 = 0
  · rw [if_pos (by congr 1; omega), show (c + 7) / 8 = c / 8 by omega, bn2_eq (add_ok (by omega)), bn1_eq (get_ok (by omega)), pk_us]
    have e0 : ((0 : Int32).toInt8.toInt32 &&& (255 : Int32)) = nI 0 := by decide
    rw [e0, or7 (by decide) (by omega) (by omega) (Or.inl ⟨r0, rfl⟩), bn1_eq (set_ok (by omega))]
    refine ok_some ⟨rfl, by show nI (c / 8 + 1) = nI ((c + 8) / 8); congr 1; omega, fun j hj => ?_⟩
    show upd (upd row (c / 8) _) (c / 8) _ j &&& 255 = nI (wrb s c due j)
    unfold wrb
    by_cases ej : j = c / 8
    · rw [if_pos ej, ej, pk_us, if_pos r0]
      refine by255 _ ?_
      rw [r0]; show 0 + due * 128 < 256; omega
    · rw [if_neg ej, pk_un ej, pk_un ej]
      exact h6 j (by omega)
  · have ne : ¬ nI (c / 8) = nI ((c + 7) / 8) := fun q => by have := (nI_eq (by omega) (by omega)).mp q; omega
    rw [if_neg ne, bn1_eq (get_ok (by omega)), h6 (c / 8) (by omega)]
    have hs := h4 (c / 8) (by omega)
    have hz := hs.2 (by omega)
    rw [show 8 * (c / 8) + 8 - c = 8 - c % 8 by omega] at hz
    have hst := (SO.step h4 hd) (c / 8) (by omega)
    rw [or7 hs.1 (by omega) (by omega) (Or.inr ⟨r0, hz⟩), bn1_eq (set_ok (by omega))]
    refine ok_some ⟨rfl, by show nI ((c + 7) / 8) = nI ((c + 8) / 8); congr 1; omega, fun j hj => ?_⟩
    show upd row (c / 8) _ j &&& 255 = nI (wrb s c due j)
    by_cases ej : j = c / 8
    · have hw : wrb s c due (c / 8) = s (c / 8) + due * 2 ^ (7 - c % 8) := by unfold wrb; rw [if_pos rfl, if_neg r0]
      rw [hw] at hst
      rw [ej, pk_us, hw]
      exact by255 _ hst.1
    · have hw : wrb s c due j = s j := by unfold wrb; rw [if_neg ej]
      rw [hw, pk_un ej]
      exact h6 j (by omega)
theorem wr_ne {L b : Nat} {t : Nat × (Nat → Nat)} (h : t.1 ≠ L) : wr L t b = (t.1 + 1, wrb t.2 t.1 b) := if_neg h
theorem lm_Pen {L c : Nat} (hL : L ≤ 60000) (hc : c < 19200) : (nI c < LM_Pen L ↔ c < L) := by
  unfold LM_Pen
  by_cases q : 19200 < L
  · rw [if_pos (show (19200 : Int32) < nI L from nI_lt (a := 19200) q (by omega))]
    constructor
    · intro _; omega
    · intro _; exact nI_lt (b := 19200) hc (by decide)
  · rw [if_neg (show ¬ (19200 : Int32) < nI L from nI_nlt (b := L) (a := 19200) (by omega) (by decide))]
    exact nI_ltI (by omega) (by omega)
theorem next_Pen {fu due L : Nat} {F : Nat → Nat} {t : Nat × (Nat → Nat)} {e p cnt : Int32} {row : Nat → Int32} (hX : CX_Pen L F) (h : TP_Pen L t e p cnt row) (hg : Bg_Pen t.1 1) (hd : due ≤ 1) :
    Ok (m_Tape_next_Pen fu (nI due) e (LM_Pen L) p cnt row) (fun r => (t.1 = L ∧ r.1 = -1 ∧ r.2.1 = 1 ∧ TP_Pen L t r.2.1 r.2.2.1 r.2.2.2.1 r.2.2.2.2) ∨ (t.1 ≠ L ∧ r.1 = nI (nb 0 F due t.1) ∧ r.2.1 = 0 ∧ TP_Pen L (wr L t (nb 0 F due t.1)) r.2.1 r.2.2.1 r.2.2.2.1 r.2.2.2.2)) := by
  have hn : nb 0 F due t.1 = due := if_neg (by decide)
  have hc : t.1 < 19200 := hg
  rw [hn]
  unfold m_Tape_next_Pen
  refine ok_if (fun c => ?_) (fun c => ?_)
  · rw [h.1] at c
    have hlt := (lm_Pen hX hc).mp c
    refine ok_bn3 (pick_Pen h hc hd) ?_
    rintro a1 a2 a3 ⟨g1, g2, g3⟩
    refine ok_letB (ok_some (Or.inr ⟨by omega, g1, ?_, ?_⟩))
    · rcases h.2.2.1 with q | q
      · exact q
      · omega
    · rw [wr_ne (by omega)]
      refine ⟨?_, by show t.1 + 1 ≤ L; omega, ?_, h.2.2.2.1.step hd, g2, g3⟩
      · show p + 1 = nI (t.1 + 1)
        rw [h.1, nI_1]
      · rcases h.2.2.1 with q | q
        · exact Or.inl q
        · omega
  · have he : t.1 = L := by
      rcases Nat.lt_or_ge t.1 L with q | q
      · rw [h.1] at c; exact absurd ((lm_Pen hX hc).mpr q) c
      · have := h.2.1; omega
    exact ok_some (Or.inl ⟨he, rfl, rfl, h.1, h.2.1, Or.inr ⟨rfl, he⟩, h.2.2.2⟩)
theorem next_Tape {fu due L : Nat} {F : Nat → Nat} {t : Nat × (Nat → Nat)} {e p : Int32} (hX : CX_Tape L F) (h : TP_Tape L t e p) (hg : Bg_Tape t.1 1) (hd : due ≤ 1) :
    Ok (m_Tape_next_Tape fu (nI due) e (LM_Tape L) p) (fun r => (t.1 = L ∧ r.1 = -1 ∧ r.2.1 = 1 ∧ TP_Tape L t r.2.1 r.2.2) ∨ (t.1 ≠ L ∧ r.1 = nI (nb 1 F due t.1) ∧ r.2.1 = 0 ∧ TP_Tape L (wr L t (nb 1 F due t.1)) r.2.1 r.2.2)) := by
  have hn : nb 1 F due t.1 = due := if_neg (by decide)
  have hX2 : L ≤ 60000 := hX
  have h2 := h.2.1
  rw [hn]
  unfold m_Tape_next_Tape m_Tape_pick_Tape LM_Tape
  rw [h.1]
  refine ok_if (fun c => ?_) (fun c => ?_)
  · have hlt := (nI_ltI (by omega) (by omega)).mp c
    refine ok_letB (ok_some (Or.inr ⟨by omega, rfl, ?_, ?_⟩))
    · rcases h.2.2.1 with q | q
      · exact q
      · omega
    · rw [wr_ne (by omega)]
      refine ⟨nI_1 t.1, by show t.1 + 1 ≤ L; omega, ?_, h.2.2.2.step hd⟩
      rcases h.2.2.1 with q | q
      · exact Or.inl q
      · omega
  · have he : t.1 = L := by
      rcases Nat.lt_or_ge t.1 L with q | q
      · exact absurd (nI_lt q (by omega)) c
      · omega
    exact ok_some (Or.inl ⟨he, rfl, rfl, rfl, h.2.1, Or.inr ⟨rfl, he⟩, h.2.2.2⟩)
theorem next_Eye {fu due L : Nat} {F : Nat → Nat} {t : Nat × (Nat → Nat)} {e p : Int32} {row : Nat → Int32} (hX : CX_Eye L F row) (h : TP_Eye L t e p) (hg : Bg_Eye t.1 1) (hd : due ≤ 1) :
    Ok (m_Tape_next_Eye fu (nI due) e (LM_Eye L) p row) (fun r => (t.1 = L ∧ r.1 = -1 ∧ r.2.1 = 1 ∧ TP_Eye L t r.2.1 r.2.2) ∨ (t.1 ≠ L ∧ r.1 = nI (nb 2 F due t.1) ∧ r.2.1 = 0 ∧ TP_Eye L (wr L t (nb 2 F due t.1)) r.2.1 r.2.2)) := by
  have hn : nb 2 F due t.1 = fb F t.1 := if_pos rfl
  have hX2 : L ≤ 19200 := hX.1
  have h2 := h.2.1
  have hb : fb F t.1 ≤ 1 := by unfold fb; omega
  rw [hn]
  unfold m_Tape_next_Eye m_Eye_pick_Eye LM_Eye
  rw [h.1]
  refine ok_if (fun c => ?_) (fun c => ?_)
  · have hlt := (nI_ltI (by omega) (by omega)).mp c
    have hf := hX.2 (t.1 / 8) (by omega)
    rw [div8 (by omega), bn1_eq (get_ok (by omega)), and7 (by omega), hf.2, rd7 _ hf.1 _ (by omega)]
    refine ok_letB (ok_some (Or.inr ⟨by omega, rfl, ?_, ?_⟩))
    · rcases h.2.2.1 with q | q
      · exact q
      · omega
    · rw [wr_ne (by omega)]
      refine ⟨nI_1 t.1, by show t.1 + 1 ≤ L; omega, ?_, h.2.2.2.step hb⟩
      rcases h.2.2.1 with q | q
      · exact Or.inl q
      · omega
  · have he : t.1 = L := by
      rcases Nat.lt_or_ge t.1 L with q | q
      · exact absurd (nI_lt q (by omega)) c
      · omega
    exact ok_some (Or.inl ⟨he, rfl, rfl, rfl, h.2.1, Or.inr ⟨rfl, he⟩, h.2.2.2⟩)
theorem say_Pen {fu L v k : Nat} {t : Nat × (Nat → Nat)} {e p : Int32} {cnt : Int32} {row : Nat → Int32} (hfu : 600 < fu) (hv : v < 2 ^ 31) (hk : k ≤ 31) (hX : CX_Pen L (fun _ => 0)) (h : TP_Pen L t e p cnt row) (hg : Bg_Pen t.1 k) :
    Ok (m_Tape_say_Pen fu (nI v) (nI k) e (LM_Pen L) p cnt row) (fun r => TP_Pen L (wrs L (bl v k) t) r.1 r.2.1 r.2.2.1 r.2.2.2) := by
  unfold m_Tape_say_Pen
  refine ok_letB ?_
  refine ok_bn4 (Q := fun r => TP_Pen L (wrs L (bl v k) t) r.1 r.2.1 r.2.2.1 r.2.2.2) ?_ (fun a1 a2 a3 a4 g => ok_some g)
  refine ok_loop5 (fun m x3 e p cnt row => ∃ k' t', x3 = nI k' - 1 ∧ m = k' ∧ k' ≤ 31 ∧ TP_Pen L t' e p cnt row ∧ Bg_Pen t'.1 k' ∧ wrs L (bl v k') t' = wrs L (bl v k) t) ?_ fu k (nI k - 1) e p cnt row (by omega) ⟨k, t, rfl, rfl, hk, h, hg, rfl⟩
  clear h hg
  rintro rec m x3 e p cnt row ⟨k', t', rfl, rfl, hk', h, hg, he⟩ ih
  unfold m_Tape_say_Pen_k4
  cases m with
  | zero =>
    refine ok_if (fun _ => ?_) (fun c => absurd (by decide) c)
    have he : t' = wrs L (bl v k) t := he
    rw [← he]
    exact ok_some h
  | succ k' =>
    rw [nIp1]
    refine ok_if (fun c => absurd c (nI_pos (by omega))) (fun _ => ?_)
    rw [bit_of hv (by omega)]
    have hb : v / 2 ^ k' % 2 ≤ 1 := by omega
    have hmove : (nI k' + (-1 : Int32)) = nI k' - 1 := by rw [Int32.sub_eq_add_neg]
    have hn : nb 0 (fun _ => 0) (v / 2 ^ k' % 2) t'.1 = v / 2 ^ k' % 2 := if_neg (by decide)
    refine ok_bn5 (next_Pen hX h (hg.mono (by omega)) hb) ?_
    rw [hn]
    rintro a a1 a2 a3 a4 g
    refine ok_letB ?_
    rw [hmove]
    rcases g with ⟨g0, _, _, g1⟩ | ⟨_, _, _, g1⟩
    · refine ih k' _ _ _ _ _ (by omega) ⟨k', t', rfl, rfl, by omega, g1, hg.mono (by omega), ?_⟩
      rw [← he, wrs_full g0, wrs_full g0]
    · have := wr_le (b := v / 2 ^ k' % 2) h.2.1
      exact ih k' _ _ _ _ _ (by omega) ⟨k', wr L t' (v / 2 ^ k' % 2), rfl, rfl, by omega, g1, hg.mono (by omega), he⟩
theorem say_Tape {fu L v k : Nat} {t : Nat × (Nat → Nat)} {e p : Int32} (hfu : 600 < fu) (hv : v < 2 ^ 31) (hk : k ≤ 31) (hX : CX_Tape L (fun _ => 0)) (h : TP_Tape L t e p) (hg : Bg_Tape t.1 k) :
    Ok (m_Tape_say_Tape fu (nI v) (nI k) e (LM_Tape L) p) (fun r => TP_Tape L (wrs L (bl v k) t) r.1 r.2) := by
  unfold m_Tape_say_Tape
  refine ok_letB ?_
  refine ok_bn2 (Q := fun r => TP_Tape L (wrs L (bl v k) t) r.1 r.2) ?_ (fun a1 a2 g => ok_some g)
  refine ok_loop3 (fun m x3 e p => ∃ k' t', x3 = nI k' - 1 ∧ m = k' ∧ k' ≤ 31 ∧ TP_Tape L t' e p ∧ Bg_Tape t'.1 k' ∧ wrs L (bl v k') t' = wrs L (bl v k) t) ?_ fu k (nI k - 1) e p (by omega) ⟨k, t, rfl, rfl, hk, h, hg, rfl⟩
  clear h hg
  rintro rec m x3 e p ⟨k', t', rfl, rfl, hk', h, hg, he⟩ ih
  unfold m_Tape_say_Tape_k4
  cases m with
  | zero =>
    refine ok_if (fun _ => ?_) (fun c => absurd (by decide) c)
    have he : t' = wrs L (bl v k) t := he
    rw [← he]
    exact ok_some h
  | succ k' =>
    rw [nIp1]
    refine ok_if (fun c => absurd c (nI_pos (by omega))) (fun _ => ?_)
    rw [bit_of hv (by omega)]
    have hb : v / 2 ^ k' % 2 ≤ 1 := by omega
    have hmove : (nI k' + (-1 : Int32)) = nI k' - 1 := by rw [Int32.sub_eq_add_neg]
    have hn : nb 1 (fun _ => 0) (v / 2 ^ k' % 2) t'.1 = v / 2 ^ k' % 2 := if_neg (by decide)
    refine ok_bn3 (next_Tape hX h (hg.mono (by omega)) hb) ?_
    rw [hn]
    rintro a a1 a2 g
    refine ok_letB ?_
    rw [hmove]
    rcases g with ⟨g0, _, _, g1⟩ | ⟨_, _, _, g1⟩
    · refine ih k' _ _ _ (by omega) ⟨k', t', rfl, rfl, by omega, g1, hg.mono (by omega), ?_⟩
      rw [← he, wrs_full g0, wrs_full g0]
    · have := wr_le (b := v / 2 ^ k' % 2) h.2.1
      exact ih k' _ _ _ (by omega) ⟨k', wr L t' (v / 2 ^ k' % 2), rfl, rfl, by omega, g1, hg.mono (by omega), he⟩
