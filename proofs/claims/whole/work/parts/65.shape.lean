theorem i32_0 : (0 : Int32).toInt = 0 := by decide
theorem has_eq (fu : Nat) (X Y : Int32) {W H : Nat} (hW : W ≤ 16) (hH : H ≤ 16) : m_Shape_has fu X Y (nI H) (nI W) = some (if 0 ≤ X.toInt ∧ X.toInt < W ∧ 0 ≤ Y.toInt ∧ Y.toInt < H then 1 else 0) := by
  unfold m_Shape_has m_Shape_has_b28 m_Shape_has_b29
  have eW := nI_toInt (n := W) (by omega)
  have eH := nI_toInt (n := H) (by omega)
  simp only [Int32.lt_iff_toInt_lt, Int32.le_iff_toInt_le, i32_0, eW, eH, chkB_ok (Or.inl rfl : (0 : Int32) = 0 ∨ (0 : Int32) = 1), chkB_ok (Or.inr rfl : (1 : Int32) = 0 ∨ (1 : Int32) = 1)]
  by_cases c : 0 ≤ X.toInt ∧ X.toInt < W ∧ 0 ≤ Y.toInt ∧ Y.toInt < H
  · rw [if_pos c, if_neg (by omega), if_neg (by omega), if_neg (by omega), if_neg (by omega)]
  · rw [if_neg c]
    by_cases h1 : X.toInt < 0
    · rw [if_pos h1]
    · rw [if_neg h1]
      by_cases h2 : (W : Int) ≤ X.toInt
      · rw [if_pos h2]
      · rw [if_neg h2]
        by_cases h3 : Y.toInt < 0
        · rw [if_pos h3]
        · rw [if_neg h3, if_pos (by omega)]
/-- nothing is inside beyond the picture -/
def Out (W H : Nat) (ins : Nat → Int32) : Prop := ∀ a, a < 256 → (W ≤ a % 16 ∨ H ≤ a / 16) → ins a = 0
/-- the row of samples that a part is gone through by -/
def QS (ins P0 : Nat → Int32) (n : Int32) (s e : Nat) (q P : Nat → Int32) : Prop := Fl ins P0 n s P ∧ P s = n ∧ cn P 256 = cn P0 256 + e ∧ (∀ t, t < e → ∃ c, c < 256 ∧ q t = nI c ∧ P0 c = -1 ∧ P c ≠ -1) ∧ ∀ c, c < 256 → P0 c = -1 → P c ≠ -1 → ∃ t, t < e ∧ q t = nI c
def Ex (e : Nat) (q P : Nat → Int32) (e' : Nat) (q' P' : Nat → Int32) : Prop := e ≤ e' ∧ (∀ t, t < e → q' t = q t) ∧ ∀ c, P c ≠ -1 → P' c ≠ -1
theorem Ex.refl {e : Nat} {q P : Nat → Int32} : Ex e q P e q P := ⟨Nat.le_refl _, fun _ _ => rfl, fun _ h => h⟩
theorem Ex.trans {e e1 e2 : Nat} {q P q1 P1 q2 P2 : Nat → Int32} (h : Ex e q P e1 q1 P1) (g : Ex e1 q1 P1 e2 q2 P2) : Ex e q P e2 q2 P2 := ⟨Nat.le_trans h.1 g.1, fun t ht => by rw [g.2.1 t (Nat.lt_of_lt_of_le ht h.1), h.2.1 t ht], fun c hc => g.2.2 c (h.2.2 c hc)⟩
theorem QS.add {ins P0 : Nat → Int32} {n : Int32} {s e a b : Nat} {q P : Nat → Int32} (hn : n ≠ -1) (h : QS ins P0 n s e q P) (ha : a < 256) (h0 : P0 a = -1) (hPa : P a ≠ -1) (hab : adj a b) (hb : ins b ≠ 0) (hPb : P b = -1) : QS ins P0 n s (e + 1) (upd q e (nI b)) (upd P b n) ∧ Ex e q P (e + 1) (upd q e (nI b)) (upd P b n) := by
  obtain ⟨h1, h2, h3, h4, h5⟩ := h
  have hb2 := adj_lt ha hab
  have hc := cn_upd (v := n) hb2 hPb hn
  have h0b : P0 b = -1 := by
    rcases h1 b hb2 with q | q
    · rw [← q]; exact hPb
    · exact q.1
  refine ⟨⟨h1.add ha h0 hPa hab hb hPb, ?_, by omega, ?_, ?_⟩, by omega, fun t ht => pk_un (by omega), fun c hc => ?_⟩
  · by_cases e : s = b
    · subst e; exact pk_us
    · rw [pk_un e]; exact h2
  · intro t ht
    by_cases e : t = e
    · subst e; exact ⟨b, hb2, pk_us, h0b, by rw [pk_us]; exact hn⟩
    · obtain ⟨c, c1, c2, c3, c4⟩ := h4 t (by omega)
      refine ⟨c, c1, by rw [pk_un e]; exact c2, c3, ?_⟩
      by_cases e2 : c = b
      · subst e2; rw [pk_us]; exact hn
      · rw [pk_un e2]; exact c4
  · intro c hc hc0 hcP
    by_cases e2 : c = b
    · subst e2; exact ⟨e, by omega, pk_us⟩
    · rw [pk_un e2] at hcP
      obtain ⟨t, t1, t2⟩ := h5 c hc hc0 hcP
      exact ⟨t, by omega, by rw [pk_un (by omega)]; exact t2⟩
  · by_cases e2 : c = b
    · subst e2; rw [pk_us]; exact hn
    · rw [pk_un e2]; exact hc
/-- a sample joins or not -/
theorem join_ok {fu : Nat} {ins P0 : Nat → Int32} {n : Int32} {s e a b : Nat} {q P : Nat → Int32} (hn : n ≠ -1) (h : QS ins P0 n s e q P) (ha : a < 256) (h0 : P0 a = -1) (hPa : P a ≠ -1) (hab : adj a b) :
    Ok (m_Shape_join fu (nI b) (nI e) n ins P q) (fun r => ∃ e', r.1 = nI e' ∧ QS ins P0 n s e' r.2.2 r.2.1 ∧ Ex e q P e' r.2.2 r.2.1 ∧ (ins b ≠ 0 → r.2.1 b ≠ -1)) := by
  have hb2 := adj_lt ha hab
  have hcl : (nI b).toNatClampNeg = b := nI_clamp (by omega)
  unfold m_Shape_join m_Shape_join_b26
  rw [hcl]
  refine ok_chk (vp_nI hb2) ?_
  refine ok_if (fun c => ok_some ⟨e, rfl, h, Ex.refl, fun q => absurd c q⟩) (fun c => ok_chk (vp_nI hb2) ?_)
  refine ok_if (fun c2 => ?_) (fun c2 => ok_some ⟨e, rfl, h, Ex.refl, fun q => c2⟩)
  have he : e < 256 := by
    have := cn_lt hb2 c2
    have := h.2.2.1
    omega
  refine ok_if (fun c3 => ?_) (fun c3 => absurd (nI_lt (b := 256) he (by decide)) c3)
  refine ok_chk (vp_nI hb2) (ok_chk (vp_nI he) ?_)
  rw [nI_1, nI_clamp (by omega)]
  have hh := h.add hn ha h0 hPa hab c c2
  exact ok_some ⟨e + 1, rfl, hh.1, hh.2, fun _ => by show upd P b n b ≠ -1; rw [pk_us]; exact hn⟩
/-- one side of a sample: looked at if the picture has it -/
theorem side_ok {fu : Nat} {ins P0 : Nat → Int32} {n : Int32} {s e a W H : Nat} {q P : Nat → Int32} {ρ : Type} {K : Int32 → (Nat → Int32) → (Nat → Int32) → Option ρ} {Post : ρ → Prop} {X Y B : Int32} {dx dy : Int} (hn : n ≠ -1) (hW : W ≤ 16) (hH : H ≤ 16) (hO : Out W H ins) (h : QS ins P0 n s e q P) (ha : a < 256) (h0 : P0 a = -1) (hPa : P a ≠ -1)
    (hX : X.toInt = (a % 16 : Nat) + dx) (hY : Y.toInt = (a / 16 : Nat) + dy) (hd : (dx = -1 ∧ dy = 0) ∨ (dx = 1 ∧ dy = 0) ∨ (dx = 0 ∧ dy = -1) ∨ (dx = 0 ∧ dy = 1)) (hB : ∀ b : Nat, (b : Int) = a + dx + 16 * dy → B = nI b)
    (hK : ∀ e' q' P', QS ins P0 n s e' q' P' → Ex e q P e' q' P' → (∀ b : Nat, (b : Int) = a + dx + 16 * dy → adj a b → ins b ≠ 0 → P' b ≠ -1) → Ok (K (nI e') P' q') Post) :
    Ok (bn1 (m_Shape_has fu X Y (nI H) (nI W)) (fun r => if r = 0 then K (nI e) P q else bn3 (m_Shape_join fu B (nI e) n ins P q) (fun r2 p2 q2 => K r2 p2 q2))) Post := by
  rw [bn1_eq (has_eq fu X Y hW hH)]
  by_cases c : 0 ≤ X.toInt ∧ X.toInt < W ∧ 0 ≤ Y.toInt ∧ Y.toInt < H
  · rw [if_pos c]
    refine ok_if (fun c => absurd c (by decide)) (fun _ => ?_)
    obtain ⟨b, hb⟩ : ∃ b : Nat, (b : Int) = a + dx + 16 * dy := ⟨(a + dx + 16 * dy).toNat, by omega⟩
    have hab : adj a b := by unfold adj; omega
    rw [hB b hb]
    refine ok_bn3 (join_ok hn h ha h0 hPa hab) ?_
    rintro a1 a2 a3 ⟨e', e1, g1, g2, g3⟩
    dsimp only at e1 g1 g2 g3
    subst e1
    refine hK e' a3 a2 g1 g2 (fun b' hb' _ hi => ?_)
    have : b' = b := by omega
    subst this
    exact g3 hi
  · rw [if_neg c]
    refine ok_if (fun _ => ?_) (fun c => absurd rfl c)
    refine hK e q P h Ex.refl (fun b hb hab hi => ?_)
    refine absurd (hO b (adj_lt ha hab) ?_) hi
    unfold adj at hab
    omega
theorem col_eq (fu : Nat) {a : Nat} (h : a < 256) : m_FW_columnOf fu (nI a) = some (nI (a % 16)) := by unfold m_FW_columnOf; rw [pk_andN (by omega) 4 (by decide)]
theorem row_eq (fu : Nat) {a : Nat} (h : a < 256) : m_FW_rowOf fu (nI a) = some (nI (a / 16)) := by unfold m_FW_rowOf; rw [pk_shrN (by omega) _ 4 (by decide)]
theorem spread_k9 {fu : Nat} {ins P0 : Nat → Int32} {n x1 cnt : Int32} {s W H : Nat} {f z : Nat → Int32} {q P : Nat → Int32} (hfu : 600 < fu) (hn : n ≠ -1) (hW : W ≤ 16) (hH : H ≤ 16) (hO : Out W H ins) (h : QS ins P0 n s 1 q P) :
    Ok (loop4 (m_Shape_spread_k9 fu x1 cnt (nI H) n (nI W) f ins z) fu 1 0 P q) (fun r => ∃ e', r.1 = nI e' ∧ QS ins P0 n s e' r.2.2 r.2.1 ∧ ∀ c, c < 256 → P0 c = -1 → r.2.1 c ≠ -1 → Dn ins r.2.1 c) := by
  refine ok_loop4 (fun m x2 x3 P q => ∃ e i, x2 = nI e ∧ x3 = nI i ∧ i ≤ e ∧ m = 256 - i ∧ QS ins P0 n s e q P ∧ ∀ t c, t < i → c < 256 → q t = nI c → Dn ins P c) ?_ fu 256 1 0 P q (by omega) ⟨1, 0, rfl, rfl, by omega, rfl, h, fun t c h => absurd h (Nat.not_lt_zero _)⟩
  clear h
  rintro rec m x2 x3 P q ⟨e, i, rfl, rfl, hi, hm, hS, hD⟩ ih
  unfold m_Shape_spread_k9
  have he : e ≤ 256 := by
    have := cn_le P 256
    have := hS.2.2.1
    omega
  have fin : i = e → Ok (some (nI e, P, q)) (fun r => ∃ e', r.1 = nI e' ∧ QS ins P0 n s e' r.2.2 r.2.1 ∧ ∀ c, c < 256 → P0 c = -1 → r.2.1 c ≠ -1 → Dn ins r.2.1 c) := by
    intro ee
    refine ok_some ⟨e, rfl, hS, fun c hc hc0 hcP => ?_⟩
    obtain ⟨t, t1, t2⟩ := hS.2.2.2.2 c hc hc0 hcP
    exact hD t c (by omega) hc t2
  refine ok_if (fun c => ?_) (fun c => ?_)
  · have : e ≤ i := (nI_leI (by omega) (by omega)).mp c
    exact fin (by omega)
  · have hie : i < e := by
      rcases Nat.lt_or_ge i e with q | q
      · exact q
      · exact absurd (nI_le q (by omega)) c
    refine ok_if (fun c2 => ?_) (fun c2 => ?_)
    · have : 256 ≤ i := (nI_leI (a := 256) (by decide) (by omega)).mp c2
      omega
    refine ok_chk (vp_nI (by omega)) (ok_letB ?_)
    rw [nI_clamp (by omega)]
    obtain ⟨a, ha, hqa, ha0, haP⟩ := hS.2.2.2.1 i hie
    rw [hqa, bn1_eq (col_eq fu ha), bn1_eq (row_eq fu ha)]
    have tx := nI_toInt (n := a % 16) (by omega)
    have ty := nI_toInt (n := a / 16) (by omega)
    refine side_ok (K := fun t0 p2 q2 => m_Shape_spread_b69 fu rec x1 (nI i) (nI a) (nI (a % 16)) (nI (a / 16)) t0 cnt (nI H) n (nI W) f ins p2 q2 z) (dx := -1) (dy := 0) hn hW hH hO hS ha ha0 haP (by rw [show (1 : Int32) = nI 1 from rfl, pk_sub_toInt (by omega) (by omega)]; omega) (by omega) (by omega) (fun b hb => by rw [show (1 : Int32) = nI 1 from rfl, pk_sub (by omega)]; congr 1; omega) ?_
    intro e1 q1 P1 S1 E1 D1
    show Ok (m_Shape_spread_b69 _ _ _ _ _ _ _ _ _ _ _ _ _ _ _ _ _) _
    unfold m_Shape_spread_b69
    refine side_ok (K := fun t0 p2 q2 => m_Shape_spread_b96 fu rec x1 (nI i) (nI a) (nI (a % 16)) (nI (a / 16)) t0 cnt (nI H) n (nI W) f ins p2 q2 z) (dx := 1) (dy := 0) hn hW hH hO S1 ha ha0 (E1.2.2 a haP) (by rw [nI_1, nI_toInt (by omega)]; omega) (by omega) (by omega) (fun b hb => by rw [nI_1]; congr 1; omega) ?_
    intro e2 q2 P2 S2 E2 D2
    show Ok (m_Shape_spread_b96 _ _ _ _ _ _ _ _ _ _ _ _ _ _ _ _ _) _
    unfold m_Shape_spread_b96
    have E12 := E1.trans E2
    refine side_ok (K := fun t0 p2 q2 => m_Shape_spread_b124 fu rec x1 (nI i) (nI a) (nI (a % 16)) (nI (a / 16)) t0 cnt (nI H) n (nI W) f ins p2 q2 z) (dx := 0) (dy := -1) hn hW hH hO S2 ha ha0 (E12.2.2 a haP) (by omega) (by rw [show (1 : Int32) = nI 1 from rfl, pk_sub_toInt (by omega) (by omega)]; omega) (by omega) (fun b hb => by rw [show (16 : Int32) = nI 16 from rfl, pk_sub (by omega)]; congr 1; omega) ?_
    intro e3 q3 P3 S3 E3 D3
    show Ok (m_Shape_spread_b124 _ _ _ _ _ _ _ _ _ _ _ _ _ _ _ _ _) _
    unfold m_Shape_spread_b124
    have E13 := E12.trans E3
    refine side_ok (K := fun t0 p2 q2 => m_Shape_spread_b152 fu rec x1 (nI i) t0 cnt (nI H) n (nI W) f ins p2 q2 z) (dx := 0) (dy := 1) hn hW hH hO S3 ha ha0 (E13.2.2 a haP) (by omega) (by rw [nI_1, nI_toInt (by omega)]; omega) (by omega) (fun b hb => by rw [show (16 : Int32) = nI 16 from rfl, nI_add]; congr 1; omega) ?_
    intro e4 q4 P4 S4 E4 D4
    show Ok (m_Shape_spread_b152 _ _ _ _ _ _ _ _ _ _ _ _ _ _) _
    unfold m_Shape_spread_b152
    have E14 := E13.trans E4
    refine ok_letB ?_
    rw [nI_1]
    refine ih (256 - (i + 1)) _ _ _ _ (by omega) ⟨e4, i + 1, rfl, rfl, by have := E14.1; omega, rfl, S4, ?_⟩
    intro t d ht hd hqd
    have hte : t < e := by omega
    rw [E14.2.1 t hte] at hqd
    by_cases et : t = i
    · subst et
      have : d = a := by rw [hqa] at hqd; exact ((nI_eq (by omega) (by omega)).mp hqd).symm
      subst this
      intro b hab hi
      have : (b : Int) = d + (-1) + 16 * 0 ∨ (b : Int) = d + 1 + 16 * 0 ∨ (b : Int) = d + 0 + 16 * (-1) ∨ (b : Int) = d + 0 + 16 * 1 := by
        have hab := hab
        unfold adj at hab; omega
      rcases this with q | q | q | q
      · exact ((E2.trans E3).trans E4).2.2 b (D1 b q hab hi)
      · exact (E3.trans E4).2.2 b (D2 b q hab hi)
      · exact E4.2.2 b (D3 b q hab hi)
      · exact D4 b q hab hi
    · have hg := hD t d (by omega) hd hqd
      intro b hab hi
      exact E14.2.2 b (hg b hab hi)
