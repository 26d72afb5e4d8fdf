/-! PARTS: neighbours, what is reached, labels -/
def adj (i j : Nat) : Prop := (j + 1 = i ∧ i % 16 ≠ 0) ∨ (j = i + 1 ∧ i % 16 ≠ 15) ∨ j + 16 = i ∨ (j = i + 16 ∧ j < 256)
theorem adj_symm {i j : Nat} (hi : i < 256) (h : adj i j) : adj j i := by unfold adj at *; omega
theorem adj_lt {i j : Nat} (hi : i < 256) (h : adj i j) : j < 256 := by unfold adj at *; omega
def Rch (ins : Nat → Int32) (i j : Nat) : Prop := ∀ S : Nat → Prop, S i → (∀ a b : Nat, S a → a < 256 → adj a b → ins b ≠ 0 → S b) → S j
theorem Rch.refl {ins : Nat → Int32} {i : Nat} : Rch ins i i := fun _ h _ => h
theorem Rch.step {ins : Nat → Int32} {i a b : Nat} (h : Rch ins i a) (ha : a < 256) (hab : adj a b) (hb : ins b ≠ 0) : Rch ins i b := fun S h1 h2 => h2 a b (h S h1 h2) ha hab hb
/-- how many have a label -/
def cn (P : Nat → Int32) : Nat → Nat
  | 0 => 0
  | n + 1 => cn P n + (if P n = -1 then 0 else 1)
theorem cn_le (P : Nat → Int32) (n : Nat) : cn P n ≤ n := by
  induction n with
  | zero => exact Nat.le_refl _
  | succ n ih => simp only [cn]; split <;> omega
theorem cn_lt {P : Nat → Int32} {n j : Nat} (hj : j < n) (h : P j = -1) : cn P n < n := by
  induction n with
  | zero => omega
  | succ n ih =>
    have := cn_le P n
    simp only [cn]
    by_cases e : j = n
    · subst e; rw [if_pos h]; omega
    · have := ih (by omega); split <;> omega
theorem cn_upd {P : Nat → Int32} {n j : Nat} {v : Int32} (hj : j < n) (h : P j = -1) (hv : v ≠ -1) : cn (upd P j v) n = cn P n + 1 := by
  induction n with
  | zero => omega
  | succ n ih =>
    simp only [cn]
    by_cases e : j = n
    · subst e
      have : ∀ m, m ≤ j → cn (upd P j v) m = cn P m := by
        intro m hm
        induction m with
        | zero => rfl
        | succ m ih => simp only [cn]; rw [ih (by omega), pk_un (by omega)]
      rw [this j (Nat.le_refl _), pk_us, if_neg hv, if_pos h]
    · rw [ih (by omega), pk_un (fun q => e q.symm)]; omega
theorem cn_congr {P Q : Nat → Int32} {n : Nat} (h : ∀ j, j < n → P j = Q j) : cn P n = cn Q n := by
  induction n with
  | zero => rfl
  | succ n ih => simp only [cn]; rw [ih (fun j hj => h j (by omega)), h n (by omega)]
/-- labels so far: of samples inside alone, whole parts -/
def Cls (ins P : Nat → Int32) : Prop := (∀ a, a < 256 → P a ≠ -1 → ins a ≠ 0) ∧ ∀ a b, a < 256 → P a ≠ -1 → adj a b → ins b ≠ 0 → P b ≠ -1
/-- labels while a part is gone through from s -/
def Fl (ins P0 : Nat → Int32) (n : Int32) (s : Nat) (P : Nat → Int32) : Prop := ∀ j, j < 256 → P j = P0 j ∨ (P0 j = -1 ∧ P j = n ∧ ins j ≠ 0 ∧ Rch ins s j)
def Dn (ins P : Nat → Int32) (a : Nat) : Prop := ∀ b, adj a b → ins b ≠ 0 → P b ≠ -1
theorem Fl.start {ins P0 : Nat → Int32} {n : Int32} {s : Nat} (h : P0 s = -1) (hs : ins s ≠ 0) : Fl ins P0 n s (upd P0 s n) := by
  intro j hj
  by_cases e : j = s
  · subst e; exact Or.inr ⟨h, pk_us, hs, Rch.refl⟩
  · exact Or.inl (pk_un e)
theorem Fl.add {ins P0 P : Nat → Int32} {n : Int32} {s a b : Nat} (h : Fl ins P0 n s P) (ha : a < 256) (hn : P0 a = -1) (hPa : P a ≠ -1) (hab : adj a b) (hb : ins b ≠ 0) (hPb : P b = -1) : Fl ins P0 n s (upd P b n) := by
  intro j hj
  by_cases e : j = b
  · subst e
    have hr : Rch ins s a := by
      rcases h a ha with q | q
      · rw [q] at hPa; exact absurd hn hPa
      · exact q.2.2.2
    rcases h j hj with q | q
    · exact Or.inr ⟨by rw [← q]; exact hPb, pk_us, hb, hr.step ha hab hb⟩
    · exact Or.inr ⟨q.1, pk_us, hb, hr.step ha hab hb⟩
  · rw [pk_un e]; exact h j hj
theorem Dn.mono {ins P : Nat → Int32} {a b : Nat} {n : Int32} (h : Dn ins P a) (hn : n ≠ -1) : Dn ins (upd P b n) a := by
  intro c hc hi
  by_cases e : c = b
  · subst e; rw [pk_us]; exact hn
  · rw [pk_un e]; exact h c hc hi
/-- when all are gone through: just what is reached has the label -/
theorem Fl.done {ins P0 P : Nat → Int32} {n : Int32} {s : Nat} (hs : s < 256) (hn : n ≠ -1) (h0 : P0 s = -1) (hi : ins s ≠ 0) (hc : Cls ins P0) (hPs : P s = n) (h : Fl ins P0 n s P) (hd : ∀ a, a < 256 → P0 a = -1 → P a ≠ -1 → Dn ins P a) :
    (∀ j, j < 256 → (Rch ins s j → P j = n ∧ P0 j = -1) ∧ (¬ Rch ins s j → P j = P0 j)) ∧ Cls ins P := by
  have key : ∀ j, Rch ins s j → j < 256 ∧ ins j ≠ 0 ∧ P0 j = -1 ∧ P j = n := by
    intro j hr
    refine hr (fun j => j < 256 ∧ ins j ≠ 0 ∧ P0 j = -1 ∧ P j = n) ⟨hs, hi, h0, hPs⟩ ?_
    intro a b ⟨h1, h2, h3, h4⟩ ha hab hb
    have hb2 := adj_lt ha hab
    have h5 : P b ≠ -1 := hd a ha h3 (by rw [h4]; exact hn) b hab hb
    have h6 : P0 b = -1 := Classical.byContradiction fun q => hc.2 b a hb2 q (adj_symm ha hab) h2 h3
    rcases h b hb2 with q | q
    · rw [q] at h5; exact absurd h6 h5
    · exact ⟨hb2, hb, h6, q.2.1⟩
  refine ⟨fun j hj => ⟨fun hr => ⟨(key j hr).2.2.2, (key j hr).2.2.1⟩, fun hr => ?_⟩, ?_, ?_⟩
  · rcases h j hj with q | q
    · exact q
    · exact absurd q.2.2.2 hr
  · intro a ha hPa
    rcases h a ha with q | q
    · rw [q] at hPa; exact hc.1 a ha hPa
    · exact q.2.2.1
  · intro a b ha hPa hab hb
    have hb2 := adj_lt ha hab
    by_cases q : P0 a = -1
    · exact hd a ha q hPa b hab hb
    · have h1 := hc.2 a b ha q hab hb
      rcases h b hb2 with q2 | q2
      · rw [q2]; exact h1
      · rw [q2.2.1]; exact hn
/-- the neighbours, by the reference's ways -/
def nbr (a w : Nat) : Option Nat := if w = 0 then (if a % 16 = 0 then none else some (a - 1)) else if w = 1 then (if a % 16 = 15 then none else some (a + 1)) else if w = 2 then (if a < 16 then none else some (a - 16)) else (if 256 ≤ a + 16 then none else some (a + 16))
def oI (o : Option Nat) : Int32 := match o with
  | some b => nI b
  | none => -1
theorem beside_0 : ∀ a, a < 256 → ∀ w, w < 4 → m_Md_beside 0 (nI a) (nI w) = some (oI (nbr a w)) := by decide +kernel
theorem beside_eq (fu : Nat) {a w : Nat} (ha : a < 256) (hw : w < 4) : m_Md_beside fu (nI a) (nI w) = some (oI (nbr a w)) := beside_0 a ha w hw
theorem nbr_adj {a w b : Nat} (ha : a < 256) (h : nbr a w = some b) : adj a b := by
  unfold nbr at h
  unfold adj
  split at h
  · split at h <;> simp at h; omega
  · split at h
    · split at h <;> simp at h; omega
    · split at h
      · split at h <;> simp at h; omega
      · split at h <;> simp at h; omega
theorem adj_nbr {a b : Nat} (ha : a < 256) (h : adj a b) : ∃ w, w < 4 ∧ nbr a w = some b := by
  unfold adj at h
  rcases h with h | h | h | h
  · exact ⟨0, by omega, by simp [nbr]; omega⟩
  · exact ⟨1, by omega, by simp [nbr]; omega⟩
  · exact ⟨2, by omega, by simp [nbr]; omega⟩
  · exact ⟨3, by omega, by simp [nbr]; omega⟩
