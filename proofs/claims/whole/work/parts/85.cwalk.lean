/-! THE WALK: the class -/
def kv (sz : Nat → Nat) (bw : Nat → Int32) (j : Nat) : Int32 := if bw j = 0 then nI (sz j) else -(nI (sz j))
def CN (x : (Nat × (Nat → Nat)) × Bool × (Nat → Nat) × (Nat → Int32) × (Nat → Int32) × (Nat → Int32)) (known left opn : Nat → Int32) : Prop := (∀ j, j < 256 → known j = kv x.2.2.1 x.2.2.2.1 j) ∧ (∀ l, l < 4 → left l = x.2.2.2.2.2 l) ∧ ∀ s, s < 340 → opn (cks s) = x.2.2.2.2.1 s
def CE (e : Int32) (b : Bool) : Prop := (e = 0 ∧ b = false) ∨ (e = 1 ∧ b = true)
theorem neg_kv {n : Nat} (h : 0 < n) (h2 : n < 2 ^ 30) : ¬ (0 : Int32) ≤ -(nI n) := by
  intro q
  rw [Int32.le_iff_toInt_le, neg_toInt (by rw [nI_toInt (by omega)]; omega), nI_toInt (by omega)] at q
  have h0 : (0 : Int32).toInt = 0 := by decide
  omega
theorem CN.op0 {x : (Nat × (Nat → Nat)) × Bool × (Nat → Nat) × (Nat → Int32) × (Nat → Int32) × (Nat → Int32)} {known left opn : Nat → Int32} {l p : Nat} (hP : PS l p) (h : CN x known left opn) : opn (ck l p) = x.2.2.2.2.1 (sid l p) := by
  have a := sid_ok hP
  rw [← a.2.2.1]
  exact h.2.2 _ a.1
theorem op_same {opn op : Nat → Int32} {l p : Nat} {v : Int32} (hP : PS l p) (h : ∀ s, s < 340 → opn (cks s) = op s) (h0 : op (sid l p) = v) : ∀ s, s < 340 → upd opn (ck l p) v (cks s) = op s := by
  intro s hs
  have a := sid_ok hP
  rw [← a.2.2.1]
  by_cases e : cks s = cks (sid l p)
  · have e2 := cks_inj hs a.1 e
    rw [e2, pk_us, h0]
  · rw [pk_un e]; exact h s hs
theorem op_set {opn op : Nat → Int32} {l p : Nat} {v : Int32} (hP : PS l p) (h : ∀ s, s < 340 → opn (cks s) = op s) : ∀ s, s < 340 → upd opn (ck l p) v (cks s) = upd op (sid l p) v s := by
  intro s hs
  have a := sid_ok hP
  rw [← a.2.2.1]
  by_cases e : cks s = cks (sid l p)
  · have e2 := cks_inj hs a.1 e
    rw [e2, pk_us, pk_us]
  · have e2 : s ≠ sid l p := fun q => e (by rw [q])
    rw [pk_un e, pk_un e2]; exact h s hs
theorem lf_set {lf zs : Nat → Int32} {l : Nat} (h : ∀ k, k < 4 → lf k = zs k) (hl : l < 4) : ∀ k, k < 4 → upd lf l (lf l + 1) k = upd zs l (zs l + 1) k := by
  intro k hk
  by_cases e : k = l
  · rw [e, pk_us, pk_us, h l hl]
  · rw [pk_un e, pk_un e]; exact h k hk
def kd (md : Int32) (F : Nat → Nat) (L pl : Nat) (ins w : Nat → Int32) (l p : Nat) (x : (Nat × (Nat → Nat)) × Bool × (Nat → Nat) × (Nat → Int32) × (Nat → Int32) × (Nat → Int32)) : Nat → (Nat × (Nat → Nat)) × Bool × (Nat → Nat) × (Nat → Int32) × (Nat → Int32) × (Nat → Int32)
  | 0 => x
  | j + 1 => go md F L pl ins w l (4 * p + j) (kd md F L pl ins w l p x j)
theorem kd_IV {md : Int32} {F : Nat → Nat} {L pl l p j : Nat} {ins w : Nat → Int32} {x : (Nat × (Nat → Nat)) × Bool × (Nat → Nat) × (Nat → Int32) × (Nat → Int32) × (Nat → Int32)} (hP : PS (l + 1) p) (h : IV L pl (4 ^ (l + 1) * p) x) (hj : j ≤ 4) : IV L pl (4 ^ l * (4 * p + j)) (kd md F L pl ins w l p x j) := by
  induction j with
  | zero => rw [← (kid0 l p).1]; exact h
  | succ j ih =>
    have a := go_IV (md := md) (F := F) (ins := ins) (w := w) (hP.kid (j := j) (by omega)) (ih (by omega))
    have e : 4 ^ l * (4 * p + (j + 1)) = 4 ^ l * (4 * p + j) + 4 ^ l := by rw [← Nat.add_assoc, Nat.mul_succ]
    rw [e]
    exact a
def kq (md : Int32) (F : Nat → Nat) (L pl : Nat) (ins w : Nat → Int32) (x : (Nat × (Nat → Nat)) × Bool × (Nat → Nat) × (Nat → Int32) × (Nat → Int32) × (Nat → Int32)) : Nat → (Nat × (Nat → Nat)) × Bool × (Nat → Nat) × (Nat → Int32) × (Nat → Int32) × (Nat → Int32)
  | 0 => x
  | j + 1 => go md F L pl ins w 3 j (kq md F L pl ins w x j)
theorem kq_IV {md : Int32} {F : Nat → Nat} {L pl j : Nat} {ins w : Nat → Int32} {x : (Nat × (Nat → Nat)) × Bool × (Nat → Nat) × (Nat → Int32) × (Nat → Int32) × (Nat → Int32)} (h : IV L pl 0 x) (hj : j ≤ 4) : IV L pl (4 ^ 3 * j) (kq md F L pl ins w x j) := by
  induction j with
  | zero => exact h
  | succ j ih =>
    have a := go_IV (md := md) (F := F) (ins := ins) (w := w) (ps3 (q := j) (by omega)) (ih (by omega))
    have e : 4 ^ 3 * (j + 1) = 4 ^ 3 * j + 4 ^ 3 := Nat.mul_succ _ _
    rw [e]
    exact a
theorem gos_sz {md : Int32} {F : Nat → Nat} {L k : Nat} {ins w : Nat → Int32} {x : (Nat × (Nat → Nat)) × Bool × (Nat → Nat) × (Nat → Int32) × (Nat → Int32) × (Nat → Int32)} (h : k = 0 ∨ IV L (k - 1) 0 x) (h0 : ∀ j, j < 256 → x.2.2.1 j ≤ 1048576) : ∀ j, j < 256 → (gos md F L ins w k x).2.2.1 j ≤ 1048576 := by
  induction k generalizing x with
  | zero => exact h0
  | succ k ih =>
    have h1 : IV L k 0 x := by
      rcases h with h | h
      · omega
      · exact h
    have h2 := gop_IV (md := md) (F := F) (ins := ins) (w := w) h1
    refine ih (x := gop md F L k ins w x) ?_ (fun j hj => ?_)
    · rcases Nat.eq_zero_or_pos k with q | q
      · exact Or.inl q
      · obtain ⟨k', rfl⟩ : ∃ k', k = k' + 1 := ⟨k - 1, by omega⟩
        exact Or.inr h2.next
    · exact Nat.le_trans (Nat.le_add_right _ _) (h2.2.2.1 j hj)
theorem kv_bd {sz : Nat → Nat} {bw : Nat → Int32} (h : ∀ j, j < 256 → sz j ≤ 1048576) : Bd 1048576 (kv sz bw) := by
  intro j hj
  have h1 := h j hj
  unfold kv
  split
  · rw [nI_toInt (by omega)]; omega
  · rw [neg_toInt (by rw [nI_toInt (by omega)]; omega), nI_toInt (by omega)]; omega
theorem mq : ∀ q, q < 4 → mx q = q % 2 ∧ my q = q / 2 := by decide +kernel
theorem le0 {x : Int32} : (0 : Int32) ≤ x ↔ ¬ x < 0 := by
  rw [Int32.le_iff_toInt_le, Int32.lt_iff_toInt_lt]; omega
