/-! TAPES: bits in turn, up to a limit -/
def wrb (s : Nat → Nat) (c b : Nat) : Nat → Nat := fun j => if j = c / 8 then (if c % 8 = 0 then 0 else s (c / 8)) + b * 2 ^ (7 - c % 8) else s j
def wr (L : Nat) (t : Nat × (Nat → Nat)) (b : Nat) : Nat × (Nat → Nat) := if t.1 = L then t else (t.1 + 1, wrb t.2 t.1 b)
def wrs (L : Nat) : List Nat → Nat × (Nat → Nat) → Nat × (Nat → Nat)
  | [], t => t
  | b :: l, t => wrs L l (wr L t b)
def bl (v : Nat) : Nat → List Nat
  | 0 => []
  | k + 1 => (v / 2 ^ k % 2) :: bl v k
theorem wrs_app (L : Nat) (l m : List Nat) (t : Nat × (Nat → Nat)) : wrs L (l ++ m) t = wrs L m (wrs L l t) := by
  induction l generalizing t with
  | nil => rfl
  | cons b l ih => exact ih (wr L t b)
theorem wr_le {L b : Nat} {t : Nat × (Nat → Nat)} (h : t.1 ≤ L) : (wr L t b).1 ≤ L ∧ (wr L t b).1 ≤ t.1 + 1 ∧ t.1 ≤ (wr L t b).1 := by
  unfold wr
  split
  · exact ⟨h, by omega, by omega⟩
  · exact ⟨by show t.1 + 1 ≤ L; omega, Nat.le_refl _, Nat.le_succ _⟩
theorem wrs_le {L : Nat} {l : List Nat} {t : Nat × (Nat → Nat)} (h : t.1 ≤ L) : (wrs L l t).1 ≤ L ∧ (wrs L l t).1 ≤ t.1 + l.length ∧ t.1 ≤ (wrs L l t).1 := by
  induction l generalizing t with
  | nil => exact ⟨h, by show t.1 ≤ t.1 + 0; omega, Nat.le_refl _⟩
  | cons b l ih =>
    have h1 := wr_le (b := b) h
    have h2 := ih h1.1
    refine ⟨h2.1, ?_, ?_⟩
    · show (wrs L l (wr L t b)).1 ≤ t.1 + (l.length + 1); omega
    · show t.1 ≤ (wrs L l (wr L t b)).1; omega
theorem wr_full {L b : Nat} {t : Nat × (Nat → Nat)} (h : t.1 = L) : wr L t b = t := if_pos h
theorem wrs_full {L : Nat} {l : List Nat} {t : Nat × (Nat → Nat)} (h : t.1 = L) : wrs L l t = t := by
  induction l with
  | nil => rfl
  | cons b l ih => show wrs L l (wr L t b) = t; rw [wr_full h]; exact ih
theorem bl_len (v k : Nat) : (bl v k).length = k := by
  induction k with
  | zero => rfl
  | succ k ih => show (bl v k).length + 1 = k + 1; rw [ih]
/-- the bytes written: no bit behind the last -/
def SO (c : Nat) (s : Nat → Nat) : Prop := ∀ j, 8 * j < c → s j < 256 ∧ (c < 8 * j + 8 → s j % 2 ^ (8 * j + 8 - c) = 0)
theorem SO.zero {s : Nat → Nat} : SO 0 s := fun j h => absurd h (Nat.not_lt_zero _)
theorem SO.step {c b : Nat} {s : Nat → Nat} (h : SO c s) (hb : b ≤ 1) : SO (c + 1) (wrb s c b) := by
  intro j hj
  unfold wrb
  by_cases e : j = c / 8
  · rw [if_pos e]
    by_cases r0 : c % 8 = 0
    · rw [if_pos r0, r0]
      have e2 : 8 * j + 8 - (c + 1) = 7 := by omega
      rw [e2]
      refine ⟨by show 0 + b * 128 < 256; omega, fun _ => by show (0 + b * 128) % 128 = 0; omega⟩
    · rw [if_neg r0]
      have hs := h (c / 8) (by omega)
      have h2 := hs.2 (by omega)
      have e1 : 8 * (c / 8) + 8 - c = 8 - c % 8 := by omega
      have e2 : 8 * j + 8 - (c + 1) = 7 - c % 8 := by omega
      rw [e1] at h2
      rw [e2]
      have hr : c % 8 = 1 ∨ c % 8 = 2 ∨ c % 8 = 3 ∨ c % 8 = 4 ∨ c % 8 = 5 ∨ c % 8 = 6 ∨ c % 8 = 7 := by omega
      have h1 := hs.1
      generalize s (c / 8) = x at h1 h2
      rcases hr with q | q | q | q | q | q | q <;> rw [q] at h2 ⊢ <;> simp only [Nat.reduceSub, Nat.reducePow] at h2 ⊢ <;> omega
  · rw [if_neg e]
    have := h j (by omega)
    refine ⟨this.1, fun q => ?_⟩
    omega
theorem SO_wr {L b : Nat} {t : Nat × (Nat → Nat)} (h : SO t.1 t.2) (hb : b ≤ 1) : SO (wr L t b).1 (wr L t b).2 := by
  unfold wr
  split
  · exact h
  · exact h.step hb
