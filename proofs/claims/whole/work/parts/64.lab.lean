/-! what the labels are -/
def cv (L : Nat → Int32) (v : Int32) : Nat → Nat
  | 0 => 0
  | n + 1 => cv L v n + (if L n = v then 1 else 0)
theorem cv_le (L : Nat → Int32) (v : Int32) (n : Nat) : cv L v n ≤ n := by
  induction n with
  | zero => exact Nat.le_refl _
  | succ n ih => simp only [cv]; split <;> omega
theorem cv_congr {L M : Nat → Int32} {v : Int32} {n : Nat} (h : ∀ j, j < n → (L j = v ↔ M j = v)) : cv L v n = cv M v n := by
  induction n with
  | zero => rfl
  | succ n ih =>
    simp only [cv]
    rw [ih (fun j hj => h j (by omega))]
    by_cases e : L n = v
    · rw [if_pos e, if_pos ((h n (by omega)).mp e)]
    · rw [if_neg e, if_neg (fun q => e ((h n (by omega)).mpr q))]
theorem cn_cv {P Q : Nat → Int32} {v : Int32} {n : Nat} (hv : v ≠ -1) (h : ∀ j, j < n → (Q j = P j ∧ P j ≠ v) ∨ (P j = -1 ∧ Q j = v)) : cn Q n = cn P n + cv Q v n := by
  induction n with
  | zero => rfl
  | succ n ih =>
    simp only [cn, cv]
    have := ih (fun j hj => h j (by omega))
    rcases h n (by omega) with ⟨q1, q2⟩ | ⟨q1, q2⟩
    · rw [q1, if_neg q2]; omega
    · rw [q1, q2, if_neg hv, if_pos rfl, if_pos rfl]; omega
theorem rch_in {ins : Nat → Int32} {k j : Nat} (hk : k < 256) (hi : ins k ≠ 0) (h : Rch ins k j) : j < 256 ∧ ins j ≠ 0 :=
  h (fun j => j < 256 ∧ ins j ≠ 0) ⟨hk, hi⟩ (fun a b ha h1 hab hb => ⟨adj_lt h1 hab, hb⟩)
theorem rch_new {ins P : Nat → Int32} {k j : Nat} (hk : k < 256) (hi : ins k ≠ 0) (hC : Cls ins P) (h0 : P k = -1) (h : Rch ins k j) : P j = -1 := by
  have := h (fun j => j < 256 ∧ ins j ≠ 0 ∧ P j = -1) ⟨hk, hi, h0⟩ (fun a b ha h1 hab hb => ⟨adj_lt h1 hab, hb, Classical.byContradiction fun q => hC.2 b a (adj_lt h1 hab) q (adj_symm h1 hab) ha.2.1 ha.2.2⟩)
  exact this.2.2
def LB (ins : Nat → Int32) (k : Nat) : Prop := Cls ins (lab ins k).1 ∧ (∀ j, j < k → j < 256 → ins j ≠ 0 → (lab ins k).1 j ≠ -1) ∧ ∀ j, j < 256 → (lab ins k).1 j = -1 ∨ ∃ t, t < (lab ins k).2 ∧ (lab ins k).1 j = nI t
theorem LB.cls {ins : Nat → Int32} {k : Nat} (h : LB ins k) : Cls ins (lab ins k).1 := h.1
theorem LB.all {ins : Nat → Int32} {k : Nat} (h : LB ins k) : ∀ j, j < k → j < 256 → ins j ≠ 0 → (lab ins k).1 j ≠ -1 := h.2.1
theorem LB.low {ins : Nat → Int32} {k : Nat} (h : LB ins k) : ∀ j, j < 256 → (lab ins k).1 j = -1 ∨ ∃ t, t < (lab ins k).2 ∧ (lab ins k).1 j = nI t := h.2.2
theorem LB.mk0 (ins : Nat → Int32) (k : Nat) (hk : k ≤ 256) : LB ins k := by
  induction k with
  | zero => exact ⟨⟨fun a _ h => absurd rfl h, fun a b _ h => absurd rfl h⟩, fun j h => absurd h (Nat.not_lt_zero _), fun j _ => Or.inl rfl⟩
  | succ k ih =>
    have ih := ih (by omega)
    by_cases hh : ins k ≠ 0 ∧ (lab ins k).1 k = -1
    · obtain ⟨e1, e2⟩ := lab_hit hh.1 hh.2
      have hl := lab_le ins k
      have hn : nI (lab ins k).2 ≠ -1 := nI_nm1 (by omega)
      refine ⟨⟨fun a ha h => ?_, fun a b ha h hab hb => ?_⟩, fun j hj hj2 hi => ?_, fun j hj => ?_⟩
      · by_cases r : Rch ins k a
        · exact (rch_in (by omega) hh.1 r).2
        · rw [(e2 a).2 r] at h; exact ih.cls.1 a ha h
      · by_cases r : Rch ins k b
        · rw [(e2 b).1 r]; exact hn
        · rw [(e2 b).2 r]
          by_cases r2 : Rch ins k a
          · exact absurd (r2.step ha hab hb) r
          · rw [(e2 a).2 r2] at h; exact ih.cls.2 a b ha h hab hb
      · by_cases r : Rch ins k j
        · rw [(e2 j).1 r]; exact hn
        · rw [(e2 j).2 r]
          by_cases e : j = k
          · subst e; exact absurd Rch.refl r
          · exact ih.all j (by omega) hj2 hi
      · by_cases r : Rch ins k j
        · exact Or.inr ⟨(lab ins k).2, by omega, (e2 j).1 r⟩
        · rw [(e2 j).2 r]
          rcases ih.low j hj with q | ⟨t, q1, q2⟩
          · exact Or.inl q
          · exact Or.inr ⟨t, by omega, q2⟩
    · have hh2 : ins k = 0 ∨ (lab ins k).1 k ≠ -1 := by
        by_cases q : ins k = 0
        · exact Or.inl q
        · exact Or.inr (fun q2 => hh ⟨q, q2⟩)
      have e := lab_miss hh2
      refine ⟨by rw [e]; exact ih.cls, fun j hj hj2 hi => ?_, by rw [e]; exact ih.low⟩
      rw [e]
      by_cases e : j = k
      · subst e; exact hh2.resolve_left hi
      · exact ih.all j (by omega) hj2 hi
theorem lab_in {ins : Nat → Int32} {j : Nat} (hj : j < 256) : (lab ins 256).1 j = -1 ↔ ins j = 0 := by
  have h := LB.mk0 ins 256 (Nat.le_refl _)
  constructor
  · intro q; exact Classical.byContradiction fun q2 => h.all j hj hj q2 q
  · intro q; exact Classical.byContradiction fun q2 => h.cls.1 j hj q2 q
def fIs (L : Nat → Int32) (t : Nat) (v : Int32) : Prop := ∃ s, s < 256 ∧ v = nI s ∧ L s = nI t ∧ ∀ j, j < s → L j ≠ nI t
/-- what the class keeps of its parts, up to sample k -/
def FP (ins : Nat → Int32) (k : Nat) (count parts : Int32) (firstOf partOf sizeOf : Nat → Int32) : Prop :=
  parts = nI (lab ins k).2 ∧ count = nI (cn (lab ins k).1 256) ∧ (∀ j, j < 256 → partOf j = (lab ins k).1 j) ∧ (∀ t, t < (lab ins k).2 → sizeOf t = nI (cv (lab ins k).1 (nI t) 256)) ∧ ∀ t, t < (lab ins k).2 → fIs (lab ins k).1 t (firstOf t)
theorem FP.parts {ins : Nat → Int32} {k : Nat} {c p : Int32} {f q z : Nat → Int32} (h : FP ins k c p f q z) : p = nI (lab ins k).2 := h.1
theorem FP.count {ins : Nat → Int32} {k : Nat} {c p : Int32} {f q z : Nat → Int32} (h : FP ins k c p f q z) : c = nI (cn (lab ins k).1 256) := h.2.1
theorem FP.part {ins : Nat → Int32} {k : Nat} {c p : Int32} {f q z : Nat → Int32} (h : FP ins k c p f q z) : ∀ j, j < 256 → q j = (lab ins k).1 j := h.2.2.1
theorem FP.size {ins : Nat → Int32} {k : Nat} {c p : Int32} {f q z : Nat → Int32} (h : FP ins k c p f q z) : ∀ t, t < (lab ins k).2 → z t = nI (cv (lab ins k).1 (nI t) 256) := h.2.2.2.1
theorem FP.fst {ins : Nat → Int32} {k : Nat} {c p : Int32} {f q z : Nat → Int32} (h : FP ins k c p f q z) : ∀ t, t < (lab ins k).2 → fIs (lab ins k).1 t (f t) := h.2.2.2.2
theorem FP.hit {ins : Nat → Int32} {k e : Nat} {count parts : Int32} {firstOf partOf sizeOf P' : Nat → Int32} (h : FP ins k count parts firstOf partOf sizeOf) (hk : k < 256) (hi : ins k ≠ 0) (h0 : (lab ins k).1 k = -1) (hP : ∀ j, j < 256 → (Rch ins k j → P' j = nI (lab ins k).2) ∧ (¬ Rch ins k j → P' j = (lab ins k).1 j)) (he : cn P' 256 = cn (lab ins k).1 256 + e) :
    FP ins (k + 1) (count + nI e) (parts + 1) (upd firstOf parts.toNatClampNeg (nI k)) P' (upd sizeOf parts.toNatClampNeg (nI e)) := by
  obtain ⟨e1, e2⟩ := lab_hit hi h0
  have hl := lab_le ins k
  have hb := LB.mk0 ins k (by omega)
  have hn : nI (lab ins k).2 ≠ -1 := nI_nm1 (by omega)
  have hP2 : ∀ j, j < 256 → P' j = (lab ins (k + 1)).1 j := by
    intro j hj
    by_cases r : Rch ins k j
    · rw [(hP j hj).1 r, (e2 j).1 r]
    · rw [(hP j hj).2 r, (e2 j).2 r]
  have hcn : cn (lab ins (k + 1)).1 256 = cn (lab ins k).1 256 + e := by rw [← he]; exact cn_congr (fun j hj => (hP2 j hj).symm)
  have hnew : ∀ j, Rch ins k j → (lab ins k).1 j = -1 := fun j r => rch_new hk hi hb.cls h0 r
  have hold : ∀ j, j < 256 → (lab ins k).1 j ≠ nI (lab ins k).2 := by
    intro j hj
    rcases hb.low j hj with q | ⟨t, q1, q2⟩
    · rw [q]; exact fun q => hn q.symm
    · rw [q2]; exact fun q => by have := (nI_eq (by omega) (by omega)).mp q; omega
  have hp : parts.toNatClampNeg = (lab ins k).2 := by rw [h.parts]; exact nI_clamp (by omega)
  have same : ∀ t, t < (lab ins k).2 → ∀ j, j < 256 → ((lab ins (k + 1)).1 j = nI t ↔ (lab ins k).1 j = nI t) := by
    intro t ht j hj
    by_cases r : Rch ins k j
    · rw [(e2 j).1 r, hnew j r]
      constructor
      · intro q; have := (nI_eq (by omega) (by omega)).mp q; omega
      · intro q; exact absurd q.symm (nI_nm1 (by omega))
    · rw [(e2 j).2 r]
  refine ⟨?_, ?_, hP2, ?_, ?_⟩
  · rw [h.parts, nI_1, e1]
  · rw [h.count, nI_add, hcn]
  · intro t ht
    rw [hp]
    by_cases e : t = (lab ins k).2
    · subst e
      rw [pk_us]
      have := cn_cv (P := (lab ins k).1) (Q := (lab ins (k + 1)).1) (v := nI (lab ins k).2) (n := 256) hn (fun j hj => by
        by_cases r : Rch ins k j
        · exact Or.inr ⟨hnew j r, (e2 j).1 r⟩
        · exact Or.inl ⟨(e2 j).2 r, hold j hj⟩)
      have : cv (lab ins (k + 1)).1 (nI (lab ins k).2) 256 = e := by omega
      rw [this]
    · rw [pk_un e, h.size t (by omega), cv_congr (same t (by omega))]
  · intro t ht
    rw [hp]
    by_cases e : t = (lab ins k).2
    · subst e
      rw [pk_us]
      refine ⟨k, hk, rfl, (e2 k).1 Rch.refl, fun j hj => ?_⟩
      by_cases r : Rch ins k j
      · have := rch_in hk hi r
        exact absurd (hnew j r) (hb.all j hj (by omega) this.2)
      · rw [(e2 j).2 r]; exact hold j (by omega)
    · rw [pk_un e]
      obtain ⟨s, h1, h2, h3, h4⟩ := h.fst t (by omega)
      exact ⟨s, h1, h2, (same t (by omega) s h1).mpr h3, fun j hj q => h4 j hj ((same t (by omega) j (by omega)).mp q)⟩
theorem FP.miss {ins : Nat → Int32} {k m : Nat} {count parts : Int32} {firstOf partOf sizeOf : Nat → Int32} (h : FP ins k count parts firstOf partOf sizeOf) (e : lab ins m = lab ins k) : FP ins m count parts firstOf partOf sizeOf := by
  obtain ⟨h1, h2, h3, h4, h5⟩ := h
  refine ⟨?_, ?_, ?_, ?_, ?_⟩ <;> rw [e] <;> assumption
theorem FP.zero {ins : Nat → Int32} {firstOf partOf sizeOf : Nat → Int32} (h : ∀ j, j < 256 → partOf j = -1) : FP ins 0 0 0 firstOf partOf sizeOf := by
  refine ⟨rfl, ?_, h, fun t ht => absurd ht (Nat.not_lt_zero _), fun t ht => absurd ht (Nat.not_lt_zero _)⟩
  have : ∀ n, cn (lab ins 0).1 n = 0 := by
    intro n
    induction n with
    | zero => rfl
    | succ n ih => simp only [cn]; rw [ih]; rfl
  rw [this]; rfl
