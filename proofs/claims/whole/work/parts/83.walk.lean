/-! THE WALK: what it does. A state: tape, ended, sizes, below, open, zeros -/
def updN (f : Nat → Nat) (k v : Nat) : Nat → Nat := fun j => if j = k then v else f j
theorem updN_s {f : Nat → Nat} {k v : Nat} : updN f k v k = v := if_pos rfl
theorem updN_n {f : Nat → Nat} {k v j : Nat} (h : j ≠ k) : updN f k v j = f j := if_neg h
def leaf (md : Int32) (F : Nat → Nat) (L pl : Nat) (w : Nat → Int32) (s : Nat) (was : Bool) (x : (Nat × (Nat → Nat)) × Bool × (Nat → Nat) × (Nat → Int32) × (Nat → Int32) × (Nat → Int32)) : (Nat × (Nat → Nat)) × Bool × (Nat → Nat) × (Nat → Int32) × (Nat → Int32) × (Nat → Int32) :=
  if x.1.1 = L then (x.1, true, x.2.2)
  else if was = true then (wr L x.1 (nb md F (absN (w s) / 2 ^ pl % 2) x.1.1), false, updN x.2.2.1 s (x.2.2.1 s + nb md F (absN (w s) / 2 ^ pl % 2) x.1.1 * 2 ^ pl), x.2.2.2)
  else (wr L x.1 (nb md F (if w s < 0 then 1 else 0) x.1.1), false, updN x.2.2.1 s (2 ^ pl), upd x.2.2.2.1 s (nI (nb md F (if w s < 0 then 1 else 0) x.1.1)), x.2.2.2.2)
def ent (md : Int32) (F : Nat → Nat) (L pl g l p : Nat) (bd : Bool → (Nat × (Nat → Nat)) × Bool × (Nat → Nat) × (Nat → Int32) × (Nat → Int32) × (Nat → Int32) → (Nat × (Nat → Nat)) × Bool × (Nat → Nat) × (Nat → Int32) × (Nat → Int32) × (Nat → Int32)) (x : (Nat × (Nat → Nat)) × Bool × (Nat → Nat) × (Nat → Int32) × (Nat → Int32) × (Nat → Int32)) : (Nat × (Nat → Nat)) × Bool × (Nat → Nat) × (Nat → Int32) × (Nat → Int32) × (Nat → Int32) :=
  if x.2.1 = true then x
  else if g = 0 then x
  else if x.2.2.2.2.1 (sid l p) ≠ 0 then bd true x
  else if x.1.1 = L then (x.1, true, x.2.2)
  else if nb md F (if 2 ^ pl < g then 1 else 0) x.1.1 = 1 then bd false (wr L x.1 1, false, x.2.2.1, x.2.2.2.1, upd x.2.2.2.2.1 (sid l p) 1, x.2.2.2.2.2)
  else (wr L x.1 0, false, x.2.2.1, x.2.2.2.1, x.2.2.2.2.1, upd x.2.2.2.2.2 l (x.2.2.2.2.2 l + 1))
def go (md : Int32) (F : Nat → Nat) (L pl : Nat) (ins w : Nat → Int32) : Nat → Nat → (Nat × (Nat → Nat)) × Bool × (Nat → Nat) × (Nat → Int32) × (Nat → Int32) × (Nat → Int32) → (Nat × (Nat → Nat)) × Bool × (Nat → Nat) × (Nat → Int32) × (Nat → Int32) × (Nat → Int32)
  | 0, p, x => ent md F L pl (G ins w 0 p) 0 p (fun was x => leaf md F L pl w (smp p) was x) x
  | l + 1, p, x => ent md F L pl (G ins w (l + 1) p) (l + 1) p (fun _ x => go md F L pl ins w l (4 * p + 3) (go md F L pl ins w l (4 * p + 2) (go md F L pl ins w l (4 * p + 1) (go md F L pl ins w l (4 * p + 0) x)))) x
def bod (md : Int32) (F : Nat → Nat) (L pl : Nat) (ins w : Nat → Int32) (l p : Nat) (was : Bool) (x : (Nat × (Nat → Nat)) × Bool × (Nat → Nat) × (Nat → Int32) × (Nat → Int32) × (Nat → Int32)) : (Nat × (Nat → Nat)) × Bool × (Nat → Nat) × (Nat → Int32) × (Nat → Int32) × (Nat → Int32) := match l with
  | 0 => leaf md F L pl w (smp p) was x
  | l + 1 => go md F L pl ins w l (4 * p + 3) (go md F L pl ins w l (4 * p + 2) (go md F L pl ins w l (4 * p + 1) (go md F L pl ins w l (4 * p + 0) x)))
theorem go_ent {md : Int32} {F : Nat → Nat} {L pl l p : Nat} {ins w : Nat → Int32} {x : (Nat × (Nat → Nat)) × Bool × (Nat → Nat) × (Nat → Int32) × (Nat → Int32) × (Nat → Int32)} : go md F L pl ins w l p x = ent md F L pl (G ins w l p) l p (bod md F L pl ins w l p) x := by
  cases l with
  | zero => rfl
  | succ l => rfl
theorem ent_en {md : Int32} {F : Nat → Nat} {L pl g l p : Nat} {bd : Bool → (Nat × (Nat → Nat)) × Bool × (Nat → Nat) × (Nat → Int32) × (Nat → Int32) × (Nat → Int32) → (Nat × (Nat → Nat)) × Bool × (Nat → Nat) × (Nat → Int32) × (Nat → Int32) × (Nat → Int32)} {x : (Nat × (Nat → Nat)) × Bool × (Nat → Nat) × (Nat → Int32) × (Nat → Int32) × (Nat → Int32)} (h : x.2.1 = true) : ent md F L pl g l p bd x = x := if_pos h
theorem ent_g {md : Int32} {F : Nat → Nat} {L pl g l p : Nat} {bd : Bool → (Nat × (Nat → Nat)) × Bool × (Nat → Nat) × (Nat → Int32) × (Nat → Int32) × (Nat → Int32) → (Nat × (Nat → Nat)) × Bool × (Nat → Nat) × (Nat → Int32) × (Nat → Int32) × (Nat → Int32)} {x : (Nat × (Nat → Nat)) × Bool × (Nat → Nat) × (Nat → Int32) × (Nat → Int32) × (Nat → Int32)} (h : x.2.1 = false) (hg : g = 0) : ent md F L pl g l p bd x = x := by
  unfold ent; rw [if_neg (by rw [h]; decide), if_pos hg]
theorem ent_o {md : Int32} {F : Nat → Nat} {L pl g l p : Nat} {bd : Bool → (Nat × (Nat → Nat)) × Bool × (Nat → Nat) × (Nat → Int32) × (Nat → Int32) × (Nat → Int32) → (Nat × (Nat → Nat)) × Bool × (Nat → Nat) × (Nat → Int32) × (Nat → Int32) × (Nat → Int32)} {x : (Nat × (Nat → Nat)) × Bool × (Nat → Nat) × (Nat → Int32) × (Nat → Int32) × (Nat → Int32)} (h : x.2.1 = false) (hg : g ≠ 0) (ho : x.2.2.2.2.1 (sid l p) ≠ 0) : ent md F L pl g l p bd x = bd true x := by
  unfold ent; rw [if_neg (by rw [h]; decide), if_neg hg, if_pos ho]
theorem ent_e {md : Int32} {F : Nat → Nat} {L pl g l p : Nat} {bd : Bool → (Nat × (Nat → Nat)) × Bool × (Nat → Nat) × (Nat → Int32) × (Nat → Int32) × (Nat → Int32) → (Nat × (Nat → Nat)) × Bool × (Nat → Nat) × (Nat → Int32) × (Nat → Int32) × (Nat → Int32)} {x : (Nat × (Nat → Nat)) × Bool × (Nat → Nat) × (Nat → Int32) × (Nat → Int32) × (Nat → Int32)} (h : x.2.1 = false) (hg : g ≠ 0) (ho : x.2.2.2.2.1 (sid l p) = 0) (hc : x.1.1 = L) : ent md F L pl g l p bd x = (x.1, true, x.2.2) := by
  unfold ent; rw [if_neg (by rw [h]; decide), if_neg hg, if_neg (fun q => q ho), if_pos hc]
theorem ent_1 {md : Int32} {F : Nat → Nat} {L pl g l p : Nat} {bd : Bool → (Nat × (Nat → Nat)) × Bool × (Nat → Nat) × (Nat → Int32) × (Nat → Int32) × (Nat → Int32) → (Nat × (Nat → Nat)) × Bool × (Nat → Nat) × (Nat → Int32) × (Nat → Int32) × (Nat → Int32)} {x : (Nat × (Nat → Nat)) × Bool × (Nat → Nat) × (Nat → Int32) × (Nat → Int32) × (Nat → Int32)} (h : x.2.1 = false) (hg : g ≠ 0) (ho : x.2.2.2.2.1 (sid l p) = 0) (hc : x.1.1 ≠ L) (hb : nb md F (if 2 ^ pl < g then 1 else 0) x.1.1 = 1) : ent md F L pl g l p bd x = bd false (wr L x.1 1, false, x.2.2.1, x.2.2.2.1, upd x.2.2.2.2.1 (sid l p) 1, x.2.2.2.2.2) := by
  unfold ent; rw [if_neg (by rw [h]; decide), if_neg hg, if_neg (fun q => q ho), if_neg hc, if_pos hb]
theorem ent_0 {md : Int32} {F : Nat → Nat} {L pl g l p : Nat} {bd : Bool → (Nat × (Nat → Nat)) × Bool × (Nat → Nat) × (Nat → Int32) × (Nat → Int32) × (Nat → Int32) → (Nat × (Nat → Nat)) × Bool × (Nat → Nat) × (Nat → Int32) × (Nat → Int32) × (Nat → Int32)} {x : (Nat × (Nat → Nat)) × Bool × (Nat → Nat) × (Nat → Int32) × (Nat → Int32) × (Nat → Int32)} (h : x.2.1 = false) (hg : g ≠ 0) (ho : x.2.2.2.2.1 (sid l p) = 0) (hc : x.1.1 ≠ L) (hb : nb md F (if 2 ^ pl < g then 1 else 0) x.1.1 ≠ 1) : ent md F L pl g l p bd x = (wr L x.1 0, false, x.2.2.1, x.2.2.2.1, x.2.2.2.2.1, upd x.2.2.2.2.2 l (x.2.2.2.2.2 l + 1)) := by
  unfold ent; rw [if_neg (by rw [h]; decide), if_neg hg, if_neg (fun q => q ho), if_neg hc, if_neg hb]
theorem ent_P {md : Int32} {F : Nat → Nat} {L pl g l p : Nat} {bd : Bool → (Nat × (Nat → Nat)) × Bool × (Nat → Nat) × (Nat → Int32) × (Nat → Int32) × (Nat → Int32) → (Nat × (Nat → Nat)) × Bool × (Nat → Nat) × (Nat → Int32) × (Nat → Int32) × (Nat → Int32)} {x : (Nat × (Nat → Nat)) × Bool × (Nat → Nat) × (Nat → Int32) × (Nat → Int32) × (Nat → Int32)} {P : (Nat × (Nat → Nat)) × Bool × (Nat → Nat) × (Nat → Int32) × (Nat → Int32) × (Nat → Int32) → Prop} (h0 : P x) (h1 : x.1.1 = L → P (x.1, true, x.2.2)) (h2 : P (bd true x)) (h3 : x.1.1 ≠ L → P (bd false (wr L x.1 1, false, x.2.2.1, x.2.2.2.1, upd x.2.2.2.2.1 (sid l p) 1, x.2.2.2.2.2))) (h4 : x.1.1 ≠ L → P (wr L x.1 0, false, x.2.2.1, x.2.2.2.1, x.2.2.2.2.1, upd x.2.2.2.2.2 l (x.2.2.2.2.2 l + 1))) : P (ent md F L pl g l p bd x) := by
  cases he : x.2.1 with
  | true => rw [ent_en he]; exact h0
  | false =>
    by_cases hg : g = 0
    · rw [ent_g he hg]; exact h0
    · by_cases ho : x.2.2.2.2.1 (sid l p) = 0
      · by_cases hc : x.1.1 = L
        · rw [ent_e he hg ho hc]; exact h1 hc
        · by_cases hb : nb md F (if 2 ^ pl < g then 1 else 0) x.1.1 = 1
          · rw [ent_1 he hg ho hc hb]; exact h3 hc
          · rw [ent_0 he hg ho hc hb]; exact h4 hc
      · rw [ent_o he hg ho]; exact h2
theorem go_en {md : Int32} {F : Nat → Nat} {L pl l p : Nat} {ins w : Nat → Int32} {x : (Nat × (Nat → Nat)) × Bool × (Nat → Nat) × (Nat → Int32) × (Nat → Int32) × (Nat → Int32)} (h : x.2.1 = true) : go md F L pl ins w l p x = x := by rw [go_ent]; exact ent_en h
theorem leaf_e {md : Int32} {F : Nat → Nat} {L pl s : Nat} {w : Nat → Int32} {was : Bool} {x : (Nat × (Nat → Nat)) × Bool × (Nat → Nat) × (Nat → Int32) × (Nat → Int32) × (Nat → Int32)} (h : x.1.1 = L) : leaf md F L pl w s was x = (x.1, true, x.2.2) := if_pos h
theorem leaf_t {md : Int32} {F : Nat → Nat} {L pl s : Nat} {w : Nat → Int32} {x : (Nat × (Nat → Nat)) × Bool × (Nat → Nat) × (Nat → Int32) × (Nat → Int32) × (Nat → Int32)} (h : x.1.1 ≠ L) : leaf md F L pl w s true x = (wr L x.1 (nb md F (absN (w s) / 2 ^ pl % 2) x.1.1), false, updN x.2.2.1 s (x.2.2.1 s + nb md F (absN (w s) / 2 ^ pl % 2) x.1.1 * 2 ^ pl), x.2.2.2) := (if_neg h).trans (if_pos rfl)
theorem leaf_f {md : Int32} {F : Nat → Nat} {L pl s : Nat} {w : Nat → Int32} {x : (Nat × (Nat → Nat)) × Bool × (Nat → Nat) × (Nat → Int32) × (Nat → Int32) × (Nat → Int32)} (h : x.1.1 ≠ L) : leaf md F L pl w s false x = (wr L x.1 (nb md F (if w s < 0 then 1 else 0) x.1.1), false, updN x.2.2.1 s (2 ^ pl), upd x.2.2.2.1 s (nI (nb md F (if w s < 0 then 1 else 0) x.1.1)), x.2.2.2.2) := (if_neg h).trans (if_neg (by decide))
/-- what holds of the state on the way -/
def IV (L pl z : Nat) (x : (Nat × (Nat → Nat)) × Bool × (Nat → Nat) × (Nat → Int32) × (Nat → Int32) × (Nat → Int32)) : Prop :=
  TS L x.1 ∧ (∀ n, z ≤ n → n < 256 → x.2.2.1 (smp n) + 2 ^ (pl + 1) ≤ 1048576) ∧ (∀ j, j < 256 → x.2.2.1 j + 2 ^ pl ≤ 1048576) ∧ (∀ j, j < 256 → x.2.2.2.1 j = 0 ∨ (x.2.2.2.1 j = 1 ∧ 0 < x.2.2.1 j)) ∧ (∀ s, s < 340 → x.2.2.2.2.1 s = 0 ∨ x.2.2.2.2.1 s = 1) ∧ (∀ n, n < 256 → x.2.2.2.2.1 n = 0 → x.2.2.1 (smp n) = 0)
theorem IV.mono {L pl z z2 : Nat} {x : (Nat × (Nat → Nat)) × Bool × (Nat → Nat) × (Nat → Int32) × (Nat → Int32) × (Nat → Int32)} (h : IV L pl z x) (hz : z ≤ z2) : IV L pl z2 x := ⟨h.1, fun n h1 h2 => h.2.1 n (by omega) h2, h.2.2⟩
theorem due1 {c : Prop} [Decidable c] : (if c then 1 else 0 : Nat) ≤ 1 := by split <;> omega
theorem pw1 (k : Nat) : 2 ^ (k + 1) = 2 * 2 ^ k := by rw [Nat.pow_succ, Nat.mul_comm]
theorem leaf_IV {md : Int32} {F : Nat → Nat} {L pl p : Nat} {w : Nat → Int32} {was : Bool} {x : (Nat × (Nat → Nat)) × Bool × (Nat → Nat) × (Nat → Int32) × (Nat → Int32) × (Nat → Int32)} (hp : p < 256) (h : IV L pl p x) (ho : x.2.2.2.2.1 p ≠ 0) (hz : was = false → x.2.2.1 (smp p) = 0) : IV L pl (p + 1) (leaf md F L pl w (smp p) was x) := by
  obtain ⟨h1, h2, h3, h4, h5, h6⟩ := h
  have hs := (smp_inv p hp).2
  have hpw := pw1 pl
  have hp0 : 0 < 2 ^ pl := Nat.pow_pos (by decide)
  by_cases e : x.1.1 = L
  · rw [leaf_e e]
    exact ⟨h1, fun n a b => h2 n (by omega) b, h3, h4, h5, h6⟩
  · have hsp := h2 p (Nat.le_refl _) hp
    cases was with
    | true =>
      rw [leaf_t e]
      have hb : nb md F (absN (w (smp p)) / 2 ^ pl % 2) x.1.1 ≤ 1 := nb_le (by omega)
      generalize nb md F (absN (w (smp p)) / 2 ^ pl % 2) x.1.1 = b at hb
      have hb2 : b * 2 ^ pl ≤ 1 * 2 ^ pl := Nat.mul_le_mul_right _ hb
      refine ⟨h1.wr hb, fun n a c => ?_, fun j hj => ?_, fun j hj => ?_, h5, fun n hn h0 => ?_⟩
      · show updN x.2.2.1 (smp p) _ (smp n) + _ ≤ _
        rw [updN_n (fun q => by have := smp_inj c hp q; omega)]
        exact h2 n (by omega) c
      · show updN x.2.2.1 (smp p) _ j + _ ≤ _
        by_cases q : j = smp p
        · rw [q, updN_s]; omega
        · rw [updN_n q]; exact h3 j hj
      · rcases h4 j hj with q | q
        · exact Or.inl q
        · refine Or.inr ⟨q.1, ?_⟩
          show 0 < updN x.2.2.1 (smp p) _ j
          by_cases r : j = smp p
          · have q2 := q.2
            rw [r, updN_s]; rw [r] at q2; omega
          · rw [updN_n r]; exact q.2
      · show updN x.2.2.1 (smp p) _ (smp n) = 0
        rw [updN_n (fun q => by have e2 := smp_inj hn hp q; subst e2; exact ho h0)]
        exact h6 n hn h0
    | false =>
      rw [leaf_f e]
      have hb : nb md F (if w (smp p) < 0 then 1 else 0) x.1.1 ≤ 1 := nb_le due1
      generalize nb md F (if w (smp p) < 0 then 1 else 0) x.1.1 = b at hb
      have hz0 := hz rfl
      refine ⟨h1.wr hb, fun n a c => ?_, fun j hj => ?_, fun j hj => ?_, h5, fun n hn h0 => ?_⟩
      · show updN x.2.2.1 (smp p) _ (smp n) + _ ≤ _
        rw [updN_n (fun q => by have := smp_inj c hp q; omega)]
        exact h2 n (by omega) c
      · show updN x.2.2.1 (smp p) _ j + _ ≤ _
        by_cases q : j = smp p
        · rw [q, updN_s]; omega
        · rw [updN_n q]; exact h3 j hj
      · show upd x.2.2.2.1 (smp p) (nI b) j = 0 ∨ (upd x.2.2.2.1 (smp p) (nI b) j = 1 ∧ 0 < updN x.2.2.1 (smp p) _ j)
        by_cases q : j = smp p
        · rw [q, pk_us, updN_s]
          rcases (show b = 0 ∨ b = 1 by omega) with r | r
          · rw [r]; exact Or.inl rfl
          · rw [r]; exact Or.inr ⟨rfl, hp0⟩
        · rw [pk_un q, updN_n q]; exact h4 j hj
      · show updN x.2.2.1 (smp p) _ (smp n) = 0
        rw [updN_n (fun q => by have e2 := smp_inj hn hp q; subst e2; exact ho h0)]
        exact h6 n hn h0
theorem open_IV {L pl l p z : Nat} {x : (Nat × (Nat → Nat)) × Bool × (Nat → Nat) × (Nat → Int32) × (Nat → Int32) × (Nat → Int32)} (hP : PS l p) (h : IV L pl z x) : IV L pl z (wr L x.1 1, false, x.2.2.1, x.2.2.2.1, upd x.2.2.2.2.1 (sid l p) 1, x.2.2.2.2.2) := by
  obtain ⟨h1, h2, h3, h4, h5, h6⟩ := h
  refine ⟨h1.wr (by omega), h2, h3, h4, fun s hs => ?_, fun n hn h0 => ?_⟩
  · show upd x.2.2.2.2.1 (sid l p) 1 s = 0 ∨ upd x.2.2.2.2.1 (sid l p) 1 s = 1
    by_cases q : s = sid l p
    · rw [q, pk_us]; exact Or.inr rfl
    · rw [pk_un q]; exact h5 s hs
  · have h0' : upd x.2.2.2.2.1 (sid l p) 1 n = 0 := h0
    by_cases q : n = sid l p
    · rw [q, pk_us] at h0'; exact absurd h0' (by decide)
    · rw [pk_un q] at h0'; exact h6 n hn h0'
theorem kid0 (l p : Nat) : 4 ^ (l + 1) * p = 4 ^ l * (4 * p + 0) ∧ 4 ^ l * (4 * p + 1) = 4 ^ l * (4 * p + 0) + 4 ^ l ∧ 4 ^ l * (4 * p + 2) = 4 ^ l * (4 * p + 1) + 4 ^ l ∧ 4 ^ l * (4 * p + 3) = 4 ^ l * (4 * p + 2) + 4 ^ l ∧ 4 ^ l * (4 * p + 0) + 4 ^ (l + 1) = 4 ^ l * (4 * p + 3) + 4 ^ l := by
  have e : 4 ^ (l + 1) = 4 ^ l + 4 ^ l + 4 ^ l + 4 ^ l := by rw [Nat.pow_succ]; omega
  have e0 : 4 ^ (l + 1) * p = 4 ^ l * (4 * p + 0) := by rw [Nat.pow_succ, Nat.mul_assoc, Nat.add_zero]
  have e1 : 4 ^ l * (4 * p + 1) = 4 ^ l * (4 * p + 0) + 4 ^ l := by rw [Nat.mul_add, Nat.mul_add, Nat.mul_one, Nat.mul_zero, Nat.add_zero]
  have e2 : 4 ^ l * (4 * p + 2) = 4 ^ l * (4 * p + 0) + (4 ^ l + 4 ^ l) := by rw [Nat.mul_add, Nat.mul_add, Nat.mul_zero, Nat.add_zero]; omega
  have e3 : 4 ^ l * (4 * p + 3) = 4 ^ l * (4 * p + 0) + (4 ^ l + 4 ^ l + 4 ^ l) := by rw [Nat.mul_add, Nat.mul_add, Nat.mul_zero, Nat.add_zero]; omega
  omega
theorem go_IV {md : Int32} {F : Nat → Nat} {L pl l p : Nat} {ins w : Nat → Int32} {x : (Nat × (Nat → Nat)) × Bool × (Nat → Nat) × (Nat → Int32) × (Nat → Int32) × (Nat → Int32)} (hP : PS l p) (h : IV L pl (4 ^ l * p) x) : IV L pl (4 ^ l * p + 4 ^ l) (go md F L pl ins w l p x) := by
  induction l generalizing p x with
  | zero =>
    have hp := hP.lt
    have e0 : 4 ^ 0 * p = p := by rw [Nat.pow_zero, Nat.one_mul]
    have s0 : sid 0 p = p := by unfold sid fsqN; rw [if_pos rfl, Nat.zero_add]
    rw [e0] at h ⊢
    rw [go_ent]
    cases he : x.2.1 with
    | true => rw [ent_en he]; exact h.mono (by omega)
    | false =>
      by_cases hg : G ins w 0 p = 0
      · rw [ent_g he hg]; exact h.mono (by omega)
      · by_cases ho : x.2.2.2.2.1 (sid 0 p) = 0
        · by_cases hc : x.1.1 = L
          · rw [ent_e he hg ho hc]; exact IV.mono (x := (x.1, true, x.2.2)) h (by omega)
          · by_cases hb : nb md F (if 2 ^ pl < G ins w 0 p then 1 else 0) x.1.1 = 1
            · rw [ent_1 he hg ho hc hb]
              have h' := open_IV (l := 0) (p := p) hP h
              refine leaf_IV hp h' ?_ (fun _ => ?_)
              · show upd x.2.2.2.2.1 (sid 0 p) 1 p ≠ 0
                rw [s0, pk_us]; decide
              · rw [s0] at ho
                exact h.2.2.2.2.2 p hp ho
            · rw [ent_0 he hg ho hc hb]
              exact IV.mono (z := p) ⟨h.1.wr (by omega), h.2⟩ (by omega)
        · rw [ent_o he hg ho]
          rw [s0] at ho
          exact leaf_IV hp h ho (fun q => absurd q (by decide))
  | succ l ih =>
    have hk := kid0 l p
    have four : ∀ y : (Nat × (Nat → Nat)) × Bool × (Nat → Nat) × (Nat → Int32) × (Nat → Int32) × (Nat → Int32), IV L pl (4 ^ (l + 1) * p) y → IV L pl (4 ^ (l + 1) * p + 4 ^ (l + 1)) (go md F L pl ins w l (4 * p + 3) (go md F L pl ins w l (4 * p + 2) (go md F L pl ins w l (4 * p + 1) (go md F L pl ins w l (4 * p + 0) y)))) := by
      intro y hy
      rw [hk.1] at hy ⊢
      have k0 := ih (hP.kid (j := 0) (by decide)) hy
      rw [← hk.2.1] at k0
      have k1 := ih (hP.kid (j := 1) (by decide)) k0
      rw [← hk.2.2.1] at k1
      have k2 := ih (hP.kid (j := 2) (by decide)) k1
      rw [← hk.2.2.2.1] at k2
      have k3 := ih (hP.kid (j := 3) (by decide)) k2
      rw [← hk.2.2.2.2] at k3
      exact k3
    rw [go_ent]
    cases he : x.2.1 with
    | true => rw [ent_en he]; exact h.mono (Nat.le_add_right _ _)
    | false =>
      by_cases hg : G ins w (l + 1) p = 0
      · rw [ent_g he hg]; exact h.mono (Nat.le_add_right _ _)
      · by_cases ho : x.2.2.2.2.1 (sid (l + 1) p) = 0
        · by_cases hc : x.1.1 = L
          · rw [ent_e he hg ho hc]; exact IV.mono (x := (x.1, true, x.2.2)) h (Nat.le_add_right _ _)
          · by_cases hb : nb md F (if 2 ^ pl < G ins w (l + 1) p then 1 else 0) x.1.1 = 1
            · rw [ent_1 he hg ho hc hb]
              exact four _ (open_IV hP h)
            · rw [ent_0 he hg ho hc hb]
              exact IV.mono (z := 4 ^ (l + 1) * p) ⟨h.1.wr (by omega), h.2⟩ (Nat.le_add_right _ _)
        · rw [ent_o he hg ho]
          exact four _ h
/-- how many bits a square takes -/
def bc : Nat → Nat
  | 0 => 2
  | l + 1 => 1 + 4 * bc l
theorem wr_up {L b : Nat} {t : Nat × (Nat → Nat)} : (wr L t b).1 ≤ t.1 + 1 := by
  unfold wr
  split
  · omega
  · exact Nat.le_refl _
theorem leaf_up {md : Int32} {F : Nat → Nat} {L pl s : Nat} {w : Nat → Int32} {was : Bool} {x : (Nat × (Nat → Nat)) × Bool × (Nat → Nat) × (Nat → Int32) × (Nat → Int32) × (Nat → Int32)} : (leaf md F L pl w s was x).1.1 ≤ x.1.1 + 1 := by
  by_cases e : x.1.1 = L
  · rw [leaf_e e]; exact Nat.le_succ _
  · cases was with
    | true => rw [leaf_t e]; exact wr_up
    | false => rw [leaf_f e]; exact wr_up
theorem bod_up {md : Int32} {F : Nat → Nat} {L pl l p c : Nat} {ins w : Nat → Int32} {x : (Nat × (Nat → Nat)) × Bool × (Nat → Nat) × (Nat → Int32) × (Nat → Int32) × (Nat → Int32)} (h : ∀ (was : Bool) (y : (Nat × (Nat → Nat)) × Bool × (Nat → Nat) × (Nat → Int32) × (Nat → Int32) × (Nat → Int32)), (bod md F L pl ins w l p was y).1.1 ≤ y.1.1 + c) : (go md F L pl ins w l p x).1.1 ≤ x.1.1 + (1 + c) := by
  rw [go_ent]
  have w1 : (wr L x.1 1).1 ≤ x.1.1 + 1 := wr_up
  have w0 : (wr L x.1 0).1 ≤ x.1.1 + 1 := wr_up
  refine ent_P (P := fun y => y.1.1 ≤ x.1.1 + (1 + c)) (by omega) (fun _ => ?_) ?_ (fun _ => ?_) (fun _ => ?_)
  · show x.1.1 ≤ _; omega
  · have := h true x; omega
  · have h3 : (bod md F L pl ins w l p false (wr L x.1 1, false, x.2.2.1, x.2.2.2.1, upd x.2.2.2.2.1 (sid l p) 1, x.2.2.2.2.2)).1.1 ≤ (wr L x.1 1).1 + c := h false _
    omega
  · show (wr L x.1 0).1 ≤ _; omega
theorem go_up {md : Int32} {F : Nat → Nat} {L pl l p : Nat} {ins w : Nat → Int32} {x : (Nat × (Nat → Nat)) × Bool × (Nat → Nat) × (Nat → Int32) × (Nat → Int32) × (Nat → Int32)} : (go md F L pl ins w l p x).1.1 ≤ x.1.1 + bc l := by
  induction l generalizing p x with
  | zero => exact bod_up (c := 1) (fun was y => leaf_up)
  | succ l ih =>
    refine bod_up (c := 4 * bc l) (fun was y => ?_)
    have a0 := ih (p := 4 * p + 0) (x := y)
    have a1 := ih (p := 4 * p + 1) (x := go md F L pl ins w l (4 * p + 0) y)
    have a2 := ih (p := 4 * p + 2) (x := go md F L pl ins w l (4 * p + 1) (go md F L pl ins w l (4 * p + 0) y))
    have a3 := ih (p := 4 * p + 3) (x := go md F L pl ins w l (4 * p + 2) (go md F L pl ins w l (4 * p + 1) (go md F L pl ins w l (4 * p + 0) y)))
    show (go md F L pl ins w l (4 * p + 3) (go md F L pl ins w l (4 * p + 2) (go md F L pl ins w l (4 * p + 1) (go md F L pl ins w l (4 * p + 0) y)))).1.1 ≤ _
    omega
/-- at the limit nothing changes -/
theorem go_full {md : Int32} {F : Nat → Nat} {L pl l p : Nat} {ins w : Nat → Int32} {x : (Nat × (Nat → Nat)) × Bool × (Nat → Nat) × (Nat → Int32) × (Nat → Int32) × (Nat → Int32)} (h : x.1.1 = L) : (go md F L pl ins w l p x).1 = x.1 ∧ (go md F L pl ins w l p x).2.2 = x.2.2 := by
  induction l generalizing p x with
  | zero =>
    rw [go_ent]
    refine ent_P (P := fun y => y.1 = x.1 ∧ y.2.2 = x.2.2) ⟨rfl, rfl⟩ (fun _ => ⟨rfl, rfl⟩) ?_ (fun q => absurd h q) (fun q => absurd h q)
    show (leaf md F L pl w (smp p) true x).1 = _ ∧ (leaf md F L pl w (smp p) true x).2.2 = _
    rw [leaf_e h]
    exact ⟨rfl, rfl⟩
  | succ l ih =>
    rw [go_ent]
    refine ent_P (P := fun y => y.1 = x.1 ∧ y.2.2 = x.2.2) ⟨rfl, rfl⟩ (fun _ => ⟨rfl, rfl⟩) ?_ (fun q => absurd h q) (fun q => absurd h q)
    have a0 := ih (p := 4 * p + 0) h
    have a1 := ih (p := 4 * p + 1) (x := go md F L pl ins w l (4 * p + 0) x) (by rw [a0.1]; exact h)
    have a2 := ih (p := 4 * p + 2) (x := go md F L pl ins w l (4 * p + 1) (go md F L pl ins w l (4 * p + 0) x)) (by rw [a1.1, a0.1]; exact h)
    have a3 := ih (p := 4 * p + 3) (x := go md F L pl ins w l (4 * p + 2) (go md F L pl ins w l (4 * p + 1) (go md F L pl ins w l (4 * p + 0) x))) (by rw [a2.1, a1.1, a0.1]; exact h)
    exact ⟨a3.1.trans (a2.1.trans (a1.1.trans a0.1)), a3.2.trans (a2.2.trans (a1.2.trans a0.2))⟩
/-- a plane, and all planes -/
def gop (md : Int32) (F : Nat → Nat) (L pl : Nat) (ins w : Nat → Int32) (x : (Nat × (Nat → Nat)) × Bool × (Nat → Nat) × (Nat → Int32) × (Nat → Int32) × (Nat → Int32)) : (Nat × (Nat → Nat)) × Bool × (Nat → Nat) × (Nat → Int32) × (Nat → Int32) × (Nat → Int32) := go md F L pl ins w 3 3 (go md F L pl ins w 3 2 (go md F L pl ins w 3 1 (go md F L pl ins w 3 0 x)))
def gos (md : Int32) (F : Nat → Nat) (L : Nat) (ins w : Nat → Int32) : Nat → (Nat × (Nat → Nat)) × Bool × (Nat → Nat) × (Nat → Int32) × (Nat → Int32) × (Nat → Int32) → (Nat × (Nat → Nat)) × Bool × (Nat → Nat) × (Nat → Int32) × (Nat → Int32) × (Nat → Int32)
  | 0, x => x
  | k + 1, x => gos md F L ins w k (gop md F L k ins w x)
theorem ps3 {q : Nat} (h : q < 4) : PS 3 q := ⟨by decide, h⟩
theorem gop_IV {md : Int32} {F : Nat → Nat} {L pl : Nat} {ins w : Nat → Int32} {x : (Nat × (Nat → Nat)) × Bool × (Nat → Nat) × (Nat → Int32) × (Nat → Int32) × (Nat → Int32)} (h : IV L pl 0 x) : IV L pl 256 (gop md F L pl ins w x) :=
  go_IV (l := 3) (p := 3) (ps3 (by decide)) (go_IV (l := 3) (p := 2) (ps3 (by decide)) (go_IV (l := 3) (p := 1) (ps3 (by decide)) (go_IV (l := 3) (p := 0) (ps3 (by decide)) h)))
theorem IV.next {L pl : Nat} {x : (Nat × (Nat → Nat)) × Bool × (Nat → Nat) × (Nat → Int32) × (Nat → Int32) × (Nat → Int32)} (h : IV L (pl + 1) 256 x) : IV L pl 0 x := by
  obtain ⟨h1, h2, h3, h4, h5, h6⟩ := h
  have hpw := pw1 pl
  exact ⟨h1, fun n _ hn => h3 _ (smp_inv n hn).2, fun j hj => by have := h3 j hj; omega, h4, h5, h6⟩
theorem go_full3 {md : Int32} {F : Nat → Nat} {L pl : Nat} {ins w : Nat → Int32} {x : (Nat × (Nat → Nat)) × Bool × (Nat → Nat) × (Nat → Int32) × (Nat → Int32) × (Nat → Int32)} (h : x.1.1 = L) : (gop md F L pl ins w x).1 = x.1 ∧ (gop md F L pl ins w x).2.2 = x.2.2 := by
  have a0 := go_full (md := md) (F := F) (L := L) (pl := pl) (l := 3) (p := 0) (ins := ins) (w := w) h
  have a1 := go_full (md := md) (F := F) (L := L) (pl := pl) (l := 3) (p := 1) (ins := ins) (w := w) (x := go md F L pl ins w 3 0 x) (by rw [a0.1]; exact h)
  have a2 := go_full (md := md) (F := F) (L := L) (pl := pl) (l := 3) (p := 2) (ins := ins) (w := w) (x := go md F L pl ins w 3 1 (go md F L pl ins w 3 0 x)) (by rw [a1.1, a0.1]; exact h)
  have a3 := go_full (md := md) (F := F) (L := L) (pl := pl) (l := 3) (p := 3) (ins := ins) (w := w) (x := go md F L pl ins w 3 2 (go md F L pl ins w 3 1 (go md F L pl ins w 3 0 x))) (by rw [a2.1, a1.1, a0.1]; exact h)
  exact ⟨a3.1.trans (a2.1.trans (a1.1.trans a0.1)), a3.2.trans (a2.2.trans (a1.2.trans a0.2))⟩
theorem gos_full {md : Int32} {F : Nat → Nat} {L k : Nat} {ins w : Nat → Int32} {x : (Nat × (Nat → Nat)) × Bool × (Nat → Nat) × (Nat → Int32) × (Nat → Int32) × (Nat → Int32)} (h : x.1.1 = L) : (gos md F L ins w k x).1 = x.1 ∧ (gos md F L ins w k x).2.2 = x.2.2 := by
  induction k generalizing x with
  | zero => exact ⟨rfl, rfl⟩
  | succ k ih =>
    have a := go_full3 (md := md) (F := F) (L := L) (pl := k) (ins := ins) (w := w) h
    have b := ih (x := gop md F L k ins w x) (by rw [a.1]; exact h)
    exact ⟨b.1.trans a.1, b.2.trans a.2⟩
theorem gop_en {md : Int32} {F : Nat → Nat} {L pl : Nat} {ins w : Nat → Int32} {x : (Nat × (Nat → Nat)) × Bool × (Nat → Nat) × (Nat → Int32) × (Nat → Int32) × (Nat → Int32)} (h : x.2.1 = true) : gop md F L pl ins w x = x := by
  unfold gop
  rw [go_en (p := 0) h, go_en (p := 1) h, go_en (p := 2) h, go_en (p := 3) h]
theorem gos_en {md : Int32} {F : Nat → Nat} {L k : Nat} {ins w : Nat → Int32} {x : (Nat × (Nat → Nat)) × Bool × (Nat → Nat) × (Nat → Int32) × (Nat → Int32) × (Nat → Int32)} (h : x.2.1 = true) : gos md F L ins w k x = x := by
  induction k with
  | zero => rfl
  | succ k ih => show gos md F L ins w k (gop md F L k ins w x) = x; rw [gop_en h]; exact ih
theorem gop_up {md : Int32} {F : Nat → Nat} {L pl : Nat} {ins w : Nat → Int32} {x : (Nat × (Nat → Nat)) × Bool × (Nat → Nat) × (Nat → Int32) × (Nat → Int32) × (Nat → Int32)} : (gop md F L pl ins w x).1.1 ≤ x.1.1 + 596 := by
  have a0 := go_up (md := md) (F := F) (L := L) (pl := pl) (l := 3) (p := 0) (ins := ins) (w := w) (x := x)
  have a1 := go_up (md := md) (F := F) (L := L) (pl := pl) (l := 3) (p := 1) (ins := ins) (w := w) (x := go md F L pl ins w 3 0 x)
  have a2 := go_up (md := md) (F := F) (L := L) (pl := pl) (l := 3) (p := 2) (ins := ins) (w := w) (x := go md F L pl ins w 3 1 (go md F L pl ins w 3 0 x))
  have a3 := go_up (md := md) (F := F) (L := L) (pl := pl) (l := 3) (p := 3) (ins := ins) (w := w) (x := go md F L pl ins w 3 2 (go md F L pl ins w 3 1 (go md F L pl ins w 3 0 x)))
  have hb : bc 3 = 149 := rfl
  unfold gop
  omega
