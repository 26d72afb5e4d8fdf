def Sl (L : Nat → Int32) (st : Nat) (ac od : Int32) (a : Nat) : Prop := L a ≠ -1 ∧ a % 16 % st = 0 ∧ a / 16 % st = 0 ∧ nI (cc ac a / st % 2) = od
def d0 (od s : Int32) : Int32 := if od = 0 then (s + 2) >>> (2 &&& 31) else -(s >>> (1 &&& 31))
def dl (od bk s : Int32) : Int32 := if bk = 0 then d0 od s else -(d0 od s)
def lo (od bk x : Int32) (o : Option Int32) : Int32 := match o with
  | some s => x + dl od bk s
  | none => x
noncomputable def ls (L : Nat → Int32) (st : Nat) (ac od bk : Int32) (v : Nat → Int32) (a : Nat) : Int32 :=
  @ite _ (Sl L st ac od a) (Classical.propDecidable _) (lo od bk (v a) (sm L v st ac a)) (v a)
theorem ls_y {L : Nat → Int32} {st : Nat} {ac od bk : Int32} {v : Nat → Int32} {a : Nat} (h : Sl L st ac od a) : ls L st ac od bk v a = lo od bk (v a) (sm L v st ac a) := if_pos h
theorem ls_n {L : Nat → Int32} {st : Nat} {ac od bk : Int32} {v : Nat → Int32} {a : Nat} (h : ¬ Sl L st ac od a) : ls L st ac od bk v a = v a := if_neg h
theorem par_ne {p q : Nat} {od : Int32} (h : p % 2 ≠ q % 2) (h1 : nI (p % 2) = od) (h2 : nI (q % 2) = od) : False := by
  rw [← h2] at h1
  exact h ((nI_eq (by omega) (by omega)).mp h1)
theorem Sl_bef {L : Nat → Int32} {st : Nat} {ac od : Int32} {a : Nat} (hst : st = 1 ∨ st = 2 ∨ st = 4) (h : Sl L st ac od a) (hb : st ≤ cc ac a) : ¬ Sl L st ac od (a - fr st ac) := by
  intro g
  refine par_ne ?_ h.2.2.2 g.2.2.2
  have h2 := h.2.1; have h3 := h.2.2.1; have g2 := g.2.1; have g3 := g.2.2.1
  unfold cc fr at *
  by_cases c : ac = 0
  · simp only [if_pos c] at *
    rcases hst with e | e | e <;> subst e <;> omega
  · simp only [if_neg c] at *
    rcases hst with e | e | e <;> subst e <;> omega
theorem Sl_beh {L : Nat → Int32} {st : Nat} {ac od : Int32} {a : Nat} (hst : st = 1 ∨ st = 2 ∨ st = 4) (h : Sl L st ac od a) (hb : cc ac a + st < 16) : ¬ Sl L st ac od (a + fr st ac) := by
  intro g
  refine par_ne ?_ h.2.2.2 g.2.2.2
  have h2 := h.2.1; have h3 := h.2.2.1; have g2 := g.2.1; have g3 := g.2.2.1
  unfold cc fr at *
  by_cases c : ac = 0
  · simp only [if_pos c] at *
    rcases hst with e | e | e <;> subst e <;> omega
  · simp only [if_neg c] at *
    rcases hst with e | e | e <;> subst e <;> omega
/-- values between: each sample has its old or its new value -/
def Mx (L : Nat → Int32) (st : Nat) (ac od bk : Int32) (v cur : Nat → Int32) : Prop := ∀ j, j < 256 → cur j = v j ∨ cur j = ls L st ac od bk v j
theorem sm_cur {L : Nat → Int32} {st : Nat} {ac od bk : Int32} {v cur : Nat → Int32} {a : Nat} (hst : st = 1 ∨ st = 2 ∨ st = 4) (ha : a < 256) (h : Sl L st ac od a) (hm : Mx L st ac od bk v cur) : sm L cur st ac a = sm L v st ac a := by
  have h1 : st ≤ cc ac a → cur (a - fr st ac) = v (a - fr st ac) := fun hb => by
    rcases hm (a - fr st ac) (by omega) with q | q
    · exact q
    · rw [q, ls_n (Sl_bef hst h hb)]
  have h2 : cc ac a + st < 16 → cur (a + fr st ac) = v (a + fr st ac) := fun hb => by
    rcases hm (a + fr st ac) (fr_lt ha hb) with q | q
    · exact q
    · rw [q, ls_n (Sl_beh hst h hb)]
  unfold sm
  by_cases c1 : Bf L st ac a
  · rw [if_pos c1, if_pos c1, h1 c1.1]
    by_cases c2 : Bh L st ac a
    · rw [if_pos c2, if_pos c2, h2 c2.1]
    · rw [if_neg c2, if_neg c2]
  · rw [if_neg c1, if_neg c1]
    by_cases c2 : Bh L st ac a
    · rw [if_pos c2, if_pos c2, h2 c2.1]
    · rw [if_neg c2, if_neg c2]
/-- bounds -/
def Bd (B : Nat) (v : Nat → Int32) : Prop := ∀ j, j < 256 → -(B : Int) ≤ (v j).toInt ∧ (v j).toInt ≤ B
theorem bmod32 {x : Int} (h1 : -2147483648 ≤ x) (h2 : x < 2147483648) : x.bmod (2 ^ 32) = x := by
  rw [Int.bmod_def]
  split <;> omega
theorem add_toInt {a b : Int32} (h1 : -2147483648 ≤ a.toInt + b.toInt) (h2 : a.toInt + b.toInt < 2147483648) : (a + b).toInt = a.toInt + b.toInt := by
  rw [Int32.toInt_add, bmod32 h1 h2]
theorem sub_toInt {a b : Int32} (h1 : -2147483648 ≤ a.toInt - b.toInt) (h2 : a.toInt - b.toInt < 2147483648) : (a - b).toInt = a.toInt - b.toInt := by
  rw [Int32.toInt_sub, bmod32 h1 h2]
theorem neg_toInt {a : Int32} (h1 : -2147483648 < a.toInt) : (-a).toInt = -a.toInt := by
  have := Int32.toInt_lt a
  rw [Int32.toInt_neg, bmod32 (by omega) (by omega)]
theorem shr1_toInt (a : Int32) : (a >>> ((1 : Int32) &&& 31)).toInt = a.toInt / 2 := by
  rw [pk_shr a _ 1 (by decide), Int.shiftRight_eq_div_pow]; rfl
theorem shr2_toInt (a : Int32) : (a >>> ((2 : Int32) &&& 31)).toInt = a.toInt / 4 := by
  rw [pk_shr a _ 2 (by decide), Int.shiftRight_eq_div_pow]; rfl
theorem sm_bd {L v : Nat → Int32} {st B : Nat} {ac s : Int32} {a : Nat} (hB : Bd B v) (hB2 : B < 2 ^ 30) (ha : a < 256) (h : sm L v st ac a = some s) : -(2 * B : Int) ≤ s.toInt ∧ s.toInt ≤ 2 * B := by
  have key : ∀ i j, i < 256 → j < 256 → -(2 * B : Int) ≤ (v i + v j).toInt ∧ (v i + v j).toInt ≤ 2 * B := by
    intro i j hi hj
    have b1 := hB i hi
    have b2 := hB j hj
    rw [add_toInt (by omega) (by omega)]
    omega
  unfold sm at h
  by_cases c1 : Bf L st ac a
  · rw [if_pos c1] at h
    by_cases c2 : Bh L st ac a
    · rw [if_pos c2] at h; cases h; exact key _ _ (by omega) (fr_lt ha c2.1)
    · rw [if_neg c2] at h; cases h; exact key _ _ (by omega) (by omega)
  · rw [if_neg c1] at h
    by_cases c2 : Bh L st ac a
    · rw [if_pos c2] at h; cases h; exact key _ _ (fr_lt ha c2.1) (fr_lt ha c2.1)
    · rw [if_neg c2] at h; cases h
theorem d0_odd {s : Int32} {B : Nat} (h : -(2 * B : Int) ≤ s.toInt ∧ s.toInt ≤ 2 * B) (hB : B < 2 ^ 30) : -(B : Int) ≤ (d0 1 s).toInt ∧ (d0 1 s).toInt ≤ B := by
  unfold d0
  rw [if_neg (by decide), neg_toInt (by rw [shr1_toInt]; omega), shr1_toInt]
  omega
theorem d0_even {s : Int32} {B : Nat} (h : -(2 * B : Int) ≤ s.toInt ∧ s.toInt ≤ 2 * B) (hB : B < 2 ^ 29) : -((B / 2 + 1 : Nat) : Int) ≤ (d0 0 s).toInt ∧ (d0 0 s).toInt ≤ (B / 2 + 1 : Nat) := by
  unfold d0
  have e2 : (2 : Int32).toInt = 2 := by decide
  rw [if_pos rfl, shr2_toInt, add_toInt (by omega) (by omega), e2]
  omega
theorem lo_bd {x s od bk : Int32} {B D : Nat} (hx : -(B : Int) ≤ x.toInt ∧ x.toInt ≤ B) (hd : -(D : Int) ≤ (d0 od s).toInt ∧ (d0 od s).toInt ≤ D) (h : B + D < 2 ^ 31) : -((B + D : Nat) : Int) ≤ (lo od bk x (some s)).toInt ∧ (lo od bk x (some s)).toInt ≤ (B + D : Nat) := by
  unfold lo dl
  dsimp only
  by_cases c : bk = 0
  · rw [if_pos c, add_toInt (by omega) (by omega)]; omega
  · rw [if_neg c, add_toInt (by rw [neg_toInt (by omega)]; omega) (by rw [neg_toInt (by omega)]; omega), neg_toInt (by omega)]; omega
theorem ls_bd {L v : Nat → Int32} {st B D : Nat} {ac od bk : Int32} (hB : Bd B v) (hB2 : B < 2 ^ 30) (hD : ∀ s : Int32, -(2 * B : Int) ≤ s.toInt ∧ s.toInt ≤ 2 * B → -(D : Int) ≤ (d0 od s).toInt ∧ (d0 od s).toInt ≤ D) (h : B + D < 2 ^ 31) : Bd (B + D) (ls L st ac od bk v) := by
  intro j hj
  have b := hB j hj
  by_cases c : Sl L st ac od j
  · rw [ls_y c]
    cases hs : sm L v st ac j with
    | none => show -((B + D : Nat) : Int) ≤ (v j).toInt ∧ (v j).toInt ≤ (B + D : Nat); omega
    | some s => exact lo_bd b (hD s (sm_bd hB hB2 hj hs)) h
  · rw [ls_n c]; omega
theorem ls_odd {L v : Nat → Int32} {st B : Nat} {ac bk : Int32} (hB : Bd B v) (hB2 : B < 2 ^ 30) : Bd (2 * B) (ls L st ac 1 bk v) := by
  rw [show 2 * B = B + B by omega]
  exact ls_bd hB hB2 (fun s h => d0_odd h hB2) (by omega)
theorem ls_even {L v : Nat → Int32} {st B : Nat} {ac bk : Int32} (hB : Bd B v) (hB2 : B < 2 ^ 29) : Bd (B + (B / 2 + 1)) (ls L st ac 0 bk v) :=
  ls_bd hB (by omega) (fun s h => d0_even h hB2) (by omega)
theorem Bd.mono {B C : Nat} {v : Nat → Int32} (h : Bd B v) (hc : B ≤ C) : Bd C v := fun j hj => by have := h j hj; omega
theorem sm_ne {L v : Nat → Int32} {st B : Nat} {ac s : Int32} {a : Nat} (hB : Bd B v) (hB2 : B < 2 ^ 30) (ha : a < 256) (h : sm L v st ac a = some s) : s ≠ -2147483648 := by
  intro e
  have := sm_bd hB hB2 ha h
  have e2 : (-2147483648 : Int32).toInt = -2147483648 := by decide
  rw [e, e2] at this
  omega
