/-! THE WALK: squares in their order -/
def mx (n : Nat) : Nat := n % 2 + 2 * (n / 4 % 2) + 4 * (n / 16 % 2) + 8 * (n / 64 % 2)
def my (n : Nat) : Nat := n / 2 % 2 + 2 * (n / 8 % 2) + 4 * (n / 32 % 2) + 8 * (n / 128 % 2)
def il (x y : Nat) : Nat := x % 2 + 2 * (y % 2) + 4 * (x / 2 % 2) + 8 * (y / 2 % 2) + 16 * (x / 4 % 2) + 32 * (y / 4 % 2) + 64 * (x / 8 % 2) + 128 * (y / 8 % 2)
def smp (n : Nat) : Nat := 16 * my n + mx n
def fsqN (l : Nat) : Nat := if l = 0 then 0 else if l = 1 then 256 else if l = 2 then 320 else 336
def lv (s : Nat) : Nat := if s < 256 then 0 else if s < 320 then 1 else if s < 336 then 2 else 3
def sid (l p : Nat) : Nat := fsqN l + p
def ck (l p : Nat) : Nat := fsqN l + my p * 2 ^ (4 - l) + mx p
def cks (s : Nat) : Nat := ck (lv s) (s - fsqN (lv s))
def icks (c : Nat) : Nat := fsqN (lv c) + il ((c - fsqN (lv c)) % 2 ^ (4 - lv c)) ((c - fsqN (lv c)) / 2 ^ (4 - lv c))
def rks (s : Nat) : Nat := 256 * lv s + 4 ^ lv s * (s - fsqN (lv s))
def irks (c : Nat) : Nat := fsqN (c / 256) + c % 256 / 4 ^ (c / 256)
theorem cks_inv : ∀ s, s < 340 → icks (cks s) = s ∧ cks s < 340 := by decide +kernel
theorem rks_inv : ∀ s, s < 340 → irks (rks s) = s ∧ rks s < 1024 := by decide +kernel
theorem cks_inj {a b : Nat} (ha : a < 340) (hb : b < 340) (h : cks a = cks b) : a = b := by rw [← (cks_inv a ha).1, ← (cks_inv b hb).1, h]
theorem rks_inj {a b : Nat} (ha : a < 340) (hb : b < 340) (h : rks a = rks b) : a = b := by rw [← (rks_inv a ha).1, ← (rks_inv b hb).1, h]
def PS (l p : Nat) : Prop := l < 4 ∧ p < 4 ^ (4 - l)
theorem sid_0 : ∀ l, l < 4 → ∀ p, p < 256 → ¬ p < 4 ^ (4 - l) ∨ (sid l p < 340 ∧ lv (sid l p) = l ∧ cks (sid l p) = ck l p ∧ rks (sid l p) = 256 * l + 4 ^ l * p) := by decide +kernel
theorem PS.lt {l p : Nat} (h : PS l p) : p < 256 := by
  have h1 := h.1
  have h2 := h.2
  have : 4 ^ (4 - l) ≤ 4 ^ 4 := Nat.pow_le_pow_right (by decide) (by omega)
  omega
theorem sid_ok {l p : Nat} (h : PS l p) : sid l p < 340 ∧ lv (sid l p) = l ∧ cks (sid l p) = ck l p ∧ rks (sid l p) = 256 * l + 4 ^ l * p := (sid_0 l h.1 p h.lt).resolve_left (fun q => q h.2)
theorem sid_inj {l p l2 p2 : Nat} (h : PS l p) (h2 : PS l2 p2) (e : sid l p = sid l2 p2) : l = l2 ∧ p = p2 := by
  have e1 : l = l2 := by rw [← (sid_ok h).2.1, ← (sid_ok h2).2.1, e]
  subst e1
  refine ⟨rfl, ?_⟩
  unfold sid at e
  omega
theorem sid_of : ∀ s, s < 340 → lv s < 4 ∧ s - fsqN (lv s) < 4 ^ (4 - lv s) ∧ sid (lv s) (s - fsqN (lv s)) = s := by decide +kernel
theorem il_0 : ∀ x, x < 16 → ∀ y, y < 16 → mx (il x y) = x ∧ my (il x y) = y := by decide +kernel
theorem il_1 : ∀ x, x < 8 → ∀ y, y < 8 → il x y < 64 := by decide +kernel
theorem il_2 : ∀ x, x < 4 → ∀ y, y < 4 → il x y < 16 := by decide +kernel
theorem il_3 : ∀ x, x < 2 → ∀ y, y < 2 → il x y < 4 := by decide +kernel
theorem mxy_0 : ∀ p, p < 256 → mx p < 16 ∧ my p < 16 ∧ il (mx p) (my p) = p := by decide +kernel
theorem mxy_1 : ∀ p, p < 64 → mx p < 8 ∧ my p < 8 := by decide +kernel
theorem mxy_2 : ∀ p, p < 16 → mx p < 4 ∧ my p < 4 := by decide +kernel
theorem mxy_3 : ∀ p, p < 4 → mx p < 2 ∧ my p < 2 := by decide +kernel
theorem smp_inv : ∀ n, n < 256 → il (smp n % 16) (smp n / 16) = n ∧ smp n < 256 := by decide +kernel
theorem smp_inj {a b : Nat} (ha : a < 256) (hb : b < 256) (h : smp a = smp b) : a = b := by rw [← (smp_inv a ha).1, ← (smp_inv b hb).1, h]
theorem smp_il : ∀ j, j < 256 → il (j % 16) (j / 16) < 256 ∧ smp (il (j % 16) (j / 16)) = j := by decide +kernel
theorem kid : ∀ p, p < 64 → ∀ j, j < 4 → mx (4 * p + j) = mx p * 2 + j % 2 ∧ my (4 * p + j) = my p * 2 + j / 2 := by decide +kernel
theorem ck_0 : ∀ p, p < 256 → ck 0 p = smp p := by decide +kernel
theorem sqo_0 : ∀ l, l < 4 → ∀ p, p < 256 → m_Walk_squareOf 0 (nI l) (nI (mx p)) (nI (my p)) = some (nI (ck l p)) := by decide +kernel
theorem sqo_ok (fu : Nat) {l p : Nat} (hl : l < 4) (hp : p < 256) : m_Walk_squareOf fu (nI l) (nI (mx p)) (nI (my p)) = some (nI (ck l p)) := sqo_0 l hl p hp
theorem msm_0 : ∀ q, q < 4 → ∀ z, z < 64 → m_Md_sample 0 (nI q) (nI z) = some (nI (smp (64 * q + z))) := by decide +kernel
theorem msm_ok (fu : Nat) {q z : Nat} (hq : q < 4) (hz : z < 64) : m_Md_sample fu (nI q) (nI z) = some (nI (smp (64 * q + z))) := msm_0 q hq z hz
def lvz (z : Nat) : Nat := if z % 64 = 0 then 3 else if z % 16 = 0 then 2 else if z % 4 = 0 then 1 else 0
theorem mlv_0 : ∀ z, z < 65 → m_Md_level 0 (nI z) = some (nI (lvz z)) := by decide +kernel
theorem mlv_ok (fu : Nat) {z : Nat} (hz : z < 65) : m_Md_level fu (nI z) = some (nI (lvz z)) := mlv_0 z hz
theorem shl2l : ∀ l, l < 4 → (1 : Int32) <<< (((2 : Int32) * nI l) &&& 31) = nI (4 ^ l) := by decide +kernel
theorem shlp : ∀ k, k < 31 → (1 : Int32) <<< (nI k &&& 31) = nI (2 ^ k) := by decide +kernel
/-- the greatest of a row of samples, and one more; 0 if none is inside -/
def gv (ins w : Nat → Int32) (n : Nat) : Nat := if ins (smp n) = 0 then 0 else absN (w (smp n)) + 1
def gN (ins w : Nat → Int32) (a : Nat) : Nat → Nat
  | 0 => 0
  | k + 1 => Nat.max (gN ins w a k) (gv ins w (a + k))
def G (ins w : Nat → Int32) (l p : Nat) : Nat := gN ins w (4 ^ l * p) (4 ^ l)
def en (v : Nat) : Int32 := nI v - 1
theorem gN_add (ins w : Nat → Int32) (a k m : Nat) : gN ins w a (k + m) = Nat.max (gN ins w a k) (gN ins w (a + k) m) := by
  induction m with
  | zero => show gN ins w a k = Nat.max (gN ins w a k) 0; exact (Nat.max_zero _).symm
  | succ m ih =>
    show Nat.max (gN ins w a (k + m)) (gv ins w (a + (k + m))) = Nat.max (gN ins w a k) (Nat.max (gN ins w (a + k) m) (gv ins w (a + k + m)))
    rw [ih, Nat.add_assoc]
    exact Nat.max_assoc _ _ _
theorem G_up (ins w : Nat → Int32) (l p : Nat) : G ins w (l + 1) p = Nat.max (Nat.max (Nat.max (Nat.max 0 (G ins w l (4 * p + 0))) (G ins w l (4 * p + 1))) (G ins w l (4 * p + 2))) (G ins w l (4 * p + 3)) := by
  unfold G
  have e : 4 ^ (l + 1) = 4 ^ l + 4 ^ l + 4 ^ l + 4 ^ l := by rw [Nat.pow_succ]; omega
  have e0 : 4 ^ (l + 1) * p = 4 ^ l * (4 * p + 0) := by rw [Nat.pow_succ, Nat.mul_assoc, Nat.add_zero]
  have e1 : 4 ^ l * (4 * p + 1) = 4 ^ l * (4 * p + 0) + 4 ^ l := by rw [Nat.mul_add, Nat.mul_add, Nat.mul_one, Nat.mul_zero, Nat.add_zero]
  have e2 : 4 ^ l * (4 * p + 2) = 4 ^ l * (4 * p + 0) + (4 ^ l + 4 ^ l) := by rw [Nat.mul_add, Nat.mul_add, Nat.mul_zero, Nat.add_zero]; omega
  have e3 : 4 ^ l * (4 * p + 3) = 4 ^ l * (4 * p + 0) + (4 ^ l + 4 ^ l + 4 ^ l) := by rw [Nat.mul_add, Nat.mul_add, Nat.mul_zero, Nat.add_zero]; omega
  rw [e0, e1, e2, e3, e, gN_add, gN_add, gN_add, show ∀ x, Nat.max 0 x = x from Nat.zero_max]
theorem gv_le {ins w : Nat → Int32} {B n : Nat} (h : Bd B w) (hn : n < 256) : gv ins w n ≤ B + 1 := by
  unfold gv
  split
  · omega
  · have := abs_le (h (smp n) (smp_inv n hn).2); omega
theorem gN_le {ins w : Nat → Int32} {B a k : Nat} (h : Bd B w) (hn : a + k ≤ 256) : gN ins w a k ≤ B + 1 := by
  induction k with
  | zero => exact Nat.zero_le _
  | succ k ih => exact Nat.max_le.mpr ⟨ih (by omega), gv_le h (by omega)⟩
theorem gN_congr {ins w ins2 w2 : Nat → Int32} {a k : Nat} (hn : a + k ≤ 256) (h1 : EqT ins ins2) (h2 : EqT w w2) : gN ins w a k = gN ins2 w2 a k := by
  induction k with
  | zero => rfl
  | succ k ih =>
    show Nat.max (gN ins w a k) (gv ins w (a + k)) = Nat.max (gN ins2 w2 a k) (gv ins2 w2 (a + k))
    rw [ih (by omega)]
    unfold gv
    rw [h1 _ (smp_inv (a + k) (by omega)).2, h2 _ (smp_inv (a + k) (by omega)).2]
theorem PS.rng {l p : Nat} (h : PS l p) : 4 ^ l * p + 4 ^ l ≤ 256 := by
  have h1 := h.1
  have h2 := h.2
  have e : 4 ^ l * 4 ^ (4 - l) = 256 := by rw [← Nat.pow_add, show l + (4 - l) = 4 by omega]
  have h3 : 4 ^ l * (p + 1) ≤ 4 ^ l * 4 ^ (4 - l) := Nat.mul_le_mul_left _ h2
  rw [Nat.mul_add, Nat.mul_one] at h3
  omega
theorem G_le {ins w : Nat → Int32} {B l p : Nat} (h : Bd B w) (hp : PS l p) : G ins w l p ≤ B + 1 := gN_le h hp.rng
theorem PS.kid {l p j : Nat} (h : PS (l + 1) p) (hj : j < 4) : PS l (4 * p + j) := by
  have h1 := h.1
  have h2 := h.2
  refine ⟨by omega, ?_⟩
  have e : 4 ^ (4 - l) = 4 * 4 ^ (4 - (l + 1)) := by rw [show 4 - l = 4 - (l + 1) + 1 by omega, Nat.pow_succ]; omega
  omega
theorem en_toInt {v : Nat} (h : v < 2 ^ 30) : (en v).toInt = (v : Int) - 1 := by
  unfold en
  rw [l1]
  exact pk_sub_toInt h (by decide)
theorem en_lt {a b : Nat} (ha : a < 2 ^ 30) (hb : b < 2 ^ 30) : en a < en b ↔ a < b := by
  rw [Int32.lt_iff_toInt_lt, en_toInt ha, en_toInt hb]; omega
theorem en_eq {a : Nat} (ha : a < 2 ^ 30) : en a = -1 ↔ a = 0 := by
  constructor
  · intro h
    have := en_toInt ha
    rw [h] at this
    have h2 : (-1 : Int32).toInt = -1 := by decide
    omega
  · intro h; rw [h]; rfl
theorem en_succ (a : Nat) : en (a + 1) = nI a := nI_pred a
theorem en_ltn {a b : Nat} (ha : a < 2 ^ 30) (hb : b < 2 ^ 30) : en a < nI b ↔ a ≤ b := by
  rw [Int32.lt_iff_toInt_lt, en_toInt ha, nI_toInt (by omega)]; omega
theorem en_len {a b : Nat} (ha : a < 2 ^ 30) (hb : b < 2 ^ 30) : nI b ≤ en a ↔ b < a := by
  rw [Int32.le_iff_toInt_le, en_toInt ha, nI_toInt (by omega)]; omega
theorem en_max {a b : Nat} (ha : a < 2 ^ 30) (hb : b < 2 ^ 30) : (if en a < en b then en b else en a) = en (Nat.max a b) := by
  by_cases h : a < b
  · rw [if_pos ((en_lt ha hb).mpr h), show Nat.max a b = b from Nat.max_eq_right (by omega)]
  · rw [if_neg (fun q => h ((en_lt ha hb).mp q)), show Nat.max a b = a from Nat.max_eq_left (by omega)]
