/-! LIFTING: one half step, sample by sample -/
theorem chk_nI {β : Type} {n N : Nat} {k : Option β} (h : n < N) (hN : N < 2 ^ 31) : chk (nI n) N k = k := chk_ok (vp_in_nI h hN)
theorem l0 : (0 : Int32) = nI 0 := rfl
theorem l1 : (1 : Int32) = nI 1 := rfl
theorem l2 : (2 : Int32) = nI 2 := rfl
theorem l4 : (4 : Int32) = nI 4 := rfl
theorem l16 : (16 : Int32) = nI 16 := rfl
theorem l256 : (256 : Int32) = nI 256 := rfl
theorem nz_nI {β : Type} {n : Nat} {k : Option β} (h0 : 0 < n) (h : n < 2 ^ 31) : nz (nI n) k = k := if_neg (nI_ne0 h0 h)
def cc (ac : Int32) (a : Nat) : Nat := if ac = 0 then a / 16 else a % 16
def fr (st : Nat) (ac : Int32) : Nat := if ac = 0 then 16 * st else st
def Bf (L : Nat → Int32) (st : Nat) (ac : Int32) (a : Nat) : Prop := st ≤ cc ac a ∧ L (a - fr st ac) = L a
def Bh (L : Nat → Int32) (st : Nat) (ac : Int32) (a : Nat) : Prop := cc ac a + st < 16 ∧ L (a + fr st ac) = L a
noncomputable def sm (L v : Nat → Int32) (st : Nat) (ac : Int32) (a : Nat) : Option Int32 :=
  @ite _ (Bf L st ac a) (Classical.propDecidable _) (@ite _ (Bh L st ac a) (Classical.propDecidable _) (some (v (a - fr st ac) + v (a + fr st ac))) (some (v (a - fr st ac) + v (a - fr st ac)))) (@ite _ (Bh L st ac a) (Classical.propDecidable _) (some (v (a + fr st ac) + v (a + fr st ac))) none)
def smI (o : Option Int32) : Int32 := match o with
  | some s => s
  | none => -2147483648
theorem cc_lt {ac : Int32} {a : Nat} (h : a < 256) : cc ac a < 16 := by unfold cc; split <;> omega
theorem fr_le {ac : Int32} {a st : Nat} (h : st ≤ cc ac a) : fr st ac ≤ a := by
  unfold cc at h; unfold fr
  split at h
  · rw [if_pos (by assumption)]; omega
  · rw [if_neg (by assumption)]; omega
theorem fr_lt {ac : Int32} {a st : Nat} (ha : a < 256) (h : cc ac a + st < 16) : a + fr st ac < 256 := by
  unfold cc at h; unfold fr
  split at h
  · rw [if_pos (by assumption)]; omega
  · rw [if_neg (by assumption)]; omega
theorem two_mul32 (x : Int32) : (2 : Int32) * x = x + x := by
  show ((1 : Int32) + 1) * x = x + x
  rw [Int32.add_mul, Int32.one_mul]
theorem around_eq (fu : Nat) {L v : Nat → Int32} {ac : Int32} {st a : Nat} (ha : a < 256) (h1 : 0 < st) (h4 : st ≤ 4) : m_Md_around fu (nI a) (nI st) ac L v = some (smI (sm L v st ac a)) := by
  have e : m_Md_around fu (nI a) (nI st) ac L v = m_Md_around_b31 fu (nI a) (nI st) (nI (cc ac a)) (nI (fr st ac)) L v := by
    unfold m_Md_around m_Md_around_b16 cc fr
    by_cases c : ac = 0
    · rw [if_pos c, if_pos c, if_pos c, if_pos c, l16, nz_nI (by decide) (by decide), pk_div (by omega) (by decide) (by decide), pk_mul]
    · rw [if_neg c, if_neg c, if_neg c, if_neg c, l16, nz_nI (by decide) (by decide), pk_rem (by omega) (by decide) (by decide)]
  rw [e]
  have hc := cc_lt (ac := ac) ha
  have f1 : st ≤ cc ac a → fr st ac ≤ a := fr_le
  have f2 : cc ac a + st < 16 → a + fr st ac < 256 := fr_lt ha
  unfold sm Bf Bh
  generalize cc ac a = c at *
  generalize fr st ac = f at *
  unfold m_Md_around_b31 m_Md_around_b55 m_Md_around_b56 m_Md_around_b83 m_Md_around_b84 m_Md_around_b112 m_Md_around_b146
  simp only [two_mul32, l16, nI_add, nI_ltI (show c < 2 ^ 31 by omega) (show st < 2 ^ 31 by omega), nI_leI (show 16 < 2 ^ 31 by omega) (show c + st < 2 ^ 31 by omega)]
  have hb : 16 ≤ c + st ↔ ¬ c + st < 16 := by omega
  have hb2 : c < st ↔ ¬ st ≤ c := by omega
  simp only [hb, hb2, chk_nI ha (by decide), nI_clamp (show a < 2 ^ 31 by omega)]
  by_cases g1 : st ≤ c
  · have i1 := f1 g1
    rw [pk_sub i1, chk_nI (show a - f < 256 by omega) (by decide), nI_clamp (show a - f < 2 ^ 31 by omega)]
    by_cases g2 : c + st < 16
    · have i2 := f2 g2
      rw [nI_clamp (by omega)]
      simp only [chk_nI i2 (show 256 < 2 ^ 31 by decide), chk_nI (show a - f < 256 by omega) (show 256 < 2 ^ 31 by decide)]
      by_cases g3 : L (a - f) = L a <;> by_cases g4 : L (a + f) = L a <;> simp [g1, g2, g3, g4, smI]
    · by_cases g3 : L (a - f) = L a <;> simp [g1, g2, g3, smI, chk_nI (show a - f < 256 by omega) (show 256 < 2 ^ 31 by decide)]
  · by_cases g2 : c + st < 16
    · have i2 := f2 g2
      rw [nI_clamp (by omega)]
      by_cases g4 : L (a + f) = L a <;> simp [g1, g2, g4, smI, chk_nI i2 (show 256 < 2 ^ 31 by decide)]
    · simp [g1, g2, smI]
