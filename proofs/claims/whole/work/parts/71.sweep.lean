theorem m1_mul (x : Int32) : (-1 : Int32) * x = -x := by rw [Int32.neg_mul, Int32.one_mul]
theorem lo_so {od bk sg x : Int32} {o : Option Int32} (h : (sg = 1 ∧ bk = 0) ∨ (sg = -1 ∧ bk = 1)) : x + sg * so od o = lo od bk x o := by
  cases o with
  | none =>
    unfold so lo
    dsimp only
    rw [Int32.mul_zero, Int32.add_zero]
  | some s =>
    unfold so lo dl
    dsimp only
    rcases h with ⟨e1, e2⟩ | ⟨e1, e2⟩ <;> subst e1 <;> subst e2
    · rw [Int32.one_mul, if_pos rfl]
    · rw [m1_mul, if_neg (by decide)]
/-- up to (x, y) all samples are new -/
def Up (N v cur : Nat → Int32) (x y : Nat) : Prop := ∀ j, j < 256 → ((j / 16 < y ∨ (j / 16 = y ∧ j % 16 < x)) → cur j = N j) ∧ (¬ (j / 16 < y ∨ (j / 16 = y ∧ j % 16 < x)) → cur j = v j)
theorem sweep_k47 {fu W H st sc y : Nat} {P v : Nat → Int32} {ac od bk sg : Int32} (hfu : 600 < fu) (hW : W ≤ 16) (hH : H ≤ 16) (hst : (sc = 0 ∧ st = 1) ∨ (sc = 1 ∧ st = 2) ∨ (sc = 2 ∧ st = 4)) (hO : POut W H P) (hod : od = 0 ∨ od = 1) (hsg : (sg = 1 ∧ bk = 0) ∨ (sg = -1 ∧ bk = 1)) (hy : y < H) (hys : y % st = 0) {cur : Nat → Int32} (hU : Up (ls P st ac od bk v) v cur 0 y) :
    Ok (loop2 (m_Lifting_sweep_k47 fu (nI sc) ac od sg (nI st) (nI (rt st ac)) (nI (dn st ac)) (nI y) (nI H) (nI W) P) fu 0 cur) (fun r => Up (ls P st ac od bk v) v r 0 (y + st)) := by
  have hst3 : st = 1 ∨ st = 2 ∨ st = 4 := by omega
  have hs4 : st ≤ 4 := by omega
  refine ok_loop2 (fun m x9 cur => ∃ x, x9 = nI x ∧ x % st = 0 ∧ x < 20 ∧ m = W - x ∧ Up (ls P st ac od bk v) v cur x y) ?_ fu W 0 cur (by omega) ⟨0, rfl, Nat.zero_mod _, by omega, rfl, hU⟩
  clear hU
  rintro rec m x9 cur ⟨x, rfl, hxs, hx20, hm, hU⟩ ih
  unfold m_Lifting_sweep_k47
  refine ok_if (fun c => ?_) (fun c => ?_)
  · have hWx : W ≤ x := (nI_leI (by omega) (by omega)).mp c
    refine ok_some (fun j hj => ⟨fun h => ?_, fun h => ?_⟩)
    · by_cases c2 : j / 16 < y ∨ (j / 16 = y ∧ j % 16 < x)
      · exact (hU j hj).1 c2
      · rw [(hU j hj).2 c2, ls_n]
        rintro ⟨h1, h2, h3, h4⟩
        by_cases c3 : W ≤ j % 16 ∨ H ≤ j / 16
        · exact h1 (hO j hj c3)
        · rcases hst3 with e | e | e <;> subst e <;> omega
    · exact (hU j hj).2 (by omega)
  · have hx : x < W := by
      rcases Nat.lt_or_ge x W with q | q
      · exact q
      · exact absurd (nI_le q (by omega)) c
    have e : (if ac = 0 then m_Lifting_sweep_b70 fu rec (nI sc) ac od sg (nI st) (nI (rt st ac)) (nI (dn st ac)) (nI y) (nI x) (nI y) (nI H) (nI W) P cur else m_Lifting_sweep_b70 fu rec (nI sc) ac od sg (nI st) (nI (rt st ac)) (nI (dn st ac)) (nI y) (nI x) (nI x) (nI H) (nI W) P cur) = m_Lifting_sweep_b70 fu rec (nI sc) ac od sg (nI st) (nI (rt st ac)) (nI (dn st ac)) (nI y) (nI x) (nI (cc ac (16 * y + x))) (nI H) (nI W) P cur := by
      unfold cc
      by_cases c : ac = 0
      · rw [if_pos c, if_pos c]; congr 2; omega
      · rw [if_neg c, if_neg c]; congr 2; omega
    rw [e]
    have ha : 16 * y + x < 256 := by omega
    have hcc := cc_lt (ac := ac) ha
    have next : ∀ cur', cur' (16 * y + x) = ls P st ac od bk v (16 * y + x) → (∀ j, j ≠ 16 * y + x → cur' j = cur j) → Ok (m_Lifting_sweep_b113 fu rec (nI sc) ac od sg (nI st) (nI (rt st ac)) (nI (dn st ac)) (nI y) (nI x) (nI H) (nI W) P cur') (fun r => Up (ls P st ac od bk v) v r 0 (y + st)) := by
      intro cur' g1 g2
      unfold m_Lifting_sweep_b113
      refine ok_letB ?_
      rw [nI_add]
      refine ih (W - (x + st)) _ _ (by omega) ⟨x + st, rfl, by rcases hst3 with e | e | e <;> subst e <;> omega, by omega, rfl, fun j hj => ⟨fun h => ?_, fun h => ?_⟩⟩
      · by_cases e : j = 16 * y + x
        · subst e; exact g1
        · rw [g2 j e]
          by_cases c2 : j / 16 < y ∨ (j / 16 = y ∧ j % 16 < x)
          · exact (hU j hj).1 c2
          · rw [(hU j hj).2 c2, ls_n]
            rintro ⟨h1, h2, h3, h4⟩
            rcases hst3 with e | e | e <;> subst e <;> omega
      · rw [g2 j (by omega)]; exact (hU j hj).2 (by omega)
    have hca : cur (16 * y + x) = v (16 * y + x) := (hU _ ha).2 (by omega)
    unfold m_Lifting_sweep_b70
    have hsh : nI (cc ac (16 * y + x)) >>> (nI sc &&& 31) = nI (cc ac (16 * y + x) / st) := by
      rcases hst with ⟨e, e2⟩ | ⟨e, e2⟩ | ⟨e, e2⟩ <;> subst e <;> subst e2
      · exact pk_shrN (by omega) _ 0 (by decide)
      · exact pk_shrN (by omega) _ 1 (by decide)
      · exact pk_shrN (by omega) _ 2 (by decide)
    have hp : cc ac (16 * y + x) / st ≤ 16 := Nat.le_trans (Nat.div_le_self _ _) (by omega)
    rw [hsh]
    refine ok_letB ?_
    rw [pk_andN (by omega) 1 (by decide)]
    refine ok_if (fun c2 => ?_) (fun c2 => next cur (by rw [ls_n (fun q => c2 q.2.2.2), hca]) (fun _ _ => rfl))
    rw [bn1_eq (samp_eq fu x y), nI_clamp (by omega), bn1_eq (change_ok hW hH hx hy hs4 hO hod)]
    refine ok_chk (vp_nI ha) (ok_letB (ok_chk (vp_nI ha) (next _ ?_ (fun j hj => pk_un hj))))
    rw [pk_us, hca]
    by_cases c3 : P (16 * y + x) = -1
    · rw [if_pos c3, ls_n (fun q => q.1 c3), Int32.mul_zero, Int32.add_zero]
    · have hS : Sl P st ac od (16 * y + x) := ⟨c3, by rw [show (16 * y + x) % 16 = x by omega]; exact hxs, by rw [show (16 * y + x) / 16 = y by omega]; exact hys, c2⟩
      have hM : Mx P st ac od bk v cur := fun j hj => by
        by_cases q : j / 16 < y ∨ (j / 16 = y ∧ j % 16 < x)
        · exact Or.inr ((hU j hj).1 q)
        · exact Or.inl ((hU j hj).2 q)
      rw [if_neg c3, sm_cur hst3 ha hS hM, lo_so hsg, ls_y hS]
theorem sweep_ok {fu W H st sc : Nat} {P v : Nat → Int32} {ac od bk sg : Int32} (hfu : 600 < fu) (hW : W ≤ 16) (hH : H ≤ 16) (hst : (sc = 0 ∧ st = 1) ∨ (sc = 1 ∧ st = 2) ∨ (sc = 2 ∧ st = 4)) (hO : POut W H P) (hod : od = 0 ∨ od = 1) (hsg : (sg = 1 ∧ bk = 0) ∨ (sg = -1 ∧ bk = 1)) :
    Ok (m_Lifting_sweep fu (nI sc) ac od sg (nI H) (nI W) P v) (fun r => ∀ j, j < 256 → r j = ls P st ac od bk v j) := by
  have hst3 : st = 1 ∨ st = 2 ∨ st = 4 := by omega
  have e1 : (1 : Int32) <<< (nI sc &&& 31) = nI st := by
    rcases hst with ⟨e, e2⟩ | ⟨e, e2⟩ | ⟨e, e2⟩ <;> subst e <;> subst e2 <;> rfl
  have e2 : m_Lifting_sweep fu (nI sc) ac od sg (nI H) (nI W) P v = m_Lifting_sweep_b27 fu (nI sc) ac od sg (nI st) (nI (rt st ac)) (nI (dn st ac)) (nI H) (nI W) P v := by
    unfold m_Lifting_sweep m_Lifting_sweep_b15 rt dn letB
    rw [e1]
    by_cases c : ac = 0
    · simp only [if_pos c]; rfl
    · simp only [if_neg c]; rfl
  rw [e2]
  unfold m_Lifting_sweep_b27
  refine ok_bn1 (Q := fun r => ∀ j, j < 256 → r j = ls P st ac od bk v j) ?_ (fun r h => ok_some h)
  refine ok_loop2 (fun m x8 cur => ∃ y, x8 = nI y ∧ y % st = 0 ∧ y < 20 ∧ m = H - y ∧ Up (ls P st ac od bk v) v cur 0 y) ?_ fu H 0 v (by omega) ⟨0, rfl, Nat.zero_mod _, by omega, rfl, fun j hj => ⟨fun h => by omega, fun _ => rfl⟩⟩
  rintro rec m x8 cur ⟨y, rfl, hys, hy20, hm, hU⟩ ih
  unfold m_Lifting_sweep_k32
  refine ok_if (fun c => ?_) (fun c => ?_)
  · have hHy : H ≤ y := (nI_leI (by omega) (by omega)).mp c
    refine ok_some (fun j hj => ?_)
    by_cases c2 : j / 16 < y ∨ (j / 16 = y ∧ j % 16 < 0)
    · exact (hU j hj).1 c2
    · rw [(hU j hj).2 c2, ls_n]
      rintro ⟨h1, _⟩
      exact h1 (hO j hj (Or.inr (by omega)))
  · have hy : y < H := by
      rcases Nat.lt_or_ge y H with q | q
      · exact q
      · exact absurd (nI_le q (by omega)) c
    refine ok_bn1 (sweep_k47 hfu hW hH hst hO hod hsg hy hys hU) (fun cur' g => ok_letB ?_)
    rw [nI_add]
    exact ih (H - (y + st)) _ _ (by omega) ⟨y + st, rfl, by rcases hst3 with e | e | e <;> subst e <;> omega, by omega, rfl, g⟩
