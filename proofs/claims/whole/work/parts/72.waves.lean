def EqT (f g : Nat → Int32) : Prop := ∀ j, j < 256 → f j = g j
theorem EqT.symm {f g : Nat → Int32} (h : EqT f g) : EqT g f := fun j hj => (h j hj).symm
theorem EqT.trans {f g k : Nat → Int32} (h : EqT f g) (h2 : EqT g k) : EqT f k := fun j hj => (h j hj).trans (h2 j hj)
theorem EqT.refl {f : Nat → Int32} : EqT f f := fun _ _ => rfl
theorem Bd.congr {B : Nat} {v w : Nat → Int32} (h : Bd B v) (e : EqT w v) : Bd B w := fun j hj => by rw [e j hj]; exact h j hj
noncomputable def f2 (L : Nat → Int32) (st : Nat) (ac : Int32) (v : Nat → Int32) : Nat → Int32 := ls L st ac 0 0 (ls L st ac 1 0 v)
noncomputable def f4 (L : Nat → Int32) (st : Nat) (v : Nat → Int32) : Nat → Int32 := f2 L st 0 (f2 L st 1 v)
noncomputable def b2 (L : Nat → Int32) (st : Nat) (ac : Int32) (v : Nat → Int32) : Nat → Int32 := ls L st ac 1 1 (ls L st ac 0 1 v)
noncomputable def b4 (L : Nat → Int32) (st : Nat) (v : Nat → Int32) : Nat → Int32 := b2 L st 1 (b2 L st 0 v)
noncomputable def fwd (L v : Nat → Int32) : Nat → Int32 := f4 L 4 (f4 L 2 (f4 L 1 v))
noncomputable def bwd (L v : Nat → Int32) : Nat → Int32 := b4 L 1 (b4 L 2 (b4 L 4 v))
theorem f4_congr {L M v w : Nat → Int32} {st : Nat} (hL : EqT L M) (hv : EqT v w) : EqT (f4 L st v) (f4 M st w) := ls_congr hL (ls_congr hL (ls_congr hL (ls_congr hL hv)))
theorem b4_congr {L M v w : Nat → Int32} {st : Nat} (hL : EqT L M) (hv : EqT v w) : EqT (b4 L st v) (b4 M st w) := ls_congr hL (ls_congr hL (ls_congr hL (ls_congr hL hv)))
theorem fwd_congr {L M v w : Nat → Int32} (hL : EqT L M) (hv : EqT v w) : EqT (fwd L v) (fwd M w) := f4_congr hL (f4_congr hL (f4_congr hL hv))
theorem bwd_congr {L M v w : Nat → Int32} (hL : EqT L M) (hv : EqT v w) : EqT (bwd L v) (bwd M w) := b4_congr hL (b4_congr hL (b4_congr hL hv))
theorem f2_bd {L v : Nat → Int32} {st B : Nat} {ac : Int32} (h : Bd B v) (hB : B < 2 ^ 27) : Bd (3 * B + 1) (f2 L st ac v) := (ls_even (ls_odd h (by omega)) (by omega)).mono (by omega)
theorem f4_bd {L v : Nat → Int32} {st B : Nat} (h : Bd B v) (hB : B < 2 ^ 24) : Bd (9 * B + 4) (f4 L st v) := (f2_bd (f2_bd h (by omega)) (by omega)).mono (by omega)
theorem b2_bd {L v : Nat → Int32} {st B : Nat} {ac : Int32} (h : Bd B v) (hB : B < 2 ^ 29) : Bd (3 * B + 2) (b2 L st ac v) := (ls_odd (ls_even h (by omega)) (by omega)).mono (by omega)
theorem b4_bd {L v : Nat → Int32} {st B : Nat} (h : Bd B v) (hB : B < 2 ^ 27) : Bd (9 * B + 8) (b4 L st v) := (b2_bd (b2_bd h (by omega)) (by omega)).mono (by omega)
theorem fwd_bd {L v : Nat → Int32} (h : Bd 255 v) : Bd 186259 (fwd L v) := (f4_bd (f4_bd (f4_bd h (by decide)) (by decide)) (by decide)).mono (by decide)
theorem lift_eqT {fu st B : Nat} {L v V : Nat → Int32} {ac od bk : Int32} (hfu : 600 < fu) (hst : st = 1 ∨ st = 2 ∨ st = 4) (hB : Bd B V) (hB2 : B < 2 ^ 30) (he : EqT v V) : Ok (m_Md_lift fu (nI st) ac od bk L v) (fun r => EqT r (ls L st ac od bk V)) :=
  ok_mono (lift_ok hfu hst (hB.congr he) hB2) (fun r h => EqT.trans h (ls_congr EqT.refl he))
theorem mk49_ok {fu st B : Nat} {x1 : Int32} {ins P pile vals v V : Nat → Int32} (hfu : 600 < fu) (hst : st = 1 ∨ st = 2 ∨ st = 4) (hB : Bd B V) (hB2 : B < 2 ^ 24) (he : EqT v V) :
    Ok (loop2 (m_Md_makeWaves_k49 fu x1 (nI st) ins P pile vals) fu 0 v) (fun r => EqT r (f4 P st V)) := by
  have hB3 := f2_bd (L := P) (st := st) (ac := 1) hB (by omega)
  refine ok_loop2 (fun m x3 w => (x3 = 0 ∧ m = 2 ∧ EqT w V) ∨ (x3 = 1 ∧ m = 1 ∧ EqT w (f2 P st 1 V)) ∨ (x3 = 2 ∧ m = 0 ∧ EqT w (f4 P st V))) ?_ fu 2 0 v (by omega) (Or.inl ⟨rfl, rfl, he⟩)
  rintro rec m x3 w (⟨rfl, rfl, h⟩ | ⟨rfl, rfl, h⟩ | ⟨rfl, rfl, h⟩) ih
  · unfold m_Md_makeWaves_k49 m_Md_makeWaves_b72 m_Md_makeWaves_b95
    rw [if_neg (by decide), if_pos rfl]
    refine ok_bn1 (lift_eqT hfu hst hB (by omega) h) (fun w1 h1 => ?_)
    rw [if_pos rfl]
    refine ok_bn1 (lift_eqT hfu hst (ls_odd hB (by omega)) (by omega) h1) (fun w2 h2 => ok_letB ?_)
    exact ih 1 _ _ (by omega) (Or.inr (Or.inl ⟨rfl, rfl, h2⟩))
  · unfold m_Md_makeWaves_k49 m_Md_makeWaves_b72 m_Md_makeWaves_b95
    rw [if_neg (by decide), if_neg (by decide)]
    refine ok_bn1 (lift_eqT hfu hst hB3 (by omega) h) (fun w1 h1 => ?_)
    rw [if_neg (by decide)]
    refine ok_bn1 (lift_eqT hfu hst (ls_odd hB3 (by omega)) (by omega) h1) (fun w2 h2 => ok_letB ?_)
    exact ih 0 _ _ (by omega) (Or.inr (Or.inr ⟨rfl, rfl, h2⟩))
  · unfold m_Md_makeWaves_k49
    rw [if_pos (by decide)]
    exact ok_some h
theorem copy_k15 {fu : Nat} {x1 : Int32} {ins P pile vals v : Nat → Int32} (hfu : 600 < fu) : Ok (loop2 (m_Md_makeWaves_k15 fu x1 ins P pile vals) fu 0 v) (fun r => EqT r vals) := by
  refine ok_loop2 (fun m x2 b => ∃ k, x2 = nI k ∧ k ≤ 256 ∧ m = 256 - k ∧ ∀ j, j < k → b j = vals j) ?_ fu 256 0 v (by omega) ⟨0, rfl, by omega, rfl, fun j h => absurd h (Nat.not_lt_zero _)⟩
  rintro rec m x2 b ⟨k, rfl, hk, hm, h1⟩ ih
  unfold m_Md_makeWaves_k15
  refine ok_if (fun c => ?_) (fun c => ?_)
  · have : 256 ≤ k := (nI_leI (a := 256) (by decide) (by omega)).mp c
    exact ok_some (fun j hj => h1 j (by omega))
  · have hk2 : k < 256 := by
      rcases Nat.lt_or_ge k 256 with q | q
      · exact q
      · exact absurd (nI_le q (by omega)) c
    refine ok_chk (vp_nI hk2) (ok_letB (ok_chk (vp_nI hk2) (ok_letB ?_)))
    rw [nI_1, nI_clamp (by omega)]
    refine ih (256 - (k + 1)) _ _ (by omega) ⟨k + 1, rfl, by omega, rfl, fun j hj => ?_⟩
    by_cases e : j = k
    · subst e; exact pk_us
    · rw [pk_un e]; exact h1 j (by omega)
theorem makeWaves_ok {fu : Nat} {ins P pile vals v : Nat → Int32} (hfu : 600 < fu) (hB : Bd 255 vals) :
    Ok (m_Md_makeWaves fu ins P pile vals v) (fun r => r.1 = nI (lab ins 256).2 ∧ EqT r.2.1 (lab ins 256).1 ∧ EqT r.2.2.2 (fwd (lab ins 256).1 vals)) := by
  unfold m_Md_makeWaves
  refine ok_bn3 (number_ok hfu) ?_
  rintro n pile2 P2 ⟨h1, h2⟩
  dsimp only at h1 h2
  refine ok_bn1 (copy_k15 hfu) (fun w hw => ?_)
  have hP : EqT P2 (lab ins 256).1 := h2
  have B1 := f4_bd (L := P2) (st := 1) hB (by decide)
  have B2 := f4_bd (L := P2) (st := 2) B1 (by decide)
  refine ok_bn1 (Q := fun r => EqT r (fwd P2 vals)) ?_ (fun r h => ok_some ⟨h1, hP, h.trans (fwd_congr hP EqT.refl)⟩)
  refine ok_loop2 (fun m x2 w => (x2 = 1 ∧ m = 3 ∧ EqT w vals) ∨ (x2 = 2 ∧ m = 2 ∧ EqT w (f4 P2 1 vals)) ∨ (x2 = 4 ∧ m = 1 ∧ EqT w (f4 P2 2 (f4 P2 1 vals))) ∨ (x2 = 8 ∧ m = 0 ∧ EqT w (fwd P2 vals))) ?_ fu 3 1 w (by omega) (Or.inl ⟨rfl, rfl, hw⟩)
  rintro rec m x2 w (⟨rfl, rfl, h⟩ | ⟨rfl, rfl, h⟩ | ⟨rfl, rfl, h⟩ | ⟨rfl, rfl, h⟩) ih
  · unfold m_Md_makeWaves_k42
    rw [if_neg (by decide)]
    refine ok_bn1 (mk49_ok (st := 1) hfu (by decide) hB (by decide) h) (fun w1 h1 => ok_letB ?_)
    exact ih 2 _ _ (by omega) (Or.inr (Or.inl ⟨by decide, rfl, h1⟩))
  · unfold m_Md_makeWaves_k42
    rw [if_neg (by decide)]
    refine ok_bn1 (mk49_ok (st := 2) hfu (by decide) B1 (by decide) h) (fun w1 h1 => ok_letB ?_)
    exact ih 1 _ _ (by omega) (Or.inr (Or.inr (Or.inl ⟨by decide, rfl, h1⟩)))
  · unfold m_Md_makeWaves_k42
    rw [if_neg (by decide)]
    refine ok_bn1 (mk49_ok (st := 4) hfu (by decide) B2 (by decide) h) (fun w1 h1 => ok_letB ?_)
    exact ih 0 _ _ (by omega) (Or.inr (Or.inr (Or.inr ⟨by decide, rfl, h1⟩)))
  · unfold m_Md_makeWaves_k42
    rw [if_pos (by decide)]
    exact ok_some h
theorem lb8_ok {fu st B : Nat} {P v V : Nat → Int32} (hfu : 600 < fu) (hst : st = 1 ∨ st = 2 ∨ st = 4) (hB : Bd B V) (hB2 : B < 2 ^ 27) (he : EqT v V) :
    Ok (loop2 (m_Md_liftBack_k8 fu (nI st) P) fu 1 v) (fun r => EqT r (b4 P st V)) := by
  have hB3 := b2_bd (L := P) (st := st) (ac := 0) hB (by omega)
  refine ok_loop2 (fun m x3 w => (x3 = 1 ∧ m = 2 ∧ EqT w V) ∨ (x3 = 0 ∧ m = 1 ∧ EqT w (b2 P st 0 V)) ∨ (x3 = -1 ∧ m = 0 ∧ EqT w (b4 P st V))) ?_ fu 2 1 v (by omega) (Or.inl ⟨rfl, rfl, he⟩)
  rintro rec m x3 w (⟨rfl, rfl, h⟩ | ⟨rfl, rfl, h⟩ | ⟨rfl, rfl, h⟩) ih
  · unfold m_Md_liftBack_k8 m_Md_liftBack_b24 m_Md_liftBack_b41
    rw [if_neg (by decide), if_neg (by decide)]
    refine ok_bn1 (lift_eqT hfu hst hB (by omega) h) (fun w1 h1 => ?_)
    rw [if_neg (by decide)]
    refine ok_bn1 (lift_eqT hfu hst (ls_even hB (by omega)) (by omega) h1) (fun w2 h2 => ok_letB ?_)
    exact ih 1 _ _ (by omega) (Or.inr (Or.inl ⟨by decide, rfl, h2⟩))
  · unfold m_Md_liftBack_k8 m_Md_liftBack_b24 m_Md_liftBack_b41
    rw [if_neg (by decide), if_pos rfl]
    refine ok_bn1 (lift_eqT hfu hst hB3 (by omega) h) (fun w1 h1 => ?_)
    rw [if_pos rfl]
    refine ok_bn1 (lift_eqT hfu hst (ls_even hB3 (by omega)) (by omega) h1) (fun w2 h2 => ok_letB ?_)
    exact ih 0 _ _ (by omega) (Or.inr (Or.inr ⟨by decide, rfl, h2⟩))
  · unfold m_Md_liftBack_k8
    rw [if_pos (by decide)]
    exact ok_some h
theorem liftBack_ok {fu : Nat} {P v : Nat → Int32} (hfu : 600 < fu) (hB : Bd 1048576 v) : Ok (m_Md_liftBack fu P v) (fun r => EqT r (bwd P v)) := by
  unfold m_Md_liftBack
  have B1 := b4_bd (L := P) (st := 4) hB (by decide)
  have B2 := b4_bd (L := P) (st := 2) B1 (by decide)
  refine ok_bn1 (Q := fun r => EqT r (bwd P v)) ?_ (fun r h => ok_some h)
  refine ok_loop2 (fun m x2 w => (x2 = 4 ∧ m = 3 ∧ EqT w v) ∨ (x2 = 2 ∧ m = 2 ∧ EqT w (b4 P 4 v)) ∨ (x2 = 1 ∧ m = 1 ∧ EqT w (b4 P 2 (b4 P 4 v))) ∨ (x2 = 0 ∧ m = 0 ∧ EqT w (bwd P v))) ?_ fu 3 4 v (by omega) (Or.inl ⟨rfl, rfl, EqT.refl⟩)
  rintro rec m x2 w (⟨rfl, rfl, h⟩ | ⟨rfl, rfl, h⟩ | ⟨rfl, rfl, h⟩ | ⟨rfl, rfl, h⟩) ih
  · unfold m_Md_liftBack_k2
    rw [if_neg (by decide)]
    refine ok_bn1 (lb8_ok (st := 4) hfu (by decide) hB (by decide) h) (fun w1 h1 => ok_nz (by decide) (ok_letB ?_))
    exact ih 2 _ _ (by omega) (Or.inr (Or.inl ⟨by decide, rfl, h1⟩))
  · unfold m_Md_liftBack_k2
    rw [if_neg (by decide)]
    refine ok_bn1 (lb8_ok (st := 2) hfu (by decide) B1 (by decide) h) (fun w1 h1 => ok_nz (by decide) (ok_letB ?_))
    exact ih 1 _ _ (by omega) (Or.inr (Or.inr (Or.inl ⟨by decide, rfl, h1⟩)))
  · unfold m_Md_liftBack_k2
    rw [if_neg (by decide)]
    refine ok_bn1 (lb8_ok (st := 1) hfu (by decide) B2 (by decide) h) (fun w1 h1 => ok_nz (by decide) (ok_letB ?_))
    exact ih 0 _ _ (by omega) (Or.inr (Or.inr (Or.inr ⟨by decide, rfl, h1⟩)))
  · unfold m_Md_liftBack_k2
    rw [if_pos (by decide)]
    exact ok_some h
theorem sweep_eqT {fu W H st sc : Nat} {P v V : Nat → Int32} {ac od bk sg : Int32} (hfu : 600 < fu) (hW : W ≤ 16) (hH : H ≤ 16) (hst : (sc = 0 ∧ st = 1) ∨ (sc = 1 ∧ st = 2) ∨ (sc = 2 ∧ st = 4)) (hO : POut W H P) (hod : od = 0 ∨ od = 1) (hsg : (sg = 1 ∧ bk = 0) ∨ (sg = -1 ∧ bk = 1)) (he : EqT v V) :
    Ok (m_Lifting_sweep fu (nI sc) ac od sg (nI H) (nI W) P v) (fun r => EqT r (ls P st ac od bk V)) :=
  ok_mono (sweep_ok hfu hW hH hst hO hod hsg) (fun r h => EqT.trans h (ls_congr EqT.refl he))
theorem forth_ok {fu W H : Nat} {P v : Nat → Int32} (hfu : 600 < fu) (hW : W ≤ 16) (hH : H ≤ 16) (hO : POut W H P) : Ok (m_Lifting_forth fu (nI H) (nI W) P v) (fun r => EqT r (fwd P v)) := by
  unfold m_Lifting_forth
  refine ok_bn1 (Q := fun r => EqT r (fwd P v)) ?_ (fun r h => ok_some h)
  refine ok_loop2 (fun m x1 w => (x1 = 0 ∧ m = 3 ∧ EqT w v) ∨ (x1 = 1 ∧ m = 2 ∧ EqT w (f4 P 1 v)) ∨ (x1 = 2 ∧ m = 1 ∧ EqT w (f4 P 2 (f4 P 1 v))) ∨ (x1 = 3 ∧ m = 0 ∧ EqT w (fwd P v))) ?_ fu 3 0 v (by omega) (Or.inl ⟨rfl, rfl, EqT.refl⟩)
  have four : ∀ {sc st : Nat} {w V : Nat → Int32} {ρ : Type} {K : (Nat → Int32) → Option ρ} {Post : ρ → Prop}, ((sc = 0 ∧ st = 1) ∨ (sc = 1 ∧ st = 2) ∨ (sc = 2 ∧ st = 4)) → EqT w V → (∀ w', EqT w' (f4 P st V) → Ok (K w') Post) → Ok (bn1 (m_Lifting_sweep fu (nI sc) 1 1 1 (nI H) (nI W) P w) (fun a => bn1 (m_Lifting_sweep fu (nI sc) 1 0 1 (nI H) (nI W) P a) (fun b => bn1 (m_Lifting_sweep fu (nI sc) 0 1 1 (nI H) (nI W) P b) (fun c => bn1 (m_Lifting_sweep fu (nI sc) 0 0 1 (nI H) (nI W) P c) K)))) Post := by
    intro sc st w V ρ K Post hs he hK
    refine ok_bn1 (sweep_eqT (bk := 0) hfu hW hH hs hO (Or.inr rfl) (Or.inl ⟨rfl, rfl⟩) he) (fun w1 h1 => ?_)
    refine ok_bn1 (sweep_eqT (bk := 0) hfu hW hH hs hO (Or.inl rfl) (Or.inl ⟨rfl, rfl⟩) h1) (fun w2 h2 => ?_)
    refine ok_bn1 (sweep_eqT (bk := 0) hfu hW hH hs hO (Or.inr rfl) (Or.inl ⟨rfl, rfl⟩) h2) (fun w3 h3 => ?_)
    exact ok_bn1 (sweep_eqT (bk := 0) hfu hW hH hs hO (Or.inl rfl) (Or.inl ⟨rfl, rfl⟩) h3) (fun w4 h4 => hK w4 h4)
  rintro rec m x1 w (⟨rfl, rfl, h⟩ | ⟨rfl, rfl, h⟩ | ⟨rfl, rfl, h⟩ | ⟨rfl, rfl, h⟩) ih
  · unfold m_Lifting_forth_k2
    rw [if_neg (by decide)]
    exact four (sc := 0) (st := 1) (by decide) h (fun w' h' => ok_letB (ih 2 _ _ (by omega) (Or.inr (Or.inl ⟨by decide, rfl, h'⟩))))
  · unfold m_Lifting_forth_k2
    rw [if_neg (by decide)]
    exact four (sc := 1) (st := 2) (by decide) h (fun w' h' => ok_letB (ih 1 _ _ (by omega) (Or.inr (Or.inr (Or.inl ⟨by decide, rfl, h'⟩)))))
  · unfold m_Lifting_forth_k2
    rw [if_neg (by decide)]
    exact four (sc := 2) (st := 4) (by decide) h (fun w' h' => ok_letB (ih 0 _ _ (by omega) (Or.inr (Or.inr (Or.inr ⟨by decide, rfl, h'⟩)))))
  · unfold m_Lifting_forth_k2
    rw [if_pos (by decide)]
    exact ok_some h
theorem back_ok {fu W H : Nat} {P v : Nat → Int32} (hfu : 600 < fu) (hW : W ≤ 16) (hH : H ≤ 16) (hO : POut W H P) : Ok (m_Lifting_back fu (nI H) (nI W) P v) (fun r => EqT r (bwd P v)) := by
  unfold m_Lifting_back
  refine ok_bn1 (Q := fun r => EqT r (bwd P v)) ?_ (fun r h => ok_some h)
  refine ok_loop2 (fun m x1 w => (x1 = 2 ∧ m = 3 ∧ EqT w v) ∨ (x1 = 1 ∧ m = 2 ∧ EqT w (b4 P 4 v)) ∨ (x1 = 0 ∧ m = 1 ∧ EqT w (b4 P 2 (b4 P 4 v))) ∨ (x1 = -1 ∧ m = 0 ∧ EqT w (bwd P v))) ?_ fu 3 2 v (by omega) (Or.inl ⟨rfl, rfl, EqT.refl⟩)
  have four : ∀ {sc st : Nat} {w V : Nat → Int32} {ρ : Type} {K : (Nat → Int32) → Option ρ} {Post : ρ → Prop}, ((sc = 0 ∧ st = 1) ∨ (sc = 1 ∧ st = 2) ∨ (sc = 2 ∧ st = 4)) → EqT w V → (∀ w', EqT w' (b4 P st V) → Ok (K w') Post) → Ok (bn1 (m_Lifting_sweep fu (nI sc) 0 0 (-1) (nI H) (nI W) P w) (fun a => bn1 (m_Lifting_sweep fu (nI sc) 0 1 (-1) (nI H) (nI W) P a) (fun b => bn1 (m_Lifting_sweep fu (nI sc) 1 0 (-1) (nI H) (nI W) P b) (fun c => bn1 (m_Lifting_sweep fu (nI sc) 1 1 (-1) (nI H) (nI W) P c) K)))) Post := by
    intro sc st w V ρ K Post hs he hK
    refine ok_bn1 (sweep_eqT (bk := 1) hfu hW hH hs hO (Or.inl rfl) (Or.inr ⟨rfl, rfl⟩) he) (fun w1 h1 => ?_)
    refine ok_bn1 (sweep_eqT (bk := 1) hfu hW hH hs hO (Or.inr rfl) (Or.inr ⟨rfl, rfl⟩) h1) (fun w2 h2 => ?_)
    refine ok_bn1 (sweep_eqT (bk := 1) hfu hW hH hs hO (Or.inl rfl) (Or.inr ⟨rfl, rfl⟩) h2) (fun w3 h3 => ?_)
    exact ok_bn1 (sweep_eqT (bk := 1) hfu hW hH hs hO (Or.inr rfl) (Or.inr ⟨rfl, rfl⟩) h3) (fun w4 h4 => hK w4 h4)
  rintro rec m x1 w (⟨rfl, rfl, h⟩ | ⟨rfl, rfl, h⟩ | ⟨rfl, rfl, h⟩ | ⟨rfl, rfl, h⟩) ih
  · unfold m_Lifting_back_k2
    rw [if_neg (by decide)]
    exact four (sc := 2) (st := 4) (by decide) h (fun w' h' => ok_letB (ih 2 _ _ (by omega) (Or.inr (Or.inl ⟨by decide, rfl, h'⟩))))
  · unfold m_Lifting_back_k2
    rw [if_neg (by decide)]
    exact four (sc := 1) (st := 2) (by decide) h (fun w' h' => ok_letB (ih 1 _ _ (by omega) (Or.inr (Or.inr (Or.inl ⟨by decide, rfl, h'⟩)))))
  · unfold m_Lifting_back_k2
    rw [if_neg (by decide)]
    exact four (sc := 0) (st := 1) (by decide) h (fun w' h' => ok_letB (ih 0 _ _ (by omega) (Or.inr (Or.inr (Or.inr ⟨by decide, rfl, h'⟩)))))
  · unfold m_Lifting_back_k2
    rw [if_pos (by decide)]
    exact ok_some h
