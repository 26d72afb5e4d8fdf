theorem op57_Eye {fu c : Nat} {t0 plane e lim q : Int32} {row : Nat → Int32} {gt left opn : Nat → Int32} (hc : c < 340) (h : t0 = 0 ∨ t0 = 1) : Ok (m_Walk_opens_Eye_b57 fu (nI c) t0 (nI c) plane gt left opn e lim q row) (fun r => r = (t0, left, upd opn c t0, e, q)) := by
  unfold m_Walk_opens_Eye_b57
  rw [nI_clamp (by omega), nar_b h, pk_us]
  exact ok_chk (vp_nI hc) (ok_chk (vp_nI hc) (ok_chkB h (ok_some rfl)))
theorem opens_Eye {fu L l p pl g : Nat} {F : Nat → Nat} {t : Nat × (Nat → Nat)} {e q : Int32} {row : Nat → Int32} {gt left opn : Nat → Int32} (hX : CX_Eye L F row) (hP : PS l p) (hpl : pl < 20) (hg : gt (ck l p) = en g) (hg2 : g < 2 ^ 30) (h : TP_Eye L t e q) (hb : Bg_Eye t.1 1) :
    Ok (m_Walk_opens_Eye fu (nI l) (nI (ck l p)) (nI pl) gt left opn e (LM_Eye L) q row) (fun r =>
      (t.1 = L ∧ r.1 = 0 ∧ r.2.1 = left ∧ r.2.2.1 = upd opn (ck l p) 0 ∧ r.2.2.2.1 = 1 ∧ TP_Eye L t r.2.2.2.1 r.2.2.2.2) ∨
      (t.1 ≠ L ∧ nb 2 F (if 2 ^ pl < g then 1 else 0) t.1 = 1 ∧ r.1 = 1 ∧ r.2.1 = left ∧ r.2.2.1 = upd opn (ck l p) 1 ∧ r.2.2.2.1 = 0 ∧ TP_Eye L (wr L t 1) r.2.2.2.1 r.2.2.2.2) ∨
      (t.1 ≠ L ∧ nb 2 F (if 2 ^ pl < g then 1 else 0) t.1 ≠ 1 ∧ r.1 = 0 ∧ r.2.1 = upd left l (left l + 1) ∧ r.2.2.1 = upd opn (ck l p) 0 ∧ r.2.2.2.1 = 0 ∧ TP_Eye L (wr L t 0) r.2.2.2.1 r.2.2.2.2)) := by
  have hck := ck_lt hP
  have hl := hP.1
  have hpw : 2 ^ pl ≤ 2 ^ 20 := Nat.pow_le_pow_right (by decide) (by omega)
  unfold m_Walk_opens_Eye
  rw [nI_clamp (by omega), hg, shlp pl (by omega)]
  refine ok_chk (vp_nI hck) ?_
  have key : ∀ d : Nat, d = (if 2 ^ pl < g then 1 else 0) → Ok (m_Walk_opens_Eye_b24 fu (nI l) (nI (ck l p)) (nI d) (nI pl) gt left opn e (LM_Eye L) q row) (fun r =>
      (t.1 = L ∧ r.1 = 0 ∧ r.2.1 = left ∧ r.2.2.1 = upd opn (ck l p) 0 ∧ r.2.2.2.1 = 1 ∧ TP_Eye L t r.2.2.2.1 r.2.2.2.2) ∨
      (t.1 ≠ L ∧ nb 2 F (if 2 ^ pl < g then 1 else 0) t.1 = 1 ∧ r.1 = 1 ∧ r.2.1 = left ∧ r.2.2.1 = upd opn (ck l p) 1 ∧ r.2.2.2.1 = 0 ∧ TP_Eye L (wr L t 1) r.2.2.2.1 r.2.2.2.2) ∨
      (t.1 ≠ L ∧ nb 2 F (if 2 ^ pl < g then 1 else 0) t.1 ≠ 1 ∧ r.1 = 0 ∧ r.2.1 = upd left l (left l + 1) ∧ r.2.2.1 = upd opn (ck l p) 0 ∧ r.2.2.2.1 = 0 ∧ TP_Eye L (wr L t 0) r.2.2.2.1 r.2.2.2.2)) := by
    intro d hd
    rw [← hd]
    have hd1 : d ≤ 1 := by rw [hd]; exact due1
    unfold m_Walk_opens_Eye_b24 m_Walk_opens_Eye_b42
    refine ok_bn3 (next_Eye hX h hb hd1) ?_
    rintro b a1 a2 (⟨g1, g2, g3, g4⟩ | ⟨g1, g2, g3, g4⟩)
    · dsimp only at g2 g3 g4
      subst g2
      refine ok_if (fun c => absurd c (by decide)) (fun _ => ok_if (fun c => absurd c (by decide)) (fun _ => ?_))
      refine ok_mono (op57_Eye hck (Or.inl rfl)) ?_
      rintro _ rfl
      exact Or.inl ⟨g1, rfl, rfl, rfl, g3, g4⟩
    · have hb1 : nb 2 F d t.1 ≤ 1 := nb_le hd1
      dsimp only at g2 g3 g4
      rcases (show nb 2 F d t.1 = 0 ∨ nb 2 F d t.1 = 1 by omega) with hn | hn
      · rw [hn] at g2 g4
        subst g2
        refine ok_if (fun _ => ?_) (fun c => absurd rfl c)
        refine ok_chk (vp_nI hl) (ok_letB (ok_chk (vp_nI hl) (ok_if (fun c => absurd c (by decide)) (fun _ => ?_))))
        rw [nI_clamp (by omega)]
        refine ok_mono (op57_Eye hck (Or.inl rfl)) ?_
        rintro _ rfl
        exact Or.inr (Or.inr ⟨g1, by omega, rfl, rfl, rfl, g3, g4⟩)
      · rw [hn] at g2 g4
        subst g2
        refine ok_if (fun c => absurd c (by decide)) (fun _ => ok_if (fun _ => ?_) (fun c => absurd rfl c))
        refine ok_mono (op57_Eye hck (Or.inr rfl)) ?_
        rintro _ rfl
        exact Or.inr (Or.inl ⟨g1, hn, rfl, rfl, rfl, g3, g4⟩)
  refine ok_if (fun c => ?_) (fun c => ?_)
  · have := (en_ltn hg2 (by omega)).mp c
    exact key 0 (if_neg (by omega)).symm
  · have : ¬ g ≤ 2 ^ pl := fun r => c ((en_ltn hg2 (by omega)).mpr r)
    exact key 1 (if_pos (by omega)).symm
def CT_Eye (L : Nat) (t : Nat × (Nat → Nat)) (b : Bool) (e q : Int32) : Prop := TP_Eye L t e q ∧ CE e b
theorem learn_Eye {fu L s pl B : Nat} {F : Nat → Nat} {was : Bool} {x : (Nat × (Nat → Nat)) × Bool × (Nat → Nat) × (Nat → Int32) × (Nat → Int32) × (Nat → Int32)} {e q : Int32} {row : Nat → Int32} {known left opn w : Nat → Int32} (hX : CX_Eye L F row) (hs : s < 256) (hpl : pl < 20) (hB : Bd B w) (hB2 : B < 2 ^ 29) (hT : CT_Eye L x.1 x.2.1 e q) (he : x.2.1 = false) (hN : CN x known left opn) (hb : Bg_Eye x.1.1 1) (hz1 : x.2.2.1 s + 2 ^ pl ≤ 1048576) (hz2 : x.2.2.2.1 s = 0 ∨ (x.2.2.2.1 s = 1 ∧ 0 < x.2.2.1 s)) (hz3 : was = false → x.2.2.1 s = 0) :
    Ok (m_Walk_learn_Eye fu (nI s) (if was = true then 1 else 0) (nI pl) known w e (LM_Eye L) q row) (fun r => CT_Eye L (leaf 2 F L pl w s was x).1 (leaf 2 F L pl w s was x).2.1 r.2.1 r.2.2 ∧ CN (leaf 2 F L pl w s was x) r.1 left opn) := by
  have hpw : 2 ^ pl ≤ 2 ^ 19 := Nat.pow_le_pow_right (by decide) (by omega)
  have hszb : x.2.2.1 s ≤ 1048576 := Nat.le_trans (Nat.le_add_right _ _) hz1
  have e0 : e = 0 := by
    rcases hT.2 with r | r
    · exact r.1
    · rw [he] at r; exact absurd r.2 (by decide)
  unfold m_Walk_learn_Eye
  rw [nI_clamp (by omega), shlp pl (by omega)]
  refine ok_chk (vp_nI hs) (ok_letB (ok_letB ?_))
  cases was with
  | false =>
    have hsz := hz3 rfl
    refine ok_if (fun _ => ?_) (fun c => absurd rfl c)
    have key : ∀ d : Nat, d = (if w s < 0 then 1 else 0) → Ok (m_Walk_learn_Eye_b35 fu (nI s) (nI (2 ^ pl)) (nI d) (nI pl) known w e (LM_Eye L) q row) (fun r => CT_Eye L (leaf 2 F L pl w s false x).1 (leaf 2 F L pl w s false x).2.1 r.2.1 r.2.2 ∧ CN (leaf 2 F L pl w s false x) r.1 left opn) := by
      intro d hd
      have hd1 : d ≤ 1 := by rw [hd]; exact due1
      unfold m_Walk_learn_Eye_b35 m_Walk_learn_Eye_b69 m_Walk_learn_Eye_b121
      refine ok_bn3 (next_Eye hX hT.1 hb hd1) ?_
      rintro b a1 a2 (⟨g1, g2, g3, g4⟩ | ⟨g1, g2, g3, g4⟩)
      · dsimp only at g2 g3 g4
        subst g2
        rw [leaf_e g1]
        refine ok_if (fun _ => ok_chk (vp_nI hs) (ok_some ⟨⟨g4, Or.inr ⟨g3, rfl⟩⟩, fun j hj => ?_, hN.2.1, hN.2.2⟩)) (fun c => absurd rfl c)
        show upd known (nI s).toNatClampNeg 0 j = _
        rw [nI_clamp (by omega)]
        by_cases r : j = s
        · rw [r, pk_us]
          show (0 : Int32) = kv x.2.2.1 x.2.2.2.1 s
          unfold kv
          rw [hsz]
          split <;> rfl
        · rw [pk_un r]; exact hN.1 j hj
      · have hb1 : nb 2 F d x.1.1 ≤ 1 := nb_le hd1
        dsimp only at g2 g3 g4
        rw [leaf_f g1, ← hd]
        have fin : ∀ v : Int32, v = (if nI (nb 2 F d x.1.1) = 0 then nI (2 ^ pl) else -(nI (2 ^ pl))) → ∀ j, j < 256 → upd known (nI s).toNatClampNeg v j = kv (updN x.2.2.1 s (2 ^ pl)) (upd x.2.2.2.1 s (nI (nb 2 F d x.1.1))) j := by
          intro v hv j hj
          rw [nI_clamp (by omega)]
          unfold kv
          by_cases r : j = s
          · rw [r, pk_us, pk_us, updN_s, hv]
          · rw [pk_un r, pk_un r, updN_n r]
            exact hN.1 j hj
        rcases (show nb 2 F d x.1.1 = 0 ∨ nb 2 F d x.1.1 = 1 by omega) with hn | hn
        · rw [hn] at g2 g4 fin ⊢
          subst g2
          exact ok_if (fun c => absurd c (by decide)) (fun _ => ok_if (fun c => absurd c (by decide)) (fun _ => ok_chk (vp_nI hs) (ok_some ⟨⟨g4, Or.inl ⟨g3, rfl⟩⟩, fin _ (if_pos rfl).symm, hN.2.1, hN.2.2⟩)))
        · rw [hn] at g2 g4 fin ⊢
          subst g2
          exact ok_if (fun c => absurd c (by decide)) (fun _ => ok_if (fun _ => ok_chk (vp_nI hs) (ok_some ⟨⟨g4, Or.inl ⟨g3, rfl⟩⟩, fin _ (if_neg (by decide)).symm, hN.2.1, hN.2.2⟩)) (fun c => absurd rfl c))
    refine ok_if (fun c => ?_) (fun c => ?_)
    · exact key 0 (if_neg (le0.mp c)).symm
    · refine key 1 (if_pos ?_).symm
      exact Decidable.of_not_not (fun r => c (le0.mpr r))
  | true =>
    refine ok_if (fun c => absurd c (by decide)) (fun _ => ?_)
    rw [abs_c (hB s hs) (by omega)]
    have hab := abs_le (hB s hs)
    rw [bit_of (by omega) (by omega)]
    have hd1 : absN (w s) / 2 ^ pl % 2 ≤ 1 := by omega
    unfold m_Walk_learn_Eye_b119 m_Walk_learn_Eye_b121
    refine ok_bn3 (next_Eye hX hT.1 hb hd1) ?_
    rintro b a1 a2 (⟨g1, g2, g3, g4⟩ | ⟨g1, g2, g3, g4⟩)
    · dsimp only at g2 g3 g4
      subst g2
      rw [leaf_e g1]
      exact ok_if (fun c => absurd c (by decide)) (fun _ => ok_some ⟨⟨g4, Or.inr ⟨g3, rfl⟩⟩, hN⟩)
    · have hb1 : nb 2 F (absN (w s) / 2 ^ pl % 2) x.1.1 ≤ 1 := nb_le hd1
      dsimp only at g2 g3 g4
      rw [leaf_t g1]
      generalize nb 2 F (absN (w s) / 2 ^ pl % 2) x.1.1 = d at g2 g4 hb1 ⊢
      rcases (show d = 0 ∨ d = 1 by omega) with hn | hn
      · subst hn
        subst g2
        refine ok_if (fun c => absurd c (by decide)) (fun _ => ok_some ⟨⟨g4, Or.inl ⟨g3, rfl⟩⟩, fun j hj => ?_, hN.2.1, hN.2.2⟩)
        show known j = kv (updN x.2.2.1 s (x.2.2.1 s + 0 * 2 ^ pl)) x.2.2.2.1 j
        rw [hN.1 j hj]
        unfold kv
        by_cases r : j = s
        · rw [r, updN_s, Nat.zero_mul, Nat.add_zero]
        · rw [updN_n r]
      · subst hn
        subst g2
        have hks := hN.1 s hs
        have fin : ∀ v : Int32, v = kv (updN x.2.2.1 s (x.2.2.1 s + 1 * 2 ^ pl)) x.2.2.2.1 s → ∀ j, j < 256 → upd known (nI s).toNatClampNeg v j = kv (updN x.2.2.1 s (x.2.2.1 s + 1 * 2 ^ pl)) x.2.2.2.1 j := by
          intro v hv j hj
          rw [nI_clamp (by omega)]
          by_cases r : j = s
          · rw [r, pk_us, hv]
          · rw [pk_un r, hN.1 j hj]
            unfold kv
            rw [updN_n r]
        refine ok_if (fun _ => ?_) (fun c => absurd rfl c)
        refine ok_chk (vp_nI hs) (ok_chk (vp_nI hs) ?_)
        rw [nI_clamp (by omega), hks]
        rcases hz2 with z | ⟨z, z2⟩
        · have k0 : kv x.2.2.1 x.2.2.2.1 s = nI (x.2.2.1 s) := if_pos z
          rw [k0]
          refine ok_if (fun _ => ok_letB (ok_chk (vp_nI hs) (ok_some ⟨⟨g4, Or.inl ⟨g3, rfl⟩⟩, ?_, hN.2.1, hN.2.2⟩))) (fun c => absurd (nI_pos' (by omega)) c)
          have := fin (nI (x.2.2.1 s) + nI (2 ^ pl)) (by unfold kv; rw [if_pos z, updN_s, nI_add, Nat.one_mul])
          rw [nI_clamp (by omega)] at this
          exact this
        · have z0 : ¬ x.2.2.2.1 s = 0 := by rw [z]; decide
          have k0 : kv x.2.2.1 x.2.2.2.1 s = -(nI (x.2.2.1 s)) := if_neg z0
          rw [k0]
          refine ok_if (fun c => absurd c (neg_kv z2 (by omega))) (fun _ => ok_letB (ok_chk (vp_nI hs) (ok_some ⟨⟨g4, Or.inl ⟨g3, rfl⟩⟩, ?_, hN.2.1, hN.2.2⟩)))
          have := fin (-(nI (x.2.2.1 s)) + -(nI (2 ^ pl))) (by unfold kv; rw [if_neg z0, updN_s, Nat.one_mul, ← nI_add, Int32.neg_add, Int32.sub_eq_add_neg])
          rw [nI_clamp (by omega)] at this
          exact this
theorem cent_Eye {fu L pl B l p : Nat} {F : Nat → Nat} {x : (Nat × (Nat → Nat)) × Bool × (Nat → Nat) × (Nat → Int32) × (Nat → Int32) × (Nat → Int32)} {e q : Int32} {row : Nat → Int32} {ins w gt known left opn : Nat → Int32} {slf : Int32 → Int32 → Int32 → Int32 → (Nat → Int32) → (Nat → Int32) → (Nat → Int32) → (Nat → Int32) → (Nat → Int32) → Int32 → Int32 → Int32 → (Nat → Int32) → Option ((Nat → Int32) × (Nat → Int32) × (Nat → Int32) × Int32 × Int32)} (hX : CX_Eye L F row) (hpl : pl < 20) (hB : Bd B w) (hB2 : B < 2 ^ 29) (hG : ∀ l p, PS l p → gt (ck l p) = en (G ins w l p)) (hP : PS l p) (hI : IV L pl (4 ^ l * p) x) (hT : CT_Eye L x.1 x.2.1 e q) (hN : CN x known left opn) (hb : Bg_Eye x.1.1 (bc l))
    (hbod : ∀ (was : Bool) (x : (Nat × (Nat → Nat)) × Bool × (Nat → Nat) × (Nat → Int32) × (Nat → Int32) × (Nat → Int32)) (e q : Int32) (known left opn : Nat → Int32), IV L pl (4 ^ l * p) x → x.2.2.2.2.1 (sid l p) ≠ 0 → (was = false → l = 0 → x.2.2.1 (smp p) = 0) → x.2.1 = false → CT_Eye L x.1 x.2.1 e q → CN x known left opn → Bg_Eye x.1.1 (bc l - 1) → Ok (m_Walk_goThrough_Eye_b60 fu slf (nI l) (nI (mx p)) (nI (my p)) (nI (ck l p)) (if was = true then 1 else 0) (nI pl) gt known left opn w e (LM_Eye L) q row) (fun r => CT_Eye L (bod 2 F L pl ins w l p was x).1 (bod 2 F L pl ins w l p was x).2.1 r.2.2.2.1 r.2.2.2.2 ∧ CN (bod 2 F L pl ins w l p was x) r.1 r.2.1 r.2.2.1)) :
    Ok (m_Walk_goThrough_Eye_r fu slf (nI l) (nI (mx p)) (nI (my p)) (nI pl) gt known left opn w e (LM_Eye L) q row) (fun r => CT_Eye L (go 2 F L pl ins w l p x).1 (go 2 F L pl ins w l p x).2.1 r.2.2.2.1 r.2.2.2.2 ∧ CN (go 2 F L pl ins w l p x) r.1 r.2.1 r.2.2.1) := by
  have hck := ck_lt hP
  have hl := hP.1
  have hbc : 2 ≤ bc l := by
    cases l with
    | zero => exact Nat.le_refl _
    | succ l => have : bc (l + 1) = 1 + 4 * bc l := rfl; have : 1 ≤ bc l := by cases l with | zero => decide | succ l => have : bc (l + 1) = 1 + 4 * bc l := rfl; omega
                omega
  unfold m_Walk_goThrough_Eye_r m_Walk_goThrough_Eye_b14
  cases hen : x.2.1 with
  | true =>
    have e1 : e = 1 := by
      rcases hT.2 with r | r
      · rw [hen] at r; exact absurd r.2 (by decide)
      · exact r.1
    rw [go_en hen]
    refine ok_if (fun c => absurd c (by rw [e1]; decide)) (fun _ => ok_some ⟨hT, hN⟩)
  | false =>
    have e1 : e = 0 := by
      rcases hT.2 with r | r
      · exact r.1
      · rw [hen] at r; exact absurd r.2 (by decide)
    refine ok_if (fun _ => ?_) (fun c => absurd e1 c)
    refine ok_if (fun _ => ?_) (fun c => absurd (nI_pos' (by omega)) c)
    rw [bn1_eq (sqo_ok fu hl hP.lt)]
    refine ok_chk (vp_nI hck) ?_
    have hgl := G_le (ins := ins) hB hP
    rw [nI_clamp (by omega), hG l p hP, hN.op0 hP, go_ent]
    refine ok_if (fun c => ?_) (fun c => ?_)
    · rw [ent_g hen ((en_eq (by omega)).mp c)]
      exact ok_some ⟨hT, hN⟩
    · have hg : G ins w l p ≠ 0 := fun r => c ((en_eq (by omega)).mpr r)
      refine ok_chk (vp_nI hck) (ok_letB ?_)
      have hsid := (sid_ok hP).1
      refine ok_if (fun c2 => ?_) (fun c2 => ?_)
      · rw [c2]
        refine ok_bn5 (opens_Eye hX hP hpl (hG l p hP) (by omega) hT.1 (hb.mono (by omega))) ?_
        rintro r lf op a1 a2 (⟨g1, g2, g3, g4, g5, g6⟩ | ⟨g1, gb, g2, g3, g4, g5, g6⟩ | ⟨g1, gb, g2, g3, g4, g5, g6⟩)
        · dsimp only at g2 g3 g4 g5 g6
          rw [ent_e hen hg c2 g1]
          refine ok_if (fun _ => ok_some ⟨⟨g6, Or.inr ⟨g5, rfl⟩⟩, hN.1, ?_, ?_⟩) (fun c => absurd g2 c)
          · rw [g3]; exact hN.2.1
          · rw [g4]; exact op_same hP hN.2.2 c2
        · dsimp only at g2 g3 g4 g5 g6
          rw [ent_1 hen hg c2 g1 gb]
          refine ok_if (fun c => absurd c (by rw [g2]; decide)) (fun _ => ?_)
          refine hbod false _ _ _ _ _ _ (open_IV hP hI) ?_ (fun _ hl0 => ?_) rfl ⟨g6, Or.inl ⟨g5, rfl⟩⟩ ⟨hN.1, ?_, ?_⟩ ?_
          · show upd x.2.2.2.2.1 (sid l p) 1 (sid l p) ≠ 0
            rw [pk_us]; decide
          · subst hl0
            have s0 : sid 0 p = p := by unfold sid fsqN; rw [if_pos rfl, Nat.zero_add]
            rw [s0] at c2
            exact hI.2.2.2.2.2 p hP.lt c2
          · rw [g3]; exact hN.2.1
          · rw [g4]; exact op_set hP hN.2.2
          · have hwu : (wr L x.1 1).1 ≤ x.1.1 + 1 := wr_up
            exact hb.mono (by show (wr L x.1 1).1 + (bc l - 1) ≤ _; omega)
        · dsimp only at g2 g3 g4 g5 g6
          rw [ent_0 hen hg c2 g1 gb]
          refine ok_if (fun _ => ok_some ⟨⟨g6, Or.inl ⟨g5, rfl⟩⟩, hN.1, ?_, ?_⟩) (fun c => absurd g2 c)
          · rw [g3]; exact lf_set hN.2.1 hl
          · rw [g4]; exact op_same hP hN.2.2 c2
      · rw [ent_o hen hg c2]
        have c3 : x.2.2.2.2.1 (sid l p) = 1 := by
          rcases hI.2.2.2.2.1 _ hsid with r | r
          · exact absurd r c2
          · exact r
        rw [c3]
        exact hbod true x e q known left opn hI c2 (fun r => absurd r (by decide)) hen hT hN (hb.mono (by omega))
theorem cgo_Eye {fu L pl B : Nat} {F : Nat → Nat} {ins w gt : Nat → Int32} {row : Nat → Int32} (hfu : 600 < fu) (hX : CX_Eye L F row) (hpl : pl < 20) (hB : Bd B w) (hB2 : B < 2 ^ 29) (hG : ∀ l p, PS l p → gt (ck l p) = en (G ins w l p)) :
    ∀ (l p f : Nat) (x : (Nat × (Nat → Nat)) × Bool × (Nat → Nat) × (Nat → Int32) × (Nat → Int32) × (Nat → Int32)) (e q : Int32) (known left opn : Nat → Int32), PS l p → l < f → IV L pl (4 ^ l * p) x → CT_Eye L x.1 x.2.1 e q → CN x known left opn → Bg_Eye x.1.1 (bc l) →
    Ok (loop13 (m_Walk_goThrough_Eye_r fu) f (nI l) (nI (mx p)) (nI (my p)) (nI pl) gt known left opn w e (LM_Eye L) q row) (fun r => CT_Eye L (go 2 F L pl ins w l p x).1 (go 2 F L pl ins w l p x).2.1 r.2.2.2.1 r.2.2.2.2 ∧ CN (go 2 F L pl ins w l p x) r.1 r.2.1 r.2.2.1) := by
  intro l
  induction l with
  | zero =>
    intro p f x e q known left opn hP hf hI hT hN hb
    obtain ⟨f, rfl⟩ : ∃ f', f = f' + 1 := ⟨f - 1, by omega⟩
    have hu : loop13 (m_Walk_goThrough_Eye_r fu) (f + 1) = m_Walk_goThrough_Eye_r fu (loop13 (m_Walk_goThrough_Eye_r fu) f) := rfl
    rw [hu]
    refine cent_Eye hX hpl hB hB2 hG hP hI hT hN hb ?_
    intro was x e q known left opn hI ho hz hen hT hN hb
    unfold m_Walk_goThrough_Eye_b60
    have hp := hP.lt
    have hs := (smp_inv p hp).2
    refine ok_if (fun _ => ?_) (fun c => absurd rfl c)
    rw [ck_0 p hp]
    refine ok_bn3 (learn_Eye hX hs hpl hB hB2 hT hen hN (hb.mono (by show x.1.1 + 1 ≤ x.1.1 + (2 - 1); omega)) ?_ (hI.2.2.2.1 _ hs) (fun r => hz r rfl)) ?_
    · exact hI.2.2.1 _ hs
    · rintro kn a1 a2 ⟨g1, g2⟩
      exact ok_some ⟨g1, g2⟩
  | succ l ih =>
    intro p f x e q known left opn hP hf hI hT hN hb
    obtain ⟨f, rfl⟩ : ∃ f', f = f' + 1 := ⟨f - 1, by omega⟩
    have hu : loop13 (m_Walk_goThrough_Eye_r fu) (f + 1) = m_Walk_goThrough_Eye_r fu (loop13 (m_Walk_goThrough_Eye_r fu) f) := rfl
    rw [hu]
    refine cent_Eye hX hpl hB hB2 hG hP hI hT hN hb ?_
    clear hI hT hN hb
    intro was x e q known left opn hI ho hz hen hT hN hb
    have hl := hP.1
    have hp64 : p < 64 := by
      have h2 := hP.2
      have : 4 ^ (4 - (l + 1)) ≤ 4 ^ 3 := Nat.pow_le_pow_right (by decide) (by omega)
      omega
    have hbc : bc (l + 1) - 1 = bc l * 4 := by show 1 + 4 * bc l - 1 = _; omega
    rw [hbc] at hb
    have hbod : bod 2 F L pl ins w (l + 1) p was x = kd 2 F L pl ins w l p x 4 := rfl
    rw [hbod]
    unfold m_Walk_goThrough_Eye_b60
    refine ok_if (fun c => absurd c (nI_ne0 (by omega) (by omega))) (fun _ => ?_)
    refine ok_bn5 (Q := fun r => CT_Eye L (kd 2 F L pl ins w l p x 4).1 (kd 2 F L pl ins w l p x 4).2.1 r.2.2.2.1 r.2.2.2.2 ∧ CN (kd 2 F L pl ins w l p x 4) r.1 r.2.1 r.2.2.1) ?_ ?_
    · refine ok_loop6 (fun m x6 known left opn e q => ∃ j, x6 = nI j ∧ j ≤ 4 ∧ m = 4 - j ∧ CT_Eye L (kd 2 F L pl ins w l p x j).1 (kd 2 F L pl ins w l p x j).2.1 e q ∧ CN (kd 2 F L pl ins w l p x j) known left opn ∧ Bg_Eye (kd 2 F L pl ins w l p x j).1.1 (bc l * (4 - j))) ?_ fu 4 0 known left opn e q (by omega) ⟨0, rfl, by omega, rfl, hT, hN, hb⟩
      clear hT hN hb
      rintro rec m _ known left opn e q ⟨j, rfl, h1, rfl, hT, hN, hb⟩ ih2
      unfold m_Walk_goThrough_Eye_k76
      refine ok_if (fun c => ?_) (fun c => ?_)
      · have := (nI_leI (a := 4) (by decide) (by omega)).mp c
        have ej : j = 4 := by omega
        subst ej
        exact ok_some ⟨hT, hN⟩
      · have c1 : j < 4 := by
          rcases Nat.lt_or_ge j 4 with r | r
          · exact r
          · exact absurd (nI_le (a := 4) r (by omega)) c
        have hk := kid p hp64 j c1
        have e1 : nI (mx p) * 2 + (nI j &&& 1) = nI (mx (4 * p + j)) := by rw [pk_andN (by omega) 1 (by decide), l2, pk_mul, nI_add, hk.1]
        have e2 : nI (my p) * 2 + (nI j >>> ((1 : Int32) &&& 31)) = nI (my (4 * p + j)) := by rw [pk_shrN (by omega) _ 1 (by decide), l2, pk_mul, nI_add, hk.2]
        rw [nI_pred, e1, e2]
        have hup := go_up (md := 2) (F := F) (L := L) (pl := pl) (l := l) (p := 4 * p + j) (ins := ins) (w := w) (x := kd 2 F L pl ins w l p x j)
        have hm4 : bc l * (4 - j) = bc l * (4 - (j + 1)) + bc l := by rw [show 4 - j = 4 - (j + 1) + 1 by omega, Nat.mul_succ]
        rw [hm4] at hb
        refine ok_bn5 (ih (4 * p + j) f _ e q known left opn (hP.kid c1) (by omega) (kd_IV hP hI (by omega)) hT hN (hb.mono (by omega))) ?_
        rintro kn lf op a1 a2 ⟨g1, g2⟩
        refine ok_letB ?_
        rw [nI_1]
        exact ih2 (4 - (j + 1)) _ _ _ _ _ _ (by omega) ⟨j + 1, rfl, c1, rfl, g1, g2, hb.mono (by show (go 2 F L pl ins w l (4 * p + j) (kd 2 F L pl ins w l p x j)).1.1 + _ ≤ _; omega)⟩
    · rintro kn lf op a1 a2 ⟨g1, g2⟩
      exact ok_some ⟨g1, g2⟩
theorem cplane_Eye {fu L pl B : Nat} {F : Nat → Nat} {planes : Int32} {ins w gt known left opn : Nat → Int32} {x : (Nat × (Nat → Nat)) × Bool × (Nat → Nat) × (Nat → Int32) × (Nat → Int32) × (Nat → Int32)} {e q : Int32} {row : Nat → Int32} (hfu : 600 < fu) (hX : CX_Eye L F row) (hpl : pl < 20) (hB : Bd B w) (hB2 : B < 2 ^ 29) (hG : ∀ l p, PS l p → gt (ck l p) = en (G ins w l p)) (hI : IV L pl 0 x) (hT : CT_Eye L x.1 x.2.1 e q) (hN : CN x known left opn) (hb : Bg_Eye x.1.1 596) :
    Ok (loop6 (m_Walk_go_Eye_k30 fu (nI pl) gt planes ins w (LM_Eye L) row) fu 0 known left opn e q) (fun r => CT_Eye L (gop 2 F L pl ins w x).1 (gop 2 F L pl ins w x).2.1 r.2.2.2.1 r.2.2.2.2 ∧ CN (gop 2 F L pl ins w x) r.1 r.2.1 r.2.2.1) := by
  have hgop : gop 2 F L pl ins w x = kq 2 F L pl ins w x 4 := rfl
  rw [hgop]
  refine ok_loop6 (fun m x6 known left opn e q => ∃ j, x6 = nI j ∧ j ≤ 4 ∧ m = 4 - j ∧ CT_Eye L (kq 2 F L pl ins w x j).1 (kq 2 F L pl ins w x j).2.1 e q ∧ CN (kq 2 F L pl ins w x j) known left opn ∧ Bg_Eye (kq 2 F L pl ins w x j).1.1 (149 * (4 - j))) ?_ fu 4 0 known left opn e q (by omega) ⟨0, rfl, by omega, rfl, hT, hN, hb⟩
  clear hT hN hb
  rintro rec m _ known left opn e q ⟨j, rfl, h1, rfl, hT, hN, hb⟩ ih2
  unfold m_Walk_go_Eye_k30 m_Walk_goThrough_Eye
  refine ok_if (fun c => ?_) (fun c => ?_)
  · have := (nI_leI (a := 4) (by decide) (by omega)).mp c
    have ej : j = 4 := by omega
    subst ej
    exact ok_some ⟨hT, hN⟩
  · have c1 : j < 4 := by
      rcases Nat.lt_or_ge j 4 with r | r
      · exact r
      · exact absurd (nI_le (a := 4) r (by omega)) c
    have hk := mq j c1
    have e1 : (nI j &&& 1) = nI (mx j) := by rw [pk_andN (by omega) 1 (by decide), hk.1]
    have e2 : (nI j >>> ((1 : Int32) &&& 31)) = nI (my j) := by rw [pk_shrN (by omega) _ 1 (by decide), hk.2]
    rw [e1, e2]
    have hup := go_up (md := 2) (F := F) (L := L) (pl := pl) (l := 3) (p := j) (ins := ins) (w := w) (x := kq 2 F L pl ins w x j)
    have hb3 : bc 3 = 149 := rfl
    refine ok_bn5 (cgo_Eye (F := F) hfu hX hpl hB hB2 hG 3 j 5 _ e q known left opn (ps3 c1) (by decide) (kq_IV hI (by omega)) hT hN (hb.mono (by omega))) ?_
    rintro kn lf op a1 a2 ⟨g1, g2⟩
    refine ok_letB ?_
    rw [nI_1]
    exact ih2 (4 - (j + 1)) _ _ _ _ _ _ (by omega) ⟨j + 1, rfl, c1, rfl, g1, g2, hb.mono (by show (go 2 F L pl ins w 3 j (kq 2 F L pl ins w x j)).1.1 + _ ≤ _; omega)⟩
theorem cwalk_Eye {fu L k B : Nat} {F : Nat → Nat} {plane : Int32} {ins w gt known left opn : Nat → Int32} {t : Nat × (Nat → Nat)} {b0 : Bool} {e q : Int32} {row : Nat → Int32} (hfu : 600 < fu) (hX : CX_Eye L F row) (hk : k ≤ 20) (hB : Bd B w) (hB2 : B < 2 ^ 29) (hTS : TS L t) (hT : CT_Eye L t b0 e q) (hb : Bg_Eye t.1 (596 * k)) :
    Ok (m_Walk_go_Eye fu plane gt known left opn (nI k) ins w e (LM_Eye L) q row) (fun r => CT_Eye L (gos 2 F L ins w k (t, b0, fun _ => 0, fun _ => 0, fun _ => 0, fun _ => 0)).1 (gos 2 F L ins w k (t, b0, fun _ => 0, fun _ => 0, fun _ => 0, fun _ => 0)).2.1 r.2.2.2.2.2.1 r.2.2.2.2.2.2 ∧ CN (gos 2 F L ins w k (t, b0, fun _ => 0, fun _ => 0, fun _ => 0, fun _ => 0)) r.2.2.1 r.2.2.2.1 r.2.2.2.2.1) := by
  unfold m_Walk_go_Eye
  refine ok_bn3 (forget_ok hfu) ?_
  rintro kn lf op ⟨f1, f2, f3⟩
  refine ok_bn1 (measure_ok hfu hB hB2) ?_
  rintro gt hG
  refine ok_letB ?_
  generalize hx0 : ((t, b0, fun _ => 0, fun _ => 0, fun _ => 0, fun _ => 0) : (Nat × (Nat → Nat)) × Bool × (Nat → Nat) × (Nat → Int32) × (Nat → Int32) × (Nat → Int32)) = x0
  have hN0 : CN x0 kn lf op := by
    rw [← hx0]
    refine ⟨fun j hj => ?_, f2, fun s hs => f3 _ (cks_inv s hs).2⟩
    exact (f1 j hj).trans rfl
  have hI0 : k = 0 ∨ IV L (k - 1) 0 x0 := by
    rcases Nat.eq_zero_or_pos k with r | r
    · exact Or.inl r
    · have h1 : 2 ^ (k - 1 + 1) ≤ 2 ^ 20 := Nat.pow_le_pow_right (by decide) (by omega)
      have h2 : 2 ^ (k - 1) ≤ 2 ^ 20 := Nat.pow_le_pow_right (by decide) (by omega)
      rw [← hx0]
      exact Or.inr ⟨hTS, fun _ _ _ => by show 0 + 2 ^ (k - 1 + 1) ≤ _; omega, fun _ _ => by show 0 + 2 ^ (k - 1) ≤ _; omega, fun _ _ => Or.inl rfl, fun _ _ => Or.inl rfl, fun _ _ _ => rfl⟩
  have hT0 : CT_Eye L x0.1 x0.2.1 e q := by rw [← hx0]; exact hT
  have hb0 : Bg_Eye x0.1.1 (596 * k) := by rw [← hx0]; exact hb
  clear hT hb f1 f2 f3 hTS hx0
  generalize hX0 : gos 2 F L ins w k x0 = Y
  refine ok_bn6 (Q := fun r => CT_Eye L Y.1 Y.2.1 r.2.2.2.2.1 r.2.2.2.2.2 ∧ CN Y r.2.1 r.2.2.1 r.2.2.2.1) ?_ ?_
  · refine ok_loop6 (fun m pl known left opn e q => ∃ k' y, pl = nI k' - 1 ∧ k' ≤ 20 ∧ m = k' ∧ (k' = 0 ∨ IV L (k' - 1) 0 y) ∧ CT_Eye L y.1 y.2.1 e q ∧ CN y known left opn ∧ Bg_Eye y.1.1 (596 * k') ∧ gos 2 F L ins w k' y = Y) ?_ fu k (nI k - 1) kn lf op e q (by omega) ⟨k, x0, rfl, hk, rfl, hI0, hT0, hN0, hb0, hX0⟩
    clear hT0 hN0 hb0 hX0 hI0
    rintro rec m _ known left opn e q ⟨k', y, rfl, hk', rfl, hI, hT, hN, hb, hY⟩ ih
    unfold m_Walk_go_Eye_k21
    cases m with
    | zero =>
      refine ok_if (fun _ => ?_) (fun c => absurd (by decide) c)
      have hY2 : y = Y := hY
      rw [← hY2]
      exact ok_some ⟨hT, hN⟩
    | succ m =>
      rw [nI_pred]
      refine ok_if (fun c => absurd c (nI_pos (by omega))) (fun _ => ?_)
      have hI2 : IV L m 0 y := by
        rcases hI with r | r
        · omega
        · exact r
      have hgI := gop_IV (md := 2) (F := F) (ins := ins) (w := w) hI2
      have hup := gop_up (md := 2) (F := F) (L := L) (pl := m) (ins := ins) (w := w) (x := y)
      refine ok_bn5 (cplane_Eye (F := F) hfu hX (by omega) hB hB2 hG hI2 hT hN (hb.mono (by omega))) ?_
      rintro kn lf op a1 a2 ⟨g1, g2⟩
      refine ok_letB (ih m _ _ _ _ _ _ (by omega) ⟨m, gop 2 F L m ins w y, rfl, by omega, rfl, ?_, g1, g2, hb.mono (by omega), hY⟩)
      rcases Nat.eq_zero_or_pos m with r | r
      · exact Or.inl r
      · obtain ⟨m', rfl⟩ : ∃ m', m = m' + 1 := ⟨m - 1, by omega⟩
        exact Or.inr hgI.next
  · rintro pl kn lf op a1 a2 ⟨g1, g2⟩
    exact ok_some ⟨g1, g2⟩
