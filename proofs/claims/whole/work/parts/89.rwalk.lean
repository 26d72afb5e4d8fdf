/-! THE WALK: the reference -/
theorem ok_sm3 {α1 α2 α3 ρ : Type} {o : Option (α1 ⊕ α2 ⊕ α3)} {k1 : α1 → Option ρ} {k2 : α2 → Option ρ} {k3 : α3 → Option ρ} {P : ρ → Prop} {Q1 : α1 → Prop} {Q2 : α2 → Prop} {Q3 : α3 → Prop} (h : Ok o (Sum.elim Q1 (Sum.elim Q2 Q3))) (h1 : ∀ u, Q1 u → Ok (k1 u) P) (h2 : ∀ u, Q2 u → Ok (k2 u) P) (h3 : ∀ u, Q3 u → Ok (k3 u) P) : Ok (sm3 o k1 k2 k3) P := by
  obtain ⟨u, e, hq⟩ := h
  unfold sm3
  rw [bn1_eq e]
  rcases u with u | u | u
  · exact h1 u hq
  · exact h2 u hq
  · exact h3 u hq
def RR (md : Int32) (st0 z0 : Nat → Int32) (x : (Nat × (Nat → Nat)) × Bool × (Nat → Nat) × (Nat → Int32) × (Nat → Int32) × (Nat → Int32)) (count : Int32) (below opn sizes stream zeros : Nat → Int32) : Prop :=
  RT md st0 x.1 count stream ∧ (∀ j, j < 256 → below j = x.2.2.2.1 j) ∧ (∀ s, s < 340 → opn (rks s) = x.2.2.2.2.1 s) ∧ (∀ j, j < 256 → sizes j = nI (x.2.2.1 j)) ∧ (md = 0 → ∀ l, l < 4 → zeros l = x.2.2.2.2.2 l) ∧ (md ≠ 0 → ∀ l, l < 4 → zeros l = z0 l)
def MD (md : Int32) (L : Nat) (F : Nat → Nat) (fed : Nat → Int32) : Prop := L ≤ 60000 ∧ (md = 0 ∨ md = 1 ∨ (md = 2 ∧ L ≤ 19200 ∧ FD F fed))
theorem gbit {fu L d : Nat} {t : Nat × (Nat → Nat)} {md count : Int32} {F : Nat → Nat} {fed stream st0 : Nat → Int32} (hR : RT md st0 t count stream) (hT : TS L t) (hM : MD md L F fed) (hd : d ≤ 1) :
    Ok (m_Md_bit fu (nI d) count (nI L) md fed stream) (fun r => (t.1 = L ∧ r.1 = -1 ∧ RT md st0 t r.2.1 r.2.2) ∨ (t.1 ≠ L ∧ r.1 = nI (nb md F d t.1) ∧ RT md st0 (wr L t (nb md F d t.1)) r.2.1 r.2.2)) := by
  have hc := hT.2
  by_cases e : t.1 = L
  · exact ok_of (bit_end (by rw [hR.1, e])) (Or.inl ⟨e, rfl, hR⟩)
  · exact ok_mono (bit_ok (F := F) hR hT.1 (show t.1 < L by omega) hM.1 hd hM.2) (fun r g => Or.inr ⟨e, g.1, g.2⟩)
theorem shlb : ∀ k, k < 31 → nI 0 <<< (nI k &&& 31) = nI (0 * 2 ^ k) ∧ nI 1 <<< (nI k &&& 31) = nI (1 * 2 ^ k) := by decide +kernel
theorem bsame {f g : Nat → Int32} {s : Nat} {v : Int32} (h : ∀ j, j < 256 → f j = g j) : ∀ j, j < 256 → upd f s v j = upd g s v j := by
  intro j hj
  by_cases e : j = s
  · rw [e, pk_us, pk_us]
  · rw [pk_un e, pk_un e]; exact h j hj
theorem zsame {f : Nat → Int32} {g : Nat → Nat} {s v : Nat} (h : ∀ j, j < 256 → f j = nI (g j)) : ∀ j, j < 256 → upd f s (nI v) j = nI (updN g s v j) := by
  intro j hj
  by_cases e : j = s
  · rw [e, pk_us, updN_s]
  · rw [pk_un e, updN_n e]; exact h j hj
theorem rleaf {fu L s pl B : Nat} {F : Nat → Nat} {was : Bool} {x : (Nat × (Nat → Nat)) × Bool × (Nat → Nat) × (Nat → Int32) × (Nat → Int32) × (Nat → Int32)} {md count : Int32} {fed below opn sizes stream zeros st0 z0 w : Nat → Int32} (hM : MD md L F fed) (hs : s < 256) (hpl : pl < 20) (hB : Bd B w) (hB2 : B < 2 ^ 29) (hT : TS L x.1) (he : x.2.1 = false) (hR : RR md st0 z0 x count below opn sizes stream zeros) :
    Ok (m_Md_goSample fu (nI s) (nI pl) (if was = true then 1 else 0) count (nI L) md below fed sizes stream w) (fun r => r.1 = (if (leaf md F L pl w s was x).2.1 = true then 0 else 1) ∧ RR md st0 z0 (leaf md F L pl w s was x) r.2.1 r.2.2.1 opn r.2.2.2.1 r.2.2.2.2 zeros) := by
  obtain ⟨h1, h2, h3, h4, h5, h6⟩ := hR
  unfold m_Md_goSample m_Md_goSample_b34
  rw [nI_clamp (by omega)]
  cases was with
  | false =>
    refine ok_if (fun _ => ok_chk (vp_nI hs) ?_) (fun c => absurd rfl c)
    have key : ∀ d : Nat, d = (if w s < 0 then 1 else 0) → Ok (bn3 (m_Md_bit fu (nI d) count (nI L) md fed stream) (fun r_4 s_count_5 s_stream_6 => m_Md_goSample_b37 fu (nI s) (nI pl) (if false = true then 1 else 0) r_4 s_count_5 (nI L) md below fed sizes s_stream_6 w)) (fun r => r.1 = (if (leaf md F L pl w s false x).2.1 = true then 0 else 1) ∧ RR md st0 z0 (leaf md F L pl w s false x) r.2.1 r.2.2.1 opn r.2.2.2.1 r.2.2.2.2 zeros) := by
      intro d hd
      have hd1 : d ≤ 1 := by rw [hd]; exact due1
      refine ok_bn3 (gbit (F := F) h1 hT hM hd1) ?_
      unfold m_Md_goSample_b37 m_Md_goSample_b93 m_Md_goSample_b94
      rintro b c st (⟨g1, g2, g3⟩ | ⟨g1, g2, g3⟩)
      · rw [leaf_e g1]
        exact ok_if (fun _ => ok_some ⟨rfl, g3, h2, h3, h4, h5, h6⟩) (fun c => absurd g2 c)
      · dsimp only at g2 g3
        rw [leaf_f g1, ← hd]
        have hb1 : nb md F d x.1.1 ≤ 1 := nb_le hd1
        generalize nb md F d x.1.1 = v at g2 g3 hb1 ⊢
        subst g2
        refine ok_if (fun c => absurd c (nI_nm1 (by omega))) (fun _ => ok_if (fun _ => ?_) (fun c => absurd rfl c))
        rw [shlp pl (by omega), nI_clamp (by omega)]
        refine ok_letB (ok_chk (vp_nI hs) ?_)
        rcases (show v = 0 ∨ v = 1 by omega) with hv | hv <;> subst hv
        · refine ok_if (fun c => absurd c (by decide)) (fun _ => ok_chk (vp_nI hs) (ok_some ⟨rfl, g3, bsame h2, h3, zsame h4, h5, h6⟩))
        · refine ok_if (fun _ => ok_chk (vp_nI hs) (ok_some ⟨rfl, g3, bsame h2, h3, zsame h4, h5, h6⟩)) (fun c => absurd rfl c)
    refine ok_if (fun c => ?_) (fun c => ?_)
    · exact key 0 (if_neg (le0.mp c)).symm
    · refine key 1 (if_pos ?_).symm
      exact Decidable.of_not_not (fun r => c (le0.mpr r))
  | true =>
    refine ok_if (fun c => absurd c (by decide)) (fun _ => ok_chk (vp_nI hs) ?_)
    have hab := abs_le (hB s hs)
    rw [bn1_eq (size_ok (hB s hs) (by omega)), bit_of (by omega) (by omega)]
    have hd1 : absN (w s) / 2 ^ pl % 2 ≤ 1 := by omega
    refine ok_bn3 (gbit (F := F) h1 hT hM hd1) ?_
    unfold m_Md_goSample_b37 m_Md_goSample_b94
    rintro b c st (⟨g1, g2, g3⟩ | ⟨g1, g2, g3⟩)
    · rw [leaf_e g1]
      exact ok_if (fun _ => ok_some ⟨rfl, g3, h2, h3, h4, h5, h6⟩) (fun c => absurd g2 c)
    · dsimp only at g2 g3
      rw [leaf_t g1]
      have hb1 : nb md F (absN (w s) / 2 ^ pl % 2) x.1.1 ≤ 1 := nb_le hd1
      generalize nb md F (absN (w s) / 2 ^ pl % 2) x.1.1 = v at g2 g3 hb1 ⊢
      subst g2
      refine ok_if (fun c => absurd c (nI_nm1 (by omega))) (fun _ => ok_if (fun c => absurd c (by decide)) (fun _ => ?_))
      have hsh : nI v <<< (nI pl &&& 31) = nI (v * 2 ^ pl) := by
        rcases (show v = 0 ∨ v = 1 by omega) with hv | hv <;> subst hv
        · exact (shlb pl (by omega)).1
        · exact (shlb pl (by omega)).2
      rw [hsh, nI_clamp (by omega), h4 s hs, nI_add]
      exact ok_chk (vp_nI hs) (ok_letB (ok_chk (vp_nI hs) (ok_some ⟨rfl, g3, h2, h3, zsame h4, h5, h6⟩)))
theorem rop_same {opn op : Nat → Int32} {l p : Nat} {v : Int32} (hP : PS l p) (h : ∀ s, s < 340 → opn (rks s) = op s) (h0 : op (sid l p) = v) : ∀ s, s < 340 → upd opn (256 * l + 4 ^ l * p) v (rks s) = op s := by
  intro s hs
  have a := sid_ok hP
  rw [← a.2.2.2]
  by_cases e : rks s = rks (sid l p)
  · have e2 := rks_inj hs a.1 e
    rw [e2, pk_us, h0]
  · rw [pk_un e]; exact h s hs
theorem rop_set {opn op : Nat → Int32} {l p : Nat} {v : Int32} (hP : PS l p) (h : ∀ s, s < 340 → opn (rks s) = op s) : ∀ s, s < 340 → upd opn (256 * l + 4 ^ l * p) v (rks s) = upd op (sid l p) v s := by
  intro s hs
  have a := sid_ok hP
  rw [← a.2.2.2]
  by_cases e : rks s = rks (sid l p)
  · have e2 := rks_inj hs a.1 e
    rw [e2, pk_us, pk_us]
  · have e2 : s ≠ sid l p := fun q => e (by rw [q])
    rw [pk_un e, pk_un e2]; exact h s hs
theorem zr_set {f g : Nat → Int32} {l : Nat} {v : Int32} (h : ∀ k, k < 4 → f k = g k) (hl : l < 4) : ∀ k, k < 4 → upd f l (f l + v) k = upd g l (g l + v) k := by
  intro k hk
  by_cases e : k = l
  · rw [e, pk_us, pk_us, h l hl]
  · rw [pk_un e, pk_un e]; exact h k hk
theorem zr_keep {f g : Nat → Int32} {l : Nat} (h : ∀ k, k < 4 → f k = g k) : ∀ k, k < 4 → upd f l (f l + 0) k = g k := by
  intro k hk
  by_cases e : k = l
  · rw [e, pk_us, Int32.add_zero, ← e]; exact h k hk
  · rw [pk_un e]; exact h k hk
theorem rent {fu L pl B l p q z : Nat} {F : Nat → Nat} {x : (Nat × (Nat → Nat)) × Bool × (Nat → Nat) × (Nat → Int32) × (Nat → Int32) × (Nat → Int32)} {md count : Int32} {fed below opn sizes stream zeros st0 z0 ins w : Nat → Int32} {P : (Int32 × (Nat → Int32) × (Nat → Int32) × (Nat → Int32) × (Nat → Int32) × (Nat → Int32)) ⊕ (Int32 × (Nat → Int32) × (Nat → Int32) × (Nat → Int32) × (Nat → Int32) × (Nat → Int32)) ⊕ (Int32 × (Nat → Int32) × (Nat → Int32) × (Nat → Int32) × (Nat → Int32) × (Nat → Int32)) → Prop} {rec : Int32 → Int32 → Int32 → (Nat → Int32) → (Nat → Int32) → (Nat → Int32) → (Nat → Int32) → (Nat → Int32) → Option ((Int32 × (Nat → Int32) × (Nat → Int32) × (Nat → Int32) × (Nat → Int32) × (Nat → Int32)) ⊕ (Int32 × (Nat → Int32) × (Nat → Int32) × (Nat → Int32) × (Nat → Int32) × (Nat → Int32)) ⊕ (Int32 × (Nat → Int32) × (Nat → Int32) × (Nat → Int32) × (Nat → Int32) × (Nat → Int32)))} (hfu : 600 < fu) (hM : MD md L F fed) (hpl : pl < 20) (hB : Bd B w) (hB2 : B < 2 ^ 29) (hP : PS l p) (hq : q < 4) (hz : 64 * q + z = 4 ^ l * p) (hz2 : z + 4 ^ l ≤ 64) (he : x.2.1 = false) (hI : IV L pl (4 ^ l * p) x) (hR : RR md st0 z0 x count below opn sizes stream zeros)
    (hE : (go md F L pl ins w l p x).2.1 = true → ∀ c b o s st zs, RR md st0 z0 (go md F L pl ins w l p x) c b o s st zs → P (Sum.inl (c, b, o, s, st, zs)))
    (hS : (go md F L pl ins w l p x).2.1 = false → ∀ c b o s st zs, RR md st0 z0 (go md F L pl ins w l p x) c b o s st zs → Ok (rec (nI (z + 4 ^ l)) (nI (lvz (z + 4 ^ l))) c b o s st zs) P)
    (hbod : ∀ (was : Bool) (y : (Nat × (Nat → Nat)) × Bool × (Nat → Nat) × (Nat → Int32) × (Nat → Int32) × (Nat → Int32)) c b o s st zs, IV L pl (4 ^ l * p) y → y.2.1 = false → RR md st0 z0 y c b o s st zs → go md F L pl ins w l p x = bod md F L pl ins w l p was y → Ok (m_Md_goSquare_b149 fu rec (nI q) (nI pl) (nI z) (nI l) 1 (if was = true then 1 else 0) c (nI L) md b fed o s st zs ins w) P) :
    Ok (m_Md_goSquare_k6 fu (nI q) (nI pl) (nI L) md fed ins w rec (nI z) (nI l) count below opn sizes stream zeros) P := by
  have hl := hP.1
  have h4 : 0 < 4 ^ l := Nat.pow_pos (by decide)
  have h44 : 4 ^ l ≤ 4 ^ 3 := Nat.pow_le_pow_right (by decide) (by omega)
  have hsid := sid_ok hP
  have hrk := (rks_inv _ hsid.1).2
  rw [hsid.2.2.2] at hrk
  have hgl := G_le (ins := ins) hB hP
  -- nothing more in this square
  have skip : ∀ x10 c b o s st zs, (go md F L pl ins w l p x).2.1 = false → RR md st0 z0 (go md F L pl ins w l p x) c b o s st zs → Ok (m_Md_goSquare_b149 fu rec (nI q) (nI pl) (nI z) (nI l) 0 x10 c (nI L) md b fed o s st zs ins w) P := by
    intro x10 c b o s st zs h1 h2
    unfold m_Md_goSquare_b149 m_Md_goSquare_b165 m_Md_goSquare_b190
    refine ok_if (fun _ => ok_if (fun _ => ok_letB ?_) (fun c => absurd rfl c)) (fun c => absurd rfl c)
    rw [shl2l l hl, nI_add, bn1_eq (mlv_ok fu (by omega))]
    exact hS h1 c b o s st zs h2
  unfold m_Md_goSquare_k6
  refine ok_if (fun c => absurd c (nI_ge (b := 64) (by omega) (by decide))) (fun _ => ?_)
  refine ok_bn1 (greatest_ok hfu hB hB2 hl hq hz2 hz) ?_
  rintro _ rfl
  refine ok_letB ?_
  have hkey : (((256 : Int32) * nI l) + ((64 : Int32) * nI q)) + nI z = nI (256 * l + 4 ^ l * p) := by
    rw [show (256 : Int32) = nI 256 from rfl, show (64 : Int32) = nI 64 from rfl, pk_mul, pk_mul, nI_add, nI_add, ← hz, Nat.add_assoc]
  rw [hkey]
  have hop : opn (256 * l + 4 ^ l * p) = x.2.2.2.2.1 (sid l p) := by rw [← hsid.2.2.2]; exact hR.2.2.1 _ hsid.1
  unfold m_Md_goSquare_b52
  rw [nI_clamp (by omega), hop]
  refine ok_if (fun c => ?_) (fun c => ?_)
  · have hg := (en_eq (by omega)).mp c
    have hgo : go md F L pl ins w l p x = x := by rw [go_ent]; exact ent_g he hg
    refine ok_chk (vp_nI hrk) (ok_letB (ok_if (fun _ => ?_) (fun c => absurd rfl c)))
    exact skip _ _ _ _ _ _ _ (by rw [hgo]; exact he) (by rw [hgo]; exact hR)
  · have hg : G ins w l p ≠ 0 := fun r => c ((en_eq (by omega)).mpr r)
    refine ok_chk (vp_nI hrk) (ok_letB (ok_if (fun c => absurd c (by decide)) (fun _ => ?_)))
    refine ok_if (fun c2 => ?_) (fun c2 => ?_)
    · rw [c2]
      -- one bit for the square
      have key : ∀ d : Nat, d = (if 2 ^ pl < G ins w l p then 1 else 0) → Ok (m_Md_goSquare_b87 fu rec (nI q) (nI pl) (nI z) (nI l) (nI (256 * l + 4 ^ l * p)) 0 (nI d) count (nI L) md below fed opn sizes stream zeros ins w) P := by
        intro d hd
        have hd1 : d ≤ 1 := by rw [hd]; exact due1
        unfold m_Md_goSquare_b87 m_Md_goSquare_b124 m_Md_goSquare_b125 m_Md_goSquare_b138
        refine ok_bn3 (gbit (F := F) hR.1 hI.1 hM hd1) ?_
        rintro b c st (⟨g1, g2, g3⟩ | ⟨g1, g2, g3⟩)
        · dsimp only at g2 g3
          have hgo : go md F L pl ins w l p x = (x.1, true, x.2.2) := by rw [go_ent]; exact ent_e he hg c2 g1
          refine ok_if (fun _ => ok_some ?_) (fun c => absurd g2 c)
          exact hE (by rw [hgo]) _ _ _ _ _ _ (by rw [hgo]; exact ⟨g3, hR.2⟩)
        · dsimp only at g2 g3
          have hb1 : nb md F d x.1.1 ≤ 1 := nb_le hd1
          have hgo1 : nb md F d x.1.1 = 1 → go md F L pl ins w l p x = bod md F L pl ins w l p false (wr L x.1 1, false, x.2.2.1, x.2.2.2.1, upd x.2.2.2.2.1 (sid l p) 1, x.2.2.2.2.2) := by
            intro r; rw [go_ent]; rw [hd] at r; exact ent_1 he hg c2 g1 r
          have hgo0 : nb md F d x.1.1 ≠ 1 → go md F L pl ins w l p x = (wr L x.1 0, false, x.2.2.1, x.2.2.2.1, x.2.2.2.2.1, upd x.2.2.2.2.2 l (x.2.2.2.2.2 l + 1)) := by
            intro r; rw [go_ent]; rw [hd] at r; exact ent_0 he hg c2 g1 r
          have b0 : (0 : Int32) = (if false = true then 1 else 0) := rfl
          rw [nI_clamp (by omega), nI_clamp (by omega)]
          rcases (show nb md F d x.1.1 = 0 ∨ nb md F d x.1.1 = 1 by omega) with hn | hn
          · have hgo := hgo0 (by omega)
            rw [hn] at g2 g3
            have gb : b = 0 := g2
            subst gb
            have hen : (go md F L pl ins w l p x).2.1 = false := by rw [hgo]
            refine ok_if (fun c => absurd c (by decide)) (fun _ => ok_chk (vp_nI hl) ?_)
            refine ok_if (fun m0 => ok_if (fun _ => ok_letB (ok_chk (vp_nI hl) (ok_if (fun c => absurd c (by decide)) (fun _ => ok_chk (vp_nI hrk) ?_)))) (fun c => absurd rfl c)) (fun m0 => ok_letB (ok_chk (vp_nI hl) (ok_if (fun c => absurd c (by decide)) (fun _ => ok_chk (vp_nI hrk) ?_))))
            · refine skip _ _ _ _ _ _ _ hen ?_
              rw [hgo, nar_b0]
              exact ⟨g3, hR.2.1, rop_same hP hR.2.2.1 c2, hR.2.2.2.1, fun _ => zr_set (hR.2.2.2.2.1 m0) hl, fun r => absurd m0 r⟩
            · refine skip _ _ _ _ _ _ _ hen ?_
              rw [hgo, nar_b0]
              exact ⟨g3, hR.2.1, rop_same hP hR.2.2.1 c2, hR.2.2.2.1, fun r => absurd r m0, fun _ => zr_keep (hR.2.2.2.2.2 m0)⟩
          · have hgo := hgo1 hn
            rw [hn] at g2 g3
            have gb : b = 1 := g2
            subst gb
            have nar1 : vp_nar .boolean (1 : Int32) = 1 := nar_b (Or.inr rfl)
            refine ok_if (fun c => absurd c (by decide)) (fun _ => ok_chk (vp_nI hl) ?_)
            have opI := open_IV (l := l) (p := p) hP hI
            refine ok_if (fun m0 => ok_if (fun c => absurd c (by decide)) (fun _ => ok_letB (ok_chk (vp_nI hl) (ok_if (fun _ => ok_chk (vp_nI hrk) ?_) (fun c => absurd rfl c))))) (fun m0 => ok_letB (ok_chk (vp_nI hl) (ok_if (fun _ => ok_chk (vp_nI hrk) ?_) (fun c => absurd rfl c))))
            · rw [nar1]
              exact hbod false _ _ _ _ _ _ _ opI rfl ⟨g3, hR.2.1, rop_set hP hR.2.2.1, hR.2.2.2.1, fun _ => zr_keep (hR.2.2.2.2.1 m0), fun r => absurd m0 r⟩ hgo
            · rw [nar1]
              exact hbod false _ _ _ _ _ _ _ opI rfl ⟨g3, hR.2.1, rop_set hP hR.2.2.1, hR.2.2.2.1, fun r => absurd r m0, fun _ => zr_keep (hR.2.2.2.2.2 m0)⟩ hgo
      obtain ⟨g', hg'⟩ : ∃ g', G ins w l p = g' + 1 := ⟨G ins w l p - 1, by omega⟩
      have hdl : g' / 2 ^ pl ≤ g' := Nat.div_le_self _ _
      rw [hg'] at key ⊢
      rw [en_succ, shr_nI (by omega) (by omega)]
      refine ok_if (fun c3 => ?_) (fun c3 => ?_)
      · have h0 : g' / 2 ^ pl ≤ 0 := (nI_leI (b := 0) (by omega) (by decide)).mp c3
        have h1 := pow_div0.mp (Nat.eq_zero_of_le_zero h0)
        exact key 0 (if_neg (by omega)).symm
      · have h1 : ¬ g' < 2 ^ pl := fun r => c3 (by rw [pow_div0.mpr r]; exact Int32.le_refl _)
        exact key 1 (if_pos (by omega)).symm
    · have c3 : x.2.2.2.2.1 (sid l p) = 1 := by
        rcases hI.2.2.2.2.1 _ hsid.1 with r | r
        · exact absurd r c2
        · exact r
      rw [c3]
      exact hbod true x _ _ _ _ _ _ hI he hR (by rw [go_ent]; exact ent_o he hg c2)
