def FUEL : Nat := 100000
theorem pure_all {L : Nat} {xs : Nat → Int32} (hL : L ≤ 2562) : PureAll FUEL L xs := by
  obtain ⟨W, hW0, hW, hW1, hW2⟩ := side_or FUEL (cvL xs L (0 : Int32))
  obtain ⟨H, hH0, hH, hH1, hH2⟩ := side_or FUEL (cvL xs L (1 : Int32))
  have hz := resize_ok (fu := FUEL) (ins := fun _ => 0) (cnt := 0) (parts := 0) (h0 := 0) (w0 := 0) (W := W) (H := H) (f := fun _ => 0) (z := fun _ => 0) (q := fun _ => 0) (P := fun _ => 0) (by decide) hW hH
  obtain ⟨⟨c1, c2, c3, c4, c5, c6, c7, c8, c9⟩, hz1, g1, g2, g3, g4⟩ := hz
  dsimp only at g1 g2 g3 g4
  subst g1 g2
  have hIns : ∀ j, j < 256 → (lab c6 256).1 j = -1 := fun j hj => (lab_in hj).mpr (g3 j hj)
  have hfw : EqT (fwd (lab c6 256).1 (fun _ => 0)) (fun _ => 0) := fwd0 hIns
  refine ⟨nI W, nI H, c1, nI H, c3, nI W, c5, c6, c7, c8, c9, hW1, hH1, hz1, ?_⟩
  rw [hW2, hH2]
  have hlaw : Ok (loop4 (m_Lw_law_k43 FUEL L xs) 513 2 (((0 : Int32), (0 : Int32), (fun _ => 0), c1, nI H, c3, nI W, c5, c6, c7, c8, c9, (fun _ => 0)), ((0 : Int32), (fun _ => 0), (0 : Int32), (0 : Int32), (0 : Int32), (0 : Int32), (fun _ => 0), (fun _ => 0), (fun _ => 0), (fun _ => 0), (fun _ => 0), (fun _ => 0)), ((0 : Int32), (fun _ => 0)), ((0 : Int32), (fun _ => 0)), ((0 : Int32), (0 : Int32), (0 : Int32)), ((0 : Int32), (0 : Int32), (0 : Int32)), ((0 : Int32), (0 : Int32), (0 : Int32)), ((0 : Int32), (fun _ => 0), (fun _ => 0), (fun _ => 0), (fun _ => 0)), ((0 : Int32), (fun _ => 0), (fun _ => 0), (fun _ => 0), (fun _ => 0)), ((0 : Int32), (fun _ => 0), (fun _ => 0), (fun _ => 0), (fun _ => 0)), (0 : Int32)) ((0 : Int32), (0 : Int32), (0 : Int32), nI H, (0 : Int32), (0 : Int32), (0 : Int32), (0 : Int32), (0 : Int32), (0 : Int32), (0 : Int32), nI W, (fun _ => 0), (fun _ => 0), (fun _ => 0), (fun _ => 0), (fun _ => 0), (fun _ => 0), (fun _ => 0), (fun _ => 0), (fun _ => 0), (fun _ => 0), (fun _ => 0), (fun _ => 0), (fun _ => 0), (fun _ => 0)) (fun _ => 0)) (fun _ => True) := by
    refine law_run (by decide) hL ?_
    unfold Inv
    refine ⟨⟨W, H, hW0, hW, hH0, hH, rfl, rfl, rfl, rfl, ⟨fun j hj => Or.inl (g3 j hj), fun j hj _ => g3 j hj⟩, g3, fun j hj => (by show 0 ≤ (0 : Int32).toInt ∧ (0 : Int32).toInt ≤ 255; decide), fun _ _ => rfl, Or.inl rfl, fun _ => ⟨g4, hfw.symm, 0, rfl, ?_⟩⟩, ⟨0, fun _ => 0, by decide, rfl, rfl, rfl, fun j hj => absurd hj (Nat.not_lt_zero _)⟩, fun _ _ => rfl, ⟨0, fun _ => 0, by decide, rfl, rfl, fun j _ => ⟨(by decide : 0 < 256), (by decide : (0 : Int32) &&& 255 = nI 0)⟩, fun j _ => ⟨(by decide : 0 < 256), rfl⟩⟩, Or.inl ⟨rfl, rfl⟩⟩
    show PL (mxf c6 (fwd (lab c6 256).1 (fun _ => 0)) 256) 0
    rw [mxf0 g3 (Nat.le_refl _)]
    exact ⟨by decide, fun i hi => absurd hi (Nat.not_lt_zero _)⟩
  obtain ⟨u, hu, _⟩ := hlaw
  exact hu
