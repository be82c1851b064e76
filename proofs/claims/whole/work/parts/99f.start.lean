/-! the start: nothing stands in either -/
theorem z0a : ∀ j, j < 726 → cval (12, 0, 2) j = nI 0 ∧ cval (12, 0, 9) j = nI 0 ∧ cval (12, 0, 10) j = nI 0 ∧ cval (12, 0, 11) j = nI 0 ∧ cval (12, 0, 40) j = nI 0 := by decide +kernel
theorem z0b : ∀ j, j < 600 → cval (3, 0, 1) j = nI 0 ∧ cval (3, 0, 2) j = nI 0 ∧ cval (3, 0, 3) j = nI 0 ∧ cval (3, 0, 4) j = nI 0 ∧ cval (3, 0, 5) j = nI 0 ∧ cval (3, 0, 6) j = nI 0 ∧ cval (3, 0, 7) j = nI 0 ∧ cval (3, 0, 8) j = nI 0 ∧ cval (10, 0, 2) j = nI 0 := by decide +kernel
theorem z0c : (cval (3, 0, 0) 8 = nI 0 ∧ cval (3, 0, 0) 9 = nI 0 ∧ cval (3, 0, 0) 10 = nI 0 ∧ cval (3, 0, 0) 11 = nI 0 ∧ cval (3, 0, 0) 12 = nI 0 ∧ cval (3, 0, 0) 13 = nI 0 ∧ cval (3, 0, 0) 14 = nI 0) ∧ (cval (2, 0, 0) 2 = nI 0 ∧ cval (2, 0, 0) 3 = nI 0 ∧ cval (2, 1, 0) 2 = nI 0 ∧ cval (2, 1, 0) 3 = nI 0 ∧ cval (2, 2, 0) 2 = nI 0 ∧ cval (2, 2, 0) 3 = nI 0 ∧ cval (2, 3, 0) 2 = nI 0 ∧ cval (2, 3, 0) 3 = nI 0) ∧ (cval (8, 0, 0) 3 = nI 0 ∧ cval (8, 1, 0) 3 = nI 0 ∧ cval (8, 2, 0) 3 = nI 0 ∧ cval (8, 3, 0) 3 = nI 0 ∧ cval (8, 4, 0) 3 = nI 0) ∧ (cval (4, 0, 0) 1 = nI 0 ∧ cval (4, 0, 0) 2 = nI 0 ∧ cval (7, 0, 0) 3 = nI 0 ∧ cval (6, 0, 0) 4 = nI 0 ∧ cval (6, 0, 0) 5 = (-1) ∧ cval (11, 0, 0) 9 = nI 0 ∧ cval (0, 0, 2) 0 = nI 0 ∧ cval (9, 0, 0) 4 = nI 0 ∧ cval (9, 0, 0) 5 = nI 0) := by decide +kernel
theorem z0d : (cval (12, 0, 0) 3 = nI 0 ∧ cval (12, 0, 0) 5 = nI 0 ∧ cval (12, 0, 0) 6 = nI 0 ∧ cval (12, 0, 0) 7 = nI 0 ∧ cval (12, 0, 0) 12 = nI 0) ∧ (cval (12, 0, 0) 32 = nI 0 ∧ cval (12, 0, 0) 33 = (-1) ∧ cval (12, 0, 0) 34 = nI 0 ∧ cval (12, 0, 0) 36 = nI 0 ∧ cval (12, 0, 0) 38 = nI 0 ∧ cval (12, 0, 0) 48 = nI 0 ∧ cval (12, 0, 0) 51 = nI 0 ∧ cval (12, 0, 0) 57 = nI 0 ∧ cval (12, 0, 0) 59 = nI 0 ∧ cval (12, 0, 0) 62 = nI 0 ∧ cval (12, 0, 0) 66 = nI 0 ∧ cval (12, 0, 19) 0 = nI 0) := by decide +kernel
theorem z0e : (∀ i, i < 10 → cval (8, i, 0) 1 = nI (zLIM.getD (i % 5) (0, 0)).1 ∧ cval (8, i, 0) 2 = nI (zLIM.getD (i % 5) (0, 0)).2) ∧ (∀ j, j < 21 → zHV j = nI (zHEAP.getD j 0)) ∧ (∀ j, j < 139 → zWB j = nI (zWDS.getD j 0)) ∧ ∀ j, j < 140 → cval (12, 0, 18) j = nI (zWDM.getD j 0) := by decide +kernel
theorem Rel0 (xs : Nat → Int32) : Rel (zH0 xs) (zH0 xs) := by
  have V : ∀ k i s j, k ≤ 12 → zH0 xs k i s j = cval (k, i, s) j := fun k i s j h => zH0_c h
  obtain ⟨⟨a8, a9, a10, a11, a12, a13, a14⟩, ⟨b1, b2, b3, b4, b5, b6, b7, b8⟩, ⟨c0, c1, c2, c3, c4⟩, ⟨d1, d2, d3, d4, d5, d6, d7, d8, d9⟩⟩ := z0c
  obtain ⟨⟨e1, e2, e3, e4, e5⟩, ⟨f1, f2, f3, f4, f5, f6, f7, f8, f9, f10, f11, f12⟩⟩ := z0d
  obtain ⟨g1, g2, g3, g4⟩ := z0e
  refine Rel_mk 0 0 ?_ ?_ ?_ ?_ ?_ ?_ ?_ ?_ ?_ ?_ ?_ ?_ ?_ ?_ ?_ ?_ ?_
  · refine ⟨⟨by rw [V _ _ _ _ (by omega)]; exact a8, by rw [V _ _ _ _ (by omega)]; exact a9, by omega, by omega⟩, ⟨?_, ?_, ?_, ?_, ?_⟩, ⟨0, by omega, by rw [V _ _ _ _ (by omega)]; exact a13⟩, fun j hj => ?_, fun j hj => ?_, fun j hj => ?_, fun j hj => ?_, fun j hj => ?_, fun j hj => ?_, fun j hj => ?_⟩
    · rw [V _ _ _ _ (by omega), V _ _ _ _ (by omega), (z0a 0 (by omega)).1, a12]
    · rw [V _ _ _ _ (by omega), V _ _ _ _ (by omega), (z0a 1 (by omega)).1, a14]
    · rw [V _ _ _ _ (by omega), V _ _ _ _ (by omega), (z0a 2 (by omega)).1, a13]
    · rw [V _ _ _ _ (by omega), V _ _ _ _ (by omega), (z0a 3 (by omega)).1, a10]
    · rw [V _ _ _ _ (by omega), V _ _ _ _ (by omega), (z0a 4 (by omega)).1, a11]
    · rw [V _ _ _ _ (by omega), V _ _ _ _ (by omega), (z0a (5 + j) (by omega)).1, (z0b j (by omega)).1]
      exact ⟨rfl, 0, by omega, rfl⟩
    · rw [V _ _ _ _ (by omega), V _ _ _ _ (by omega), (z0a (65 + j) (by omega)).1, (z0b j (by omega)).2.1]
      exact ⟨rfl, 0, by omega, rfl⟩
    · rw [V _ _ _ _ (by omega), V _ _ _ _ (by omega), (z0a (77 + j) (by omega)).1, (z0b j (by omega)).2.2.1]
      exact ⟨rfl, fun _ => rfl⟩
    · rw [V _ _ _ _ (by omega), V _ _ _ _ (by omega), (z0a (89 + j) (by omega)).1, (z0b j (by omega)).2.2.2.1]
      exact ⟨rfl, fun _ => rfl⟩
    · rw [V _ _ _ _ (by omega), V _ _ _ _ (by omega), (z0a (101 + j) (by omega)).1, (z0b j (by omega)).2.2.2.2.1]
      exact ⟨rfl, fun q => absurd q (by omega)⟩
    · rw [V _ _ _ _ (by omega), V _ _ _ _ (by omega), (z0a (111 + j) (by omega)).1, (z0b j (by omega)).2.2.2.2.2.2.2.1]
      exact ⟨rfl, fun _ => rfl⟩
    · rw [V _ _ _ _ (by omega), V _ _ _ _ (by omega), V _ _ _ _ (by omega), V _ _ _ _ (by omega), (z0a j (by omega)).2.1, (z0a j (by omega)).2.2.1, (z0b j (by omega)).2.2.2.2.2.1, (z0b j (by omega)).2.2.2.2.2.2.1]
      exact ⟨rfl, rfl⟩
  · exact ⟨by rw [V _ _ _ _ (by omega)]; exact e3, by rw [V _ _ _ _ (by omega)]; exact e4⟩
  · intro j hj
    rw [V _ _ _ _ (by omega), V _ _ _ _ (by omega), (z0a j (by omega)).2.2.2.1, (z0b j hj).2.2.2.2.2.2.2.2]
  · exact ⟨0, 0, by omega, by omega, by rw [V _ _ _ _ (by omega)]; exact b1, by rw [V _ _ _ _ (by omega)]; exact b2, by rw [V _ _ _ _ (by omega)]; exact f12, fun l hl => absurd hl (by omega)⟩
  · exact ⟨⟨0, by omega, by rw [V _ _ _ _ (by omega)]; exact b3, by rw [V _ _ _ _ (by omega)]; exact f3, fun j hj => absurd hj (by omega)⟩, by rw [V _ _ _ _ (by omega)]; exact b4⟩
  · exact ⟨⟨0, by omega, by rw [V _ _ _ _ (by omega)]; exact b5, by rw [V _ _ _ _ (by omega)]; exact f4, fun j hj => absurd hj (by omega)⟩, by rw [V _ _ _ _ (by omega)]; exact b6⟩
  · exact ⟨⟨0, by omega, by rw [V _ _ _ _ (by omega)]; exact b7, by rw [V _ _ _ _ (by omega)]; exact f5, fun j hj => absurd hj (by omega), fun p hp => by rw [V _ _ _ _ (by omega)]; exact (z0a p (by omega)).2.2.2.2⟩, by rw [V _ _ _ _ (by omega)]; exact b8⟩
  · exact ⟨0, by omega, by rw [V _ _ _ _ (by omega)]; exact c0, by rw [V _ _ _ _ (by omega)]; exact f6, fun j hj => absurd hj (by omega)⟩
  · exact ⟨0, by omega, by rw [V _ _ _ _ (by omega)]; exact c1, by rw [V _ _ _ _ (by omega)]; exact f7, fun j hj => absurd hj (by omega)⟩
  · exact ⟨0, by omega, by rw [V _ _ _ _ (by omega)]; exact c2, by rw [V _ _ _ _ (by omega)]; exact f8, fun j hj => absurd hj (by omega)⟩
  · exact ⟨0, by omega, by rw [V _ _ _ _ (by omega)]; exact c3, by rw [V _ _ _ _ (by omega)]; exact f9, fun j hj => absurd hj (by omega)⟩
  · exact ⟨0, by omega, by rw [V _ _ _ _ (by omega)]; exact c4, by rw [V _ _ _ _ (by omega)]; exact f10, fun j hj => absurd hj (by omega)⟩
  · exact ⟨0, 0, by omega, by omega, by rw [V _ _ _ _ (by omega)]; exact d1, by rw [V _ _ _ _ (by omega)]; exact d2, by rw [V _ _ _ _ (by omega)]; exact e1, fun k hk => absurd hk (by omega)⟩
  · exact ⟨0, by omega, by rw [V _ _ _ _ (by omega)]; exact d3, by rw [V _ _ _ _ (by omega)]; exact e5, fun j hj => absurd hj (by omega)⟩
  · exact ⟨by rw [V _ _ _ _ (by omega), V _ _ _ _ (by omega), f1, d4], by rw [V _ _ _ _ (by omega), V _ _ _ _ (by omega), f2, d5]⟩
  · exact ⟨by rw [V _ _ _ _ (by omega), V _ _ _ _ (by omega), d6, f11], Or.inl (by rw [V _ _ _ _ (by omega)]; exact f11)⟩
  · refine ⟨⟨by rw [V _ _ _ _ (by omega)]; exact d8, by rw [V _ _ _ _ (by omega)]; exact d9, by rw [V _ _ _ _ (by omega)]; exact e2, by rw [V _ _ _ _ (by omega)]; exact d7⟩, fun i hi => ?_, fun j hj => g2 j hj, ⟨rfl, fun j hj => g3 j hj⟩, fun j hj => ?_⟩
    · rw [V _ _ _ _ (by omega), V _ _ _ _ (by omega)]; exact g1 i hi
    · rw [V _ _ _ _ (by omega)]; exact g4 j hj
