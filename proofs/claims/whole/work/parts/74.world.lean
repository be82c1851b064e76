/-! the class copies a world -/
section WD
variable {L : Nat} {h : zH} {i0 i1 : Nat}
theorem znn {n : Nat} (hn : n < 2 ^ 31) : ¬ nI n < 0 := by
  rw [Int32.lt_iff_toInt_lt, nI_toInt hn, show (0 : Int32).toInt = 0 from rfl]
  omega
theorem kList {n N : Nat} (ez0 : zaln L 2 i0 2 = N) (ez1 : zaln L 2 i1 2 = N) (hn : n ≤ N) (hN : N ≤ 400) (e3 : h 2 i1 0 3 = nI n) (hne : i1 ≠ i0) : ∃ h', (∀ d, zev L d 18 0 [some (.inr (.inl (2, i0, 0))), some (.inr (.inl (2, i1, 0)))] [] h = some (none, h')) ∧ ylcp (h' 2 i0) (h 2 i1) ∧ h' 2 i0 0 3 = nI n ∧ (∀ j, j < n → h' 2 i0 2 j = h 2 i1 2 j) ∧ ∀ k i, ¬ (k = 2 ∧ i = i0) → h' k i = h k i := by
  have t1 : ∀ d, zev L d 18 0 [some (.inr (.inl (2, i0, 0))), some (.inr (.inl (2, i1, 0)))] [] h = zev L d 18 42 [some (.inr (.inl (2, i0, 0))), some (.inr (.inl (2, i1, 0)))] [] (zup (zup (zupA h 2 i0 1 (va_cpy (h 2 i1 1) (h 2 i0 1) (nI 0).toNatClampNeg (nI 0).toNatClampNeg (nI 80).toNatClampNeg)) 2 i0 0 2 (h 2 i1 0 2)) 2 i0 0 3 (nI n)) := fun d => by
    simp (disch := first | omega | simp (disch := omega) only [nI_add, pk_mul, pk_sub, pk_div, znmod, nI_clamp, nIleT, nIleF, nIltT, nIltF, nIeqT, nIeqF, nIm1, nIm1q, zupE, zupN, vpT, nI_01, nI_11, ↓reduceIte, Option.bind_some, Option.toList_some, Option.toList_none, List.cons_append, List.nil_append, Nat.reduceAdd, Nat.reduceMul, Nat.reduceSub, Nat.reduceDiv, Nat.reduceMod, and_true, true_and, and_false, false_and, not_true_eq_false, not_false_eq_true, or_true, true_or, or_false, false_or, Int32.lt_irrefl, Int32.le_refl, zupAN, e3, ez0]) only [nI_add, pk_mul, pk_sub, pk_div, znmod, nI_clamp, nIleT, nIleF, nIltT, nIltF, nIeqT, nIeqF, nIm1, nIm1q, zupE, zupN, vpT, nI_01, nI_11, ↓reduceIte, Option.bind_some, Option.toList_some, Option.toList_none, List.cons_append, List.nil_append, Nat.reduceAdd, Nat.reduceMul, Nat.reduceSub, Nat.reduceDiv, Nat.reduceMod, and_true, true_and, and_false, false_and, not_true_eq_false, not_false_eq_true, or_true, true_or, or_false, false_or, Int32.lt_irrefl, Int32.le_refl, zupAN, e3, ez0, b18_0, b18_18, b18_26]
  have f3 : (zup (zup (zupA h 2 i0 1 (va_cpy (h 2 i1 1) (h 2 i0 1) (nI 0).toNatClampNeg (nI 0).toNatClampNeg (nI 80).toNatClampNeg)) 2 i0 0 2 (h 2 i1 0 2)) 2 i0 0 3 (nI n)) 2 i0 0 3 = nI n := zupE (by omega)
  refine ⟨_, fun d => (t1 d).trans ((b18_42 (by rw [f3]; exact znn (by omega)) (by rw [f3, ez1, nI_clamp (by omega), nI_clamp (by omega)]; omega) (by rw [f3, ez0, nI_clamp (by omega), nI_clamp (by omega)]; omega)).trans b18_59), ⟨?_, fun j hj => ?_⟩, ?_, fun j hj => ?_, fun k i hk => ?_⟩
  · rw [zupAN (by omega), zupN (by omega), zupE (by omega)]
  · rw [zupAN (by omega), zupN (by omega), zupN (by omega), zupAE (by omega)]
    exact ycpy hj (by omega)
  · rw [zupAN (by omega)]; exact f3
  · rw [zupAE (by omega), f3, ycpy hj (by omega), zupN (by omega), zupN (by omega), zupAN (by omega)]
  · funext s j
    rw [zupAN (by omega), zupN (by omega), zupN (by omega), zupAN (by omega)]
theorem kTide {N : Nat} (ez0 : zaln L 8 i0 1 = N) (ez1 : zaln L 8 i1 1 = N) (hN : N ≤ 400) (hne : i1 ≠ i0) : ∃ h', (∀ d, zev L d 83 0 [some (.inr (.inl (8, i0, 0))), some (.inr (.inl (8, i1, 0)))] [] h = some (none, h')) ∧ yt8 N (h' 8 i0) (h 8 i1) ∧ (∀ j, j ≠ 3 → h' 8 i0 0 j = h 8 i0 0 j) ∧ ∀ k i, ¬ (k = 8 ∧ i = i0) → h' k i = h k i := by
  refine ⟨_, fun d => (b83_0 (by rw [ez0]; exact znn (by omega)) (by rw [ez0, ez1, nI_clamp (by omega), nI_clamp (by omega)]; omega) (by rw [ez0, nI_clamp (by omega), nI_clamp (by omega)]; omega)).trans (b83_18.trans b83_26), ⟨?_, fun j hj => ?_⟩, fun j hj => ?_, fun k i hk => ?_⟩
  · rw [zupE (by omega), zupAN (by omega)]
  · rw [zupN (by omega), zupAE (by omega), ez0]
    exact ycpy hj (by omega)
  · rw [zupN (by omega), zupAN (by omega)]
  · funext s j
    rw [zupN (by omega), zupAN (by omega)]
theorem yWorld {v : Nat → Nat → Int32} {P H : Nat} (hi : i0 = 0 ∧ i1 = 1 ∨ i0 = 1 ∧ i1 = 0) (w : RWv (h 3 i1) (h 10 i1 2) (h 2 (4 * i1)) (h 2 (4 * i1 + 1)) (h 2 (4 * i1 + 2)) (h 2 (4 * i1 + 3)) (h 8 (5 * i1)) (h 8 (5 * i1 + 1)) (h 8 (5 * i1 + 2)) (h 8 (5 * i1 + 3)) (h 8 (5 * i1 + 4)) v P H) :
    ∃ h', (∀ d, zev L (d + 1) 105 0 [some (.inr (.inl (10, i0, 0))), some (.inr (.inl (10, i1, 0)))] [] h = some (none, h')) ∧ (∀ v', ivc v' v → RWv (h' 3 i0) (h' 10 i0 2) (h' 2 (4 * i0)) (h' 2 (4 * i0 + 1)) (h' 2 (4 * i0 + 2)) (h' 2 (4 * i0 + 3)) (h' 8 (5 * i0)) (h' 8 (5 * i0 + 1)) (h' 8 (5 * i0 + 2)) (h' 8 (5 * i0 + 3)) (h' 8 (5 * i0 + 4)) v' P H) ∧
      (∀ k i, ¬ (k = 3 ∧ i = i0) → k ≠ 10 → ¬ (k = 2 ∧ 4 * i0 ≤ i ∧ i < 4 * i0 + 4) → ¬ (k = 8 ∧ 5 * i0 ≤ i ∧ i < 5 * i0 + 5) → h' k i = h k i) ∧ (∀ i, i ≠ i0 → h' 10 i = h 10 i) ∧ ∀ i j, j ≠ 3 → h' 8 i 0 j = h 8 i 0 j := by
  have ez : ∀ i, (i = 0 ∨ i = 1) → zaln L 2 (4 * i) 2 = 400 ∧ zaln L 2 (4 * i + 1) 2 = 0 ∧ zaln L 2 (4 * i + 2) 2 = 0 ∧ zaln L 2 (4 * i + 3) 2 = 0 ∧ zaln L 8 (5 * i) 1 = 16 ∧ zaln L 8 (5 * i + 1) 1 = 9 ∧ zaln L 8 (5 * i + 2) 1 = 5 ∧ zaln L 8 (5 * i + 3) 1 = 7 ∧ zaln L 8 (5 * i + 4) 1 = 6 := fun i hi => by
    rcases hi with rfl | rfl
    · exact ⟨rfl, rfl, rfl, rfl, rfl, rfl, rfl, rfl, rfl⟩
    · exact ⟨rfl, rfl, rfl, rfl, rfl, rfl, rfl, rfl, rfl⟩
  obtain ⟨y0, y1, y2, y3, y4, y5, y6, y7, y8⟩ := ez i0 (by omega)
  obtain ⟨x0, x1, x2, x3, x4, x5, x6, x7, x8⟩ := ez i1 (by omega)
  obtain ⟨_, _, _, rl, rf, rh, rk, _⟩ := id w
  obtain ⟨_, SC, _, hSC, _, a3, _⟩ := id rl
  obtain ⟨h1, q1, q2, q3, q4⟩ := kCopy (L := L) (hc := h) (i0 := i0) (i1 := i1) (by omega)
  have A1 : ∀ k i, k ≠ 10 → ¬ (k = 3 ∧ i = i0) → (zupA h1 10 i0 2 (va_cpy (h1 10 i1 2) (h1 10 i0 2) (nI 0).toNatClampNeg (nI 0).toNatClampNeg (nI 600).toNatClampNeg)) k i = h k i := fun k i hk hk3 => by
    funext s j
    rw [zupAN (by omega)]
    by_cases c : k = 3
    · subst c; rw [q4 i (by omega)]
    · rw [q3 k c]
  have B1 : ∀ j, j < 600 → (zupA h1 10 i0 2 (va_cpy (h1 10 i1 2) (h1 10 i0 2) (nI 0).toNatClampNeg (nI 0).toNatClampNeg (nI 600).toNatClampNeg)) 10 i0 2 j = h 10 i1 2 j := fun j hj => by
    rw [zupAE (by omega), ycpy hj (by omega), q3 10 (by omega)]
  have B2 : ∀ i, i ≠ i0 → (zupA h1 10 i0 2 (va_cpy (h1 10 i1 2) (h1 10 i0 2) (nI 0).toNatClampNeg (nI 0).toNatClampNeg (nI 600).toNatClampNeg)) 10 i = h 10 i := fun i hi => by
    funext s j
    rw [zupAN (by omega), q3 10 (by omega)]
  have B3 : (zupA h1 10 i0 2 (va_cpy (h1 10 i1 2) (h1 10 i0 2) (nI 0).toNatClampNeg (nI 0).toNatClampNeg (nI 600).toNatClampNeg)) 3 i0 = h1 3 i0 := by
    funext s j
    rw [zupAN (by omega)]
  have t0 : ∀ d, zev L (d + 1) 105 0 [some (.inr (.inl (10, i0, 0))), some (.inr (.inl (10, i1, 0)))] [] h = zev L (d + 1) 105 29 [some (.inr (.inl (10, i0, 0))), some (.inr (.inl (10, i1, 0)))] [] (zupA h1 10 i0 2 (va_cpy (h1 10 i1 2) (h1 10 i0 2) (nI 0).toNatClampNeg (nI 0).toNatClampNeg (nI 600).toNatClampNeg)) := fun d => by
    simp (disch := first | omega | simp (disch := omega) only [nI_add, pk_mul, pk_sub, pk_div, znmod, nI_clamp, nIleT, nIleF, nIltT, nIltF, nIeqT, nIeqF, nIm1, nIm1q, zupE, zupN, vpT, nI_01, nI_11, ↓reduceIte, Option.bind_some, Option.toList_some, Option.toList_none, List.cons_append, List.nil_append, Nat.reduceAdd, Nat.reduceMul, Nat.reduceSub, Nat.reduceDiv, Nat.reduceMod, and_true, true_and, and_false, false_and, not_true_eq_false, not_false_eq_true, or_true, true_or, or_false, false_or, Int32.lt_irrefl, Int32.le_refl, q1]) only [nI_add, pk_mul, pk_sub, pk_div, znmod, nI_clamp, nIleT, nIleF, nIltT, nIltF, nIeqT, nIeqF, nIm1, nIm1q, zupE, zupN, vpT, nI_01, nI_11, ↓reduceIte, Option.bind_some, Option.toList_some, Option.toList_none, List.cons_append, List.nil_append, Nat.reduceAdd, Nat.reduceMul, Nat.reduceSub, Nat.reduceDiv, Nat.reduceMod, and_true, true_and, and_false, false_and, not_true_eq_false, not_false_eq_true, or_true, true_or, or_false, false_or, Int32.lt_irrefl, Int32.le_refl, q1, b105_0, b105_11]
  generalize (zupA h1 10 i0 2 (va_cpy (h1 10 i1 2) (h1 10 i0 2) (nI 0).toNatClampNeg (nI 0).toNatClampNeg (nI 600).toNatClampNeg)) = g0 at A1 B1 B2 B3 t0
  obtain ⟨g1, a1, b1, c1, d1, f1⟩ := kList (L := L) (h := g0) (n := SC) y0 x0 hSC (by omega) (by rw [A1 2 (4 * i1) (by omega) (by omega)]; exact a3) (by omega)
  obtain ⟨g2, a2, b2, c2, d2, f2⟩ := kList (L := L) (h := g1) (n := 0) y1 x1 (by omega) (by omega) (by rw [f1 2 (4 * i1 + 1) (by omega), A1 2 (4 * i1 + 1) (by omega) (by omega)]; exact rf.2) (by omega)
  obtain ⟨g3, a3', b3, c3, d3, f3⟩ := kList (L := L) (h := g2) (n := 0) y2 x2 (by omega) (by omega) (by rw [f2 2 (4 * i1 + 2) (by omega), f1 2 (4 * i1 + 2) (by omega), A1 2 (4 * i1 + 2) (by omega) (by omega)]; exact rh.2) (by omega)
  obtain ⟨g4, a4, b4, c4, d4, f4⟩ := kList (L := L) (h := g3) (n := 0) y3 x3 (by omega) (by omega) (by rw [f3 2 (4 * i1 + 3) (by omega), f2 2 (4 * i1 + 3) (by omega), f1 2 (4 * i1 + 3) (by omega), A1 2 (4 * i1 + 3) (by omega) (by omega)]; exact rk.2) (by omega)
  obtain ⟨g5, a5, b5, c5, f5⟩ := kTide (L := L) (h := g4) y4 x4 (by omega) (by omega)
  obtain ⟨g6, a6, b6, c6, f6⟩ := kTide (L := L) (h := g5) y5 x5 (by omega) (by omega)
  obtain ⟨g7, a7, b7, c7, f7⟩ := kTide (L := L) (h := g6) y6 x6 (by omega) (by omega)
  obtain ⟨g8, a8, b8, c8, f8⟩ := kTide (L := L) (h := g7) y7 x7 (by omega) (by omega)
  obtain ⟨g9, a9, b9, c9, f9⟩ := kTide (L := L) (h := g8) y8 x8 (by omega) (by omega)
  refine ⟨g9, fun d => (t0 d).trans ?_, fun v' hv => ?_, fun k i n1 n2 n3 n4 => ?_, fun i hi => ?_, fun i j hj => ?_⟩
  · simp (disch := first | omega | simp (disch := omega) only [nI_add, pk_mul, pk_sub, pk_div, znmod, nI_clamp, nIleT, nIleF, nIltT, nIltF, nIeqT, nIeqF, nIm1, nIm1q, zupE, zupN, vpT, nI_01, nI_11, ↓reduceIte, Option.bind_some, Option.toList_some, Option.toList_none, List.cons_append, List.nil_append, Nat.reduceAdd, Nat.reduceMul, Nat.reduceSub, Nat.reduceDiv, Nat.reduceMod, and_true, true_and, and_false, false_and, not_true_eq_false, not_false_eq_true, or_true, true_or, or_false, false_or, Int32.lt_irrefl, Int32.le_refl, a1, a2, a3', a4, a5, a6, a7, a8, a9]) only [nI_add, pk_mul, pk_sub, pk_div, znmod, nI_clamp, nIleT, nIleF, nIltT, nIltF, nIeqT, nIeqF, nIm1, nIm1q, zupE, zupN, vpT, nI_01, nI_11, ↓reduceIte, Option.bind_some, Option.toList_some, Option.toList_none, List.cons_append, List.nil_append, Nat.reduceAdd, Nat.reduceMul, Nat.reduceSub, Nat.reduceDiv, Nat.reduceMod, and_true, true_and, and_false, false_and, not_true_eq_false, not_false_eq_true, or_true, true_or, or_false, false_or, Int32.lt_irrefl, Int32.le_refl, a1, a2, a3', a4, a5, a6, a7, a8, a9, b105_29, b105_40, b105_51, b105_62, b105_73, b105_84, b105_95, b105_106, b105_117, b105_128]
  · -- the lists and the tides as they were read
    have e1 : g0 2 (4 * i1) = h 2 (4 * i1) := A1 2 _ (by omega) (by omega)
    have e2 : g1 2 (4 * i1 + 1) = h 2 (4 * i1 + 1) := by rw [f1 2 _ (by omega), A1 2 _ (by omega) (by omega)]
    have e3 : g2 2 (4 * i1 + 2) = h 2 (4 * i1 + 2) := by rw [f2 2 _ (by omega), f1 2 _ (by omega), A1 2 _ (by omega) (by omega)]
    have e4 : g3 2 (4 * i1 + 3) = h 2 (4 * i1 + 3) := by rw [f3 2 _ (by omega), f2 2 _ (by omega), f1 2 _ (by omega), A1 2 _ (by omega) (by omega)]
    have z4 : ∀ i, g4 8 i = h 8 i := fun i => by rw [f4 8 i (by omega), f3 8 i (by omega), f2 8 i (by omega), f1 8 i (by omega), A1 8 i (by omega) (by omega)]
    rw [e1] at b1 d1
    rw [e2] at b2
    rw [e3] at b3
    rw [e4] at b4
    rw [z4] at b5
    rw [f5 8 _ (by omega), z4] at b6
    rw [f6 8 _ (by omega), f5 8 _ (by omega), z4] at b7
    rw [f7 8 _ (by omega), f6 8 _ (by omega), f5 8 _ (by omega), z4] at b8
    rw [f8 8 _ (by omega), f7 8 _ (by omega), f6 8 _ (by omega), f5 8 _ (by omega), z4] at b9
    have u : ∀ k i, k ≠ 8 → g9 k i = g4 k i := fun k i hk => by rw [f9 k i (by omega), f8 k i (by omega), f7 k i (by omega), f6 k i (by omega), f5 k i (by omega)]
    have w3 : g9 3 i0 = h1 3 i0 := by rw [u 3 i0 (by omega), f4 3 i0 (by omega), f3 3 i0 (by omega), f2 3 i0 (by omega), f1 3 i0 (by omega), B3]
    have w10 : g9 10 i0 = g0 10 i0 := by rw [u 10 i0 (by omega), f4 10 i0 (by omega), f3 10 i0 (by omega), f2 10 i0 (by omega), f1 10 i0 (by omega)]
    have l0 : g9 2 (4 * i0) = g1 2 (4 * i0) := by rw [u 2 _ (by omega), f4 2 _ (by omega), f3 2 _ (by omega), f2 2 _ (by omega)]
    have l1 : g9 2 (4 * i0 + 1) = g2 2 (4 * i0 + 1) := by rw [u 2 _ (by omega), f4 2 _ (by omega), f3 2 _ (by omega)]
    have l2 : g9 2 (4 * i0 + 2) = g3 2 (4 * i0 + 2) := by rw [u 2 _ (by omega), f4 2 _ (by omega)]
    have l3 : g9 2 (4 * i0 + 3) = g4 2 (4 * i0 + 3) := u 2 _ (by omega)
    have m0 : g9 8 (5 * i0) = g5 8 (5 * i0) := by rw [f9 8 _ (by omega), f8 8 _ (by omega), f7 8 _ (by omega), f6 8 _ (by omega)]
    have m1 : g9 8 (5 * i0 + 1) = g6 8 (5 * i0 + 1) := by rw [f9 8 _ (by omega), f8 8 _ (by omega), f7 8 _ (by omega)]
    have m2 : g9 8 (5 * i0 + 2) = g7 8 (5 * i0 + 2) := by rw [f9 8 _ (by omega), f8 8 _ (by omega)]
    have m3 : g9 8 (5 * i0 + 3) = g8 8 (5 * i0 + 3) := f9 8 _ (by omega)
    rw [w3, w10, l0, l1, l2, l3, m0, m1, m2, m3]
    refine RWv_cp w q2 B1 ⟨b1, fun n hn en => ?_⟩ ⟨b2, fun _ => c2⟩ ⟨b3, fun _ => c3⟩ ⟨b4, fun _ => c4⟩ b5 b6 b7 b8 b9 hv
    have : n = SC := (nI_eq (by omega) (by omega)).1 (en.symm.trans a3)
    subst this
    exact ⟨c1, d1⟩
  · rw [f9 k i (by omega), f8 k i (by omega), f7 k i (by omega), f6 k i (by omega), f5 k i (by omega), f4 k i (by omega), f3 k i (by omega), f2 k i (by omega), f1 k i (by omega), A1 k i n2 n1]
  · rw [f9 10 i (by omega), f8 10 i (by omega), f7 10 i (by omega), f6 10 i (by omega), f5 10 i (by omega), f4 10 i (by omega), f3 10 i (by omega), f2 10 i (by omega), f1 10 i (by omega), B2 i hi]
  · have z4 : g4 8 i = h 8 i := by rw [f4 8 i (by omega), f3 8 i (by omega), f2 8 i (by omega), f1 8 i (by omega), A1 8 i (by omega) (by omega)]
    have s5 : g5 8 i 0 j = g4 8 i 0 j := by
      by_cases c : i = 5 * i0
      · subst c; exact c5 j hj
      · rw [f5 8 i (by omega)]
    have s6 : g6 8 i 0 j = g5 8 i 0 j := by
      by_cases c : i = 5 * i0 + 1
      · subst c; exact c6 j hj
      · rw [f6 8 i (by omega)]
    have s7 : g7 8 i 0 j = g6 8 i 0 j := by
      by_cases c : i = 5 * i0 + 2
      · subst c; exact c7 j hj
      · rw [f7 8 i (by omega)]
    have s8 : g8 8 i 0 j = g7 8 i 0 j := by
      by_cases c : i = 5 * i0 + 3
      · subst c; exact c8 j hj
      · rw [f8 8 i (by omega)]
    have s9 : g9 8 i 0 j = g8 8 i 0 j := by
      by_cases c : i = 5 * i0 + 4
      · subst c; exact c9 j hj
      · rw [f9 8 i (by omega)]
    rw [s9, s8, s7, s6, s5, z4]
end WD
