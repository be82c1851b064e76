/-! operation image -/
section OI
variable {L d : Nat} {hc hm : zH} {m : Nat}
theorem im284 (hm1 : m = 0 ∨ m = 1) (e65 : hm 12 0 0 65 = nI m) (e67 : hm 12 0 0 67 = nI 0) : ∃ g, IMs hm m 1847 g ∧ ∀ d, zev L (d + 2) 284 33 [some (.inr (.inl (12, 0, 0))), some (.inl (nI m)), none] [] hm = zev L (d + 2) 284 106 [some (.inr (.inl (12, 0, 0))), some (.inl (nI m)), some (.inl (nI 600))] [] g := by
  have I0 : IMs hm m 0 hm := ⟨e65, e67, fun _ => ⟨fun q hq => absurd hq (Nat.not_lt_zero _), fun _ _ _ _ => rfl⟩, fun _ => ⟨fun q hq => absurd hq (Nat.not_lt_zero _), fun _ _ _ _ => rfl⟩⟩
  obtain ⟨g1, I1, e1⟩ := imL284_35 (L := L) (x1 := nI m) I0 hm1
  obtain ⟨g2, I2, e2⟩ := im282 (L := L) I1 hm1
  obtain ⟨g3, I3, e3⟩ := im283 (L := L) I2 hm1
  obtain ⟨g4, I4, e4⟩ := imL284_73 (L := L) (x1 := nI m) I3 hm1
  obtain ⟨g5, I5, e5⟩ := im281 (L := L) I4 hm1
  refine ⟨g5, I5, fun d => ?_⟩
  have t1 : zev L (d + 2) 284 35 [some (.inr (.inl (12, 0, 0))), some (.inl (nI m)), some (.inl (nI 121))] [] g1 = zev L (d + 2) 284 73 [some (.inr (.inl (12, 0, 0))), some (.inl (nI m)), some (.inl (nI 0))] [] g3 := by
    refine b284_35.trans ?_
    simp (disch := first | omega | simp (disch := omega) only [nI_add, pk_mul, pk_sub, pk_div, znmod, nI_clamp, nIleT, nIleF, nIltT, nIltF, nIeqT, nIeqF, nIm1, nIm1q, zupE, zupN, vpT, nI_01, nI_11, ↓reduceIte, Option.bind_some, Option.toList_some, Option.toList_none, List.cons_append, List.nil_append, Nat.reduceAdd, Nat.reduceMul, Nat.reduceSub, Nat.reduceDiv, Nat.reduceMod, and_true, true_and, and_false, false_and, not_true_eq_false, not_false_eq_true, or_true, true_or, or_false, false_or, Int32.lt_irrefl, Int32.le_refl, e2, e3]) only [nI_add, pk_mul, pk_sub, pk_div, znmod, nI_clamp, nIleT, nIleF, nIltT, nIltF, nIeqT, nIeqF, nIm1, nIm1q, zupE, zupN, vpT, nI_01, nI_11, ↓reduceIte, Option.bind_some, Option.toList_some, Option.toList_none, List.cons_append, List.nil_append, Nat.reduceAdd, Nat.reduceMul, Nat.reduceSub, Nat.reduceDiv, Nat.reduceMod, and_true, true_and, and_false, false_and, not_true_eq_false, not_false_eq_true, or_true, true_or, or_false, false_or, Int32.lt_irrefl, Int32.le_refl, e2, e3, b284_63, b284_67, b284_71]
  have t2 : zev L (d + 2) 284 73 [some (.inr (.inl (12, 0, 0))), some (.inl (nI m)), some (.inl (nI 600))] [] g4 = zev L (d + 2) 284 106 [some (.inr (.inl (12, 0, 0))), some (.inl (nI m)), some (.inl (nI 600))] [] g5 := by
    refine b284_73.trans ?_
    simp (disch := first | omega | simp (disch := omega) only [nI_add, pk_mul, pk_sub, pk_div, znmod, nI_clamp, nIleT, nIleF, nIltT, nIltF, nIeqT, nIeqF, nIm1, nIm1q, zupE, zupN, vpT, nI_01, nI_11, ↓reduceIte, Option.bind_some, Option.toList_some, Option.toList_none, List.cons_append, List.nil_append, Nat.reduceAdd, Nat.reduceMul, Nat.reduceSub, Nat.reduceDiv, Nat.reduceMod, and_true, true_and, and_false, false_and, not_true_eq_false, not_false_eq_true, or_true, true_or, or_false, false_or, Int32.lt_irrefl, Int32.le_refl, e5]) only [nI_add, pk_mul, pk_sub, pk_div, znmod, nI_clamp, nIleT, nIleF, nIltT, nIltF, nIeqT, nIeqF, nIm1, nIm1q, zupE, zupN, vpT, nI_01, nI_11, ↓reduceIte, Option.bind_some, Option.toList_some, Option.toList_none, List.cons_append, List.nil_append, Nat.reduceAdd, Nat.reduceMul, Nat.reduceSub, Nat.reduceDiv, Nat.reduceMod, and_true, true_and, and_false, false_and, not_true_eq_false, not_false_eq_true, or_true, true_or, or_false, false_or, Int32.lt_irrefl, Int32.le_refl, e5, b284_102]
  exact b284_33.trans ((e1 (d + 1)).trans (t1.trans ((e4 (d + 1)).trans t2)))
theorem o_image (hm1 : m = 0 ∨ m = 1) (R : Rel hc hm) : zS2 (zev L (d + 20) 151 0 [some (.inr (.inl (11, 0, 0))), some (.inl (nI m))] [] hc) (zev L (d + 20) 284 0 [some (.inr (.inl (12, 0, 0))), some (.inl (nI m)), none] [] hm) Rel := by
  have R' := R
  obtain ⟨P, H, rW, ra, rt, re, ri, rs⟩ := R
  obtain ⟨ri1, ri2⟩ := id ri
  have hq : ∀ q, q < 1847 → ¬ ((ic q).1 = 0 ∧ ((ic q).2 = 0 ∨ (ic q).2 = 65 ∨ (ic q).2 = 66 ∨ (ic q).2 = 67)) ∧ (ic q).1 ≠ 69 := fun q hq => by
    have := ic_f hq
    refine ⟨fun h => ?_, fun h => ?_⟩
    · obtain ⟨h1, h2⟩ := h
      rw [h1] at this
      rcases h2 with h2 | h2 | h2 | h2 <;> rw [h2] at this <;> cases this
    · rw [h] at this
      cases this
  rcases hm1 with rfl | rfl
  · rcases ri2 with h0 | ⟨h1, P', H', rI⟩
    · rw [h0] at ri1
      simp (disch := first | omega | simp (disch := omega) only [nI_add, pk_mul, pk_sub, pk_div, znmod, nI_clamp, nIleT, nIleF, nIltT, nIltF, nIeqT, nIeqF, nIm1, nIm1q, zupE, zupN, vpT, nI_01, nI_11, ↓reduceIte, Option.bind_some, Option.toList_some, Option.toList_none, List.cons_append, List.nil_append, Nat.reduceAdd, Nat.reduceMul, Nat.reduceSub, Nat.reduceDiv, Nat.reduceMod, and_true, true_and, and_false, false_and, not_true_eq_false, not_false_eq_true, or_true, true_or, or_false, false_or, Int32.lt_irrefl, Int32.le_refl, ri1, h0]) only [nI_add, pk_mul, pk_sub, pk_div, znmod, nI_clamp, nIleT, nIleF, nIltT, nIltF, nIeqT, nIeqF, nIm1, nIm1q, zupE, zupN, vpT, nI_01, nI_11, ↓reduceIte, Option.bind_some, Option.toList_some, Option.toList_none, List.cons_append, List.nil_append, Nat.reduceAdd, Nat.reduceMul, Nat.reduceSub, Nat.reduceDiv, Nat.reduceMod, and_true, true_and, and_false, false_and, not_true_eq_false, not_false_eq_true, or_true, true_or, or_false, false_or, Int32.lt_irrefl, Int32.le_refl, ri1, h0, b151_0, b151_22, b151_29, b284_0, b284_5, b284_9, b284_16]
      exact ⟨_, _, _, rfl, rfl, Rel_y R' yC_r (yM_u yM_r rfl)⟩
    · rw [h1] at ri1
      obtain ⟨hc1, k1, k2, k3, k4, k5⟩ := yWorld (L := L) (h := hc) (i0 := 0) (i1 := 1) (Or.inl ⟨rfl, rfl⟩) rI
      obtain ⟨g, I, e⟩ := im284 (L := L) (m := 0) (hm := zup (zup (zup (zup hm 12 0 0 0 (nI 0)) 12 0 0 65 (nI 0)) 12 0 0 66 (nI 1)) 12 0 0 67 (nI 0)) (Or.inl rfl) (by rw [zupN (by omega), zupN (by omega), zupE (by omega)]) (by rw [zupE (by omega)])
      obtain ⟨j1, j2, _, j4⟩ := I
      obtain ⟨j5, j6⟩ := j4 rfl
      have G : ∀ s j, icf s j = false → ¬ (s = 0 ∧ (j = 0 ∨ j = 65 ∨ j = 66 ∨ j = 67)) → g 12 0 s j = hm 12 0 s j := fun s j hf hn => by
        rw [j6 s j hf (by omega), zupN (by omega), zupN (by omega), zupN (by omega), zupN (by omega)]
      have G66 : g 12 0 0 66 = nI 1 := by
        rw [j6 0 66 rfl (by omega), zupN (by omega), zupE (by omega)]
      have iv : ivc ((zup g 12 0 0 3 (nI 0)) 12 0) (imgv (hm 12 0 69)) := fun q hq' => by
        have n3 : ¬ ((ic q).1 = 0 ∧ (ic q).2 = 3) := fun h => by
          have := ic_f hq'
          rw [h.1, h.2] at this
          cases this
        rw [zupN (by omega), j5 q hq']
        unfold imgv
        rw [ic_pos hq', zupN (by omega), zupN (by omega), zupN (by omega), zupN (by omega)]
      have m0 : zev L (d + 20) 284 0 [some (.inr (.inl (12, 0, 0))), some (.inl (nI 0)), none] [] hm = some (some (.inl (nI 1)), zup g 12 0 0 3 (nI 0)) := by
        have t : zev L (d + 20) 284 0 [some (.inr (.inl (12, 0, 0))), some (.inl (nI 0)), none] [] hm = zev L (d + 18 + 2) 284 33 [some (.inr (.inl (12, 0, 0))), some (.inl (nI 0)), none] [] (zup (zup (zup (zup hm 12 0 0 0 (nI 0)) 12 0 0 65 (nI 0)) 12 0 0 66 (nI 1)) 12 0 0 67 (nI 0)) := by
          simp (disch := first | omega | simp (disch := omega) only [nI_add, pk_mul, pk_sub, pk_div, znmod, nI_clamp, nIleT, nIleF, nIltT, nIltF, nIeqT, nIeqF, nIm1, nIm1q, zupE, zupN, vpT, nI_01, nI_11, ↓reduceIte, Option.bind_some, Option.toList_some, Option.toList_none, List.cons_append, List.nil_append, Nat.reduceAdd, Nat.reduceMul, Nat.reduceSub, Nat.reduceDiv, Nat.reduceMod, and_true, true_and, and_false, false_and, not_true_eq_false, not_false_eq_true, or_true, true_or, or_false, false_or, Int32.lt_irrefl, Int32.le_refl, h1]) only [nI_add, pk_mul, pk_sub, pk_div, znmod, nI_clamp, nIleT, nIleF, nIltT, nIltF, nIeqT, nIeqF, nIm1, nIm1q, zupE, zupN, vpT, nI_01, nI_11, ↓reduceIte, Option.bind_some, Option.toList_some, Option.toList_none, List.cons_append, List.nil_append, Nat.reduceAdd, Nat.reduceMul, Nat.reduceSub, Nat.reduceDiv, Nat.reduceMod, and_true, true_and, and_false, false_and, not_true_eq_false, not_false_eq_true, or_true, true_or, or_false, false_or, Int32.lt_irrefl, Int32.le_refl, h1, b284_0, b284_5, b284_9, b284_16, b284_18, b284_23, b284_28]
        refine t.trans ((e (d + 18)).trans ?_)
        simp (disch := first | omega | simp (disch := omega) only [nI_add, pk_mul, pk_sub, pk_div, znmod, nI_clamp, nIleT, nIleF, nIltT, nIltF, nIeqT, nIeqF, nIm1, nIm1q, zupE, zupN, vpT, nI_01, nI_11, ↓reduceIte, Option.bind_some, Option.toList_some, Option.toList_none, List.cons_append, List.nil_append, Nat.reduceAdd, Nat.reduceMul, Nat.reduceSub, Nat.reduceDiv, Nat.reduceMod, and_true, true_and, and_false, false_and, not_true_eq_false, not_false_eq_true, or_true, true_or, or_false, false_or, Int32.lt_irrefl, Int32.le_refl]) only [nI_add, pk_mul, pk_sub, pk_div, znmod, nI_clamp, nIleT, nIleF, nIltT, nIltF, nIeqT, nIeqF, nIm1, nIm1q, zupE, zupN, vpT, nI_01, nI_11, ↓reduceIte, Option.bind_some, Option.toList_some, Option.toList_none, List.cons_append, List.nil_append, Nat.reduceAdd, Nat.reduceMul, Nat.reduceSub, Nat.reduceDiv, Nat.reduceMod, and_true, true_and, and_false, false_and, not_true_eq_false, not_false_eq_true, or_true, true_or, or_false, false_or, Int32.lt_irrefl, Int32.le_refl, b284_106, b284_110, b284_115]
      have c0 : zev L (d + 20) 151 0 [some (.inr (.inl (11, 0, 0))), some (.inl (nI 0))] [] hc = some (some (.inl (nI 1)), zup hc1 4 0 0 2 (nI 0)) := by
        simp (disch := first | omega | simp (disch := omega) only [nI_add, pk_mul, pk_sub, pk_div, znmod, nI_clamp, nIleT, nIleF, nIltT, nIltF, nIeqT, nIeqF, nIm1, nIm1q, zupE, zupN, vpT, nI_01, nI_11, ↓reduceIte, Option.bind_some, Option.toList_some, Option.toList_none, List.cons_append, List.nil_append, Nat.reduceAdd, Nat.reduceMul, Nat.reduceSub, Nat.reduceDiv, Nat.reduceMod, and_true, true_and, and_false, false_and, not_true_eq_false, not_false_eq_true, or_true, true_or, or_false, false_or, Int32.lt_irrefl, Int32.le_refl, ri1, k1]) only [nI_add, pk_mul, pk_sub, pk_div, znmod, nI_clamp, nIleT, nIleF, nIltT, nIltF, nIeqT, nIeqF, nIm1, nIm1q, zupE, zupN, vpT, nI_01, nI_11, ↓reduceIte, Option.bind_some, Option.toList_some, Option.toList_none, List.cons_append, List.nil_append, Nat.reduceAdd, Nat.reduceMul, Nat.reduceSub, Nat.reduceDiv, Nat.reduceMod, and_true, true_and, and_false, false_and, not_true_eq_false, not_false_eq_true, or_true, true_or, or_false, false_or, Int32.lt_irrefl, Int32.le_refl, ri1, k1, b151_0, b151_22, b151_29, b151_31, b151_42, b151_49, b37_0, b37_5]
      rw [m0, c0]
      obtain ⟨n, C, hn, hC, p1, p2, p3, _⟩ := id ra
      have C3 : ∀ k i, k ≠ 4 → ¬ (k = 3 ∧ i = 0) → k ≠ 10 → ¬ (k = 2 ∧ i < 4) → ¬ (k = 8 ∧ i < 5) → (zup hc1 4 0 0 2 (nI 0)) k i = hc k i := fun k i a1 a2 a3 a4 a5 => by
        have e : (zup hc1 4 0 0 2 (nI 0)) k i = hc1 k i := by
          rw [zupK a1]
        rw [e, k3 k i a2 a3 (by omega) (by omega)]
      refine ⟨_, _, _, rfl, rfl, P', H', ?_, ?_, ?_, ?_, ?_, ?_⟩
      · have ek : ∀ k, k ≠ 4 → (zup hc1 4 0 0 2 (nI 0)) k = hc1 k := fun k hk => zupK hk
        rw [ek 3 (by omega), ek 10 (by omega), ek 2 (by omega), ek 8 (by omega)]
        exact k2 _ iv
      · refine ⟨n, 0, hn, by omega, ?_, ?_, ?_, fun k hk => absurd hk (Nat.not_lt_zero _)⟩
        · rw [zupN (by omega), k3 4 0 (by omega) (by omega) (by omega) (by omega)]; exact p1
        · rw [zupE (by omega)]
        · rw [zupE (by omega)]
      · rw [C3 7 0 (by omega) (by omega) (by omega) (by omega) (by omega)]
        have e12 : (zup g 12 0 0 3 (nI 0)) 12 0 12 = hm 12 0 12 := funext fun j => by rw [zupN (by omega), G 12 j rfl (by omega)]
        rw [e12, zupN (by omega), G 0 12 rfl (by omega)]
        exact rt
      · rw [C3 6 0 (by omega) (by omega) (by omega) (by omega) (by omega), zupN (by omega), zupN (by omega), G 0 32 rfl (by omega), G 0 33 rfl (by omega)]
        exact re
      · have e69 : (zup g 12 0 0 3 (nI 0)) 12 0 69 = hm 12 0 69 := funext fun j => by rw [zupN (by omega), G 69 j rfl (by omega)]
        have e10 : (zup hc1 4 0 0 2 (nI 0)) 10 1 = hc 10 1 := by
          rw [zupK (by omega), k4 1 (by omega)]
        rw [C3 3 1 (by omega) (by omega) (by omega) (by omega) (by omega), e10, C3 2 4 (by omega) (by omega) (by omega) (by omega) (by omega), C3 2 5 (by omega) (by omega) (by omega) (by omega) (by omega), C3 2 6 (by omega) (by omega) (by omega) (by omega) (by omega), C3 2 7 (by omega) (by omega) (by omega) (by omega) (by omega), C3 8 5 (by omega) (by omega) (by omega) (by omega) (by omega), C3 8 6 (by omega) (by omega) (by omega) (by omega) (by omega), C3 8 7 (by omega) (by omega) (by omega) (by omega) (by omega), C3 8 8 (by omega) (by omega) (by omega) (by omega) (by omega), C3 8 9 (by omega) (by omega) (by omega) (by omega) (by omega), C3 11 0 (by omega) (by omega) (by omega) (by omega) (by omega), e69, zupN (by omega), G66]
        rw [h1] at ri
        exact ri
      · obtain ⟨s1, s2, s3, s4, s5⟩ := rs
        have e18 : (zup g 12 0 0 3 (nI 0)) 12 0 18 = hm 12 0 18 := funext fun j => by rw [zupN (by omega), G 18 j rfl (by omega)]
        have e5 : (zup g 12 0 0 3 (nI 0)) 12 0 0 5 = hm 12 0 0 5 := by rw [zupN (by omega), G 0 5 rfl (by omega)]
        rw [C3 0 0 (by omega) (by omega) (by omega) (by omega) (by omega), C3 9 0 (by omega) (by omega) (by omega) (by omega) (by omega), C3 14 0 (by omega) (by omega) (by omega) (by omega) (by omega), C3 15 0 (by omega) (by omega) (by omega) (by omega) (by omega), e18, e5]
        refine ⟨s1, fun i hi => ?_, s3, s4, s5⟩
        rw [zupK (by omega), k5 i 1 (by omega), k5 i 2 (by omega)]
        exact s2 i hi
  · -- kept
    obtain ⟨hc1, k1, k2, k3, k4, k5⟩ := yWorld (L := L) (h := hc) (i0 := 1) (i1 := 0) (Or.inr ⟨rfl, rfl⟩) rW
    obtain ⟨g, I, e⟩ := im284 (L := L) (m := 1) (hm := zup (zup (zup (zup hm 12 0 0 0 (nI 0)) 12 0 0 65 (nI 1)) 12 0 0 66 (nI 1)) 12 0 0 67 (nI 0)) (Or.inr rfl) (by rw [zupN (by omega), zupN (by omega), zupE (by omega)]) (by rw [zupE (by omega)])
    obtain ⟨j1, j2, j3, _⟩ := I
    obtain ⟨j5, j6⟩ := j3 rfl
    have G : ∀ s j, s ≠ 69 → ¬ (s = 0 ∧ (j = 0 ∨ j = 65 ∨ j = 66 ∨ j = 67)) → g 12 0 s j = hm 12 0 s j := fun s j hs hn => by
      rw [j6 s j hs (by omega), zupN (by omega), zupN (by omega), zupN (by omega), zupN (by omega)]
    have G66 : g 12 0 0 66 = nI 1 := by
      rw [j6 0 66 (by omega) (by omega), zupN (by omega), zupE (by omega)]
    have Gs : ∀ s, s ≠ 69 → s ≠ 0 → g 12 0 s = hm 12 0 s := fun s h1 h2 => funext fun j => G s j h1 (by omega)
    have iv : ivc (imgv (g 12 0 69)) (hm 12 0) := fun q hq' => by
      have a := hq q hq'
      unfold imgv
      rw [ic_pos hq', j5 q hq', zupN (by omega), zupN (by omega), zupN (by omega), zupN (by omega)]
    have m0 : zev L (d + 20) 284 0 [some (.inr (.inl (12, 0, 0))), some (.inl (nI 1)), none] [] hm = some (some (.inl (nI 1)), g) := by
      have t : zev L (d + 20) 284 0 [some (.inr (.inl (12, 0, 0))), some (.inl (nI 1)), none] [] hm = zev L (d + 18 + 2) 284 33 [some (.inr (.inl (12, 0, 0))), some (.inl (nI 1)), none] [] (zup (zup (zup (zup hm 12 0 0 0 (nI 0)) 12 0 0 65 (nI 1)) 12 0 0 66 (nI 1)) 12 0 0 67 (nI 0)) := by
        simp (disch := first | omega | simp (disch := omega) only [nI_add, pk_mul, pk_sub, pk_div, znmod, nI_clamp, nIleT, nIleF, nIltT, nIltF, nIeqT, nIeqF, nIm1, nIm1q, zupE, zupN, vpT, nI_01, nI_11, ↓reduceIte, Option.bind_some, Option.toList_some, Option.toList_none, List.cons_append, List.nil_append, Nat.reduceAdd, Nat.reduceMul, Nat.reduceSub, Nat.reduceDiv, Nat.reduceMod, and_true, true_and, and_false, false_and, not_true_eq_false, not_false_eq_true, or_true, true_or, or_false, false_or, Int32.lt_irrefl, Int32.le_refl]) only [nI_add, pk_mul, pk_sub, pk_div, znmod, nI_clamp, nIleT, nIleF, nIltT, nIltF, nIeqT, nIeqF, nIm1, nIm1q, zupE, zupN, vpT, nI_01, nI_11, ↓reduceIte, Option.bind_some, Option.toList_some, Option.toList_none, List.cons_append, List.nil_append, Nat.reduceAdd, Nat.reduceMul, Nat.reduceSub, Nat.reduceDiv, Nat.reduceMod, and_true, true_and, and_false, false_and, not_true_eq_false, not_false_eq_true, or_true, true_or, or_false, false_or, Int32.lt_irrefl, Int32.le_refl, b284_0, b284_5, b284_9, b284_16, b284_18, b284_23, b284_28]
      refine t.trans ((e (d + 18)).trans ?_)
      simp (disch := first | omega | simp (disch := omega) only [nI_add, pk_mul, pk_sub, pk_div, znmod, nI_clamp, nIleT, nIleF, nIltT, nIltF, nIeqT, nIeqF, nIm1, nIm1q, zupE, zupN, vpT, nI_01, nI_11, ↓reduceIte, Option.bind_some, Option.toList_some, Option.toList_none, List.cons_append, List.nil_append, Nat.reduceAdd, Nat.reduceMul, Nat.reduceSub, Nat.reduceDiv, Nat.reduceMod, and_true, true_and, and_false, false_and, not_true_eq_false, not_false_eq_true, or_true, true_or, or_false, false_or, Int32.lt_irrefl, Int32.le_refl]) only [nI_add, pk_mul, pk_sub, pk_div, znmod, nI_clamp, nIleT, nIleF, nIltT, nIltF, nIeqT, nIeqF, nIm1, nIm1q, zupE, zupN, vpT, nI_01, nI_11, ↓reduceIte, Option.bind_some, Option.toList_some, Option.toList_none, List.cons_append, List.nil_append, Nat.reduceAdd, Nat.reduceMul, Nat.reduceSub, Nat.reduceDiv, Nat.reduceMod, and_true, true_and, and_false, false_and, not_true_eq_false, not_false_eq_true, or_true, true_or, or_false, false_or, Int32.lt_irrefl, Int32.le_refl, b284_106, b284_110, b284_115]
    have c0 : zev L (d + 20) 151 0 [some (.inr (.inl (11, 0, 0))), some (.inl (nI 1))] [] hc = some (some (.inl (nI 1)), zup hc1 11 0 0 9 (nI 1)) := by
      simp (disch := first | omega | simp (disch := omega) only [nI_add, pk_mul, pk_sub, pk_div, znmod, nI_clamp, nIleT, nIleF, nIltT, nIltF, nIeqT, nIeqF, nIm1, nIm1q, zupE, zupN, vpT, nI_01, nI_11, ↓reduceIte, Option.bind_some, Option.toList_some, Option.toList_none, List.cons_append, List.nil_append, Nat.reduceAdd, Nat.reduceMul, Nat.reduceSub, Nat.reduceDiv, Nat.reduceMod, and_true, true_and, and_false, false_and, not_true_eq_false, not_false_eq_true, or_true, true_or, or_false, false_or, Int32.lt_irrefl, Int32.le_refl, k1]) only [nI_add, pk_mul, pk_sub, pk_div, znmod, nI_clamp, nIleT, nIleF, nIltT, nIltF, nIeqT, nIeqF, nIm1, nIm1q, zupE, zupN, vpT, nI_01, nI_11, ↓reduceIte, Option.bind_some, Option.toList_some, Option.toList_none, List.cons_append, List.nil_append, Nat.reduceAdd, Nat.reduceMul, Nat.reduceSub, Nat.reduceDiv, Nat.reduceMod, and_true, true_and, and_false, false_and, not_true_eq_false, not_false_eq_true, or_true, true_or, or_false, false_or, Int32.lt_irrefl, Int32.le_refl, k1, b151_0, b151_4, b151_15, b151_20]
    rw [m0, c0]
    have C3 : ∀ k i, k ≠ 11 → ¬ (k = 3 ∧ i = 1) → k ≠ 10 → ¬ (k = 2 ∧ 4 ≤ i ∧ i < 8) → ¬ (k = 8 ∧ 5 ≤ i ∧ i < 10) → (zup hc1 11 0 0 9 (nI 1)) k i = hc k i := fun k i a1 a2 a3 a4 a5 => by
      have e : (zup hc1 11 0 0 9 (nI 1)) k i = hc1 k i := by
        rw [zupK a1]
      rw [e, k3 k i a2 a3 (by omega) (by omega)]
    have e10 : (zup hc1 11 0 0 9 (nI 1)) 10 0 = hc 10 0 := by
      rw [zupK (by omega), k4 0 (by omega)]
    refine ⟨_, _, _, rfl, rfl, P, H, ?_, ?_, ?_, ?_, ?_, ?_⟩
    · rw [C3 3 0 (by omega) (by omega) (by omega) (by omega) (by omega), e10, C3 2 0 (by omega) (by omega) (by omega) (by omega) (by omega), C3 2 1 (by omega) (by omega) (by omega) (by omega) (by omega), C3 2 2 (by omega) (by omega) (by omega) (by omega) (by omega), C3 2 3 (by omega) (by omega) (by omega) (by omega) (by omega), C3 8 0 (by omega) (by omega) (by omega) (by omega) (by omega), C3 8 1 (by omega) (by omega) (by omega) (by omega) (by omega), C3 8 2 (by omega) (by omega) (by omega) (by omega) (by omega), C3 8 3 (by omega) (by omega) (by omega) (by omega) (by omega), C3 8 4 (by omega) (by omega) (by omega) (by omega) (by omega)]
      refine RWv_cp rW ycp_r (fun _ _ => rfl) ⟨⟨rfl, fun _ _ => rfl⟩, fun _ _ h => ⟨h, fun _ _ => rfl⟩⟩ ⟨⟨rfl, fun _ _ => rfl⟩, fun h => h⟩ ⟨⟨rfl, fun _ _ => rfl⟩, fun h => h⟩ ⟨⟨rfl, fun _ _ => rfl⟩, fun h => h⟩ ⟨rfl, fun _ _ => rfl⟩ ⟨rfl, fun _ _ => rfl⟩ ⟨rfl, fun _ _ => rfl⟩ ⟨rfl, fun _ _ => rfl⟩ ⟨rfl, fun _ _ => rfl⟩ (fun q hq' => ?_)
      have a := hq q hq'
      exact G _ _ a.2 a.1
    · have : ∀ i, 3 ≤ i → i < 9 → (zup hc1 11 0 0 9 (nI 1)) 3 i = hc 3 i := fun i h1 h2 => C3 3 i (by omega) (by omega) (by omega) (by omega) (by omega)
      rw [C3 4 0 (by omega) (by omega) (by omega) (by omega) (by omega), Gs 3 (by omega) (by omega), Gs 9 (by omega) (by omega), Gs 10 (by omega) (by omega), G 0 3 (by omega) (by omega)]
      exact RPa_c this ra
    · rw [C3 7 0 (by omega) (by omega) (by omega) (by omega) (by omega), Gs 12 (by omega) (by omega), G 0 12 (by omega) (by omega)]
      exact rt
    · rw [C3 6 0 (by omega) (by omega) (by omega) (by omega) (by omega), G 0 32 (by omega) (by omega), G 0 33 (by omega) (by omega)]
      exact re
    · have e9 : (zup hc1 11 0 0 9 (nI 1)) 11 0 0 9 = nI 1 := zupE (by omega)
      have ek : ∀ k, k ≠ 11 → (zup hc1 11 0 0 9 (nI 1)) k = hc1 k := fun k hk => zupK hk
      rw [e9, G66, ek 3 (by omega), ek 10 (by omega), ek 2 (by omega), ek 8 (by omega)]
      exact ⟨rfl, Or.inr ⟨rfl, P, H, k2 _ iv⟩⟩
    · obtain ⟨s1, s2, s3, s4, s5⟩ := rs
      rw [C3 0 0 (by omega) (by omega) (by omega) (by omega) (by omega), C3 9 0 (by omega) (by omega) (by omega) (by omega) (by omega), C3 14 0 (by omega) (by omega) (by omega) (by omega) (by omega), C3 15 0 (by omega) (by omega) (by omega) (by omega) (by omega), Gs 18 (by omega) (by omega), G 0 5 (by omega) (by omega)]
      refine ⟨s1, fun i hi => ?_, s3, s4, s5⟩
      rw [zupK (by omega), k5 i 1 (by omega), k5 i 2 (by omega)]
      exact s2 i hi
end OI
