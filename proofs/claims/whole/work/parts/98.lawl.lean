/-! text: the law's lines -/
section TW
variable {L : Nat} {T t P H : Nat} {B : Nat → Nat} {h0c h0m hc hm : zH}
theorem Seg_lt {S O A : Nat → Int32} {n i i' j' : Nat} {ts ts2 : List Bool} (h : Seg S O A (n + 1) i i' ts j' ts2) : i' < j' := by
  obtain ⟨i1, ts1, q1, q2⟩ := h
  have := Seg_le q2
  unfold sgR at q1
  rcases q1 with ⟨_, _, _, _, _, e, _⟩ | ⟨_, _, _, _, _, e, _⟩ | ⟨_, _, _, _, _, _, _, _, e, _⟩ | ⟨_, _, _, _, _, e, _⟩ | ⟨_, _, _, _, _, e, _⟩ | ⟨_, _, _, e, _⟩ | ⟨_, _, _, _, _, e, _⟩ <;> omega
/-- line l of the law, with both -/
def yLn (sc mc : Nat) (C M : Nat → Nat → Int32) (l : Nat) : Prop := ∃ w f u t f' u' t', w ≤ 2 ∧ f ≤ u ∧ u ≤ t ∧ t ≤ sc ∧ f' ≤ u' ∧ u' ≤ t' ∧ t' ≤ mc ∧ C 1 (5 * l) = nI w ∧ C 1 (5 * l + 1) = nI f ∧ C 1 (5 * l + 2) = nI u ∧ C 1 (5 * l + 3) = nI t ∧ M 19 (32 + l) = nI w ∧ M 20 (32 + l) = nI f' ∧ M 21 (32 + l) = nI u' ∧ M 22 (32 + l) = nI t' ∧ Seg (C 2) (fun j => M 23 (800 + j)) (fun j => M 24 (800 + j)) (u - f) f f' [] u' [false] ∧ (u = t ∧ u' = t' ∨ u < t ∧ u' < t' ∧ Seg (C 2) (fun j => M 23 (800 + j)) (fun j => M 24 (800 + j)) (t - u) u u' [] t' [true])
theorem yLn_c {sc mc sc' mc' l n : Nat} {C M C' M' : Nat → Nat → Int32} (h : yLn sc mc C M l) (hl : l < n) (h1 : sc ≤ sc') (h2 : mc ≤ mc') (e1 : ∀ j, j < 5 * n → C' 1 j = C 1 j) (e2 : ∀ j, j < sc → C' 2 j = C 2 j) (e3 : ∀ s j, 19 ≤ s → s ≤ 22 → j < n → M' s (32 + j) = M s (32 + j)) (e4 : ∀ j, j < mc → M' 23 (800 + j) = M 23 (800 + j) ∧ M' 24 (800 + j) = M 24 (800 + j)) : yLn sc' mc' C' M' l := by
  obtain ⟨w, f, u, t, f', u', t', a1, a2, a3, a4, a5, a6, a7, b1, b2, b3, b4, c1, c2, c3, c4, s1, s2⟩ := h
  refine ⟨w, f, u, t, f', u', t', a1, a2, a3, by omega, a5, a6, by omega, by rw [e1 _ (by omega)]; exact b1, by rw [e1 _ (by omega)]; exact b2, by rw [e1 _ (by omega)]; exact b3, by rw [e1 _ (by omega)]; exact b4, by rw [e3 _ _ (by omega) (by omega) hl]; exact c1, by rw [e3 _ _ (by omega) (by omega) hl]; exact c2, by rw [e3 _ _ (by omega) (by omega) hl]; exact c3, by rw [e3 _ _ (by omega) (by omega) hl]; exact c4, ?_, ?_⟩
  · exact Seg_c (M := sc) (K := mc) e2 (fun j hj => (e4 j hj).1) (fun j hj => (e4 j hj).2) (by omega) _ _ _ _ s1 (by omega)
  · rcases s2 with s2 | ⟨s2, s3, s4⟩
    · exact Or.inl s2
    · exact Or.inr ⟨s2, s3, Seg_c (M := sc) (K := mc) e2 (fun j hj => (e4 j hj).1) (fun j hj => (e4 j hj).2) (by omega) _ _ _ _ s4 (by omega)⟩
theorem m198 {i : Nat} (S : yYS T t B P H h0c h0m i hc hm) (d : Nat) : zev L (d + 1) 198 0 [some (.inr (.inl (12, 0, 0)))] [] hm = some (some (.inl (if 267 ≤ yykd T B i ∧ yykd T B i ≤ 269 then nI 1 else nI 0)), hm) := by
  obtain ⟨_, _, _, _, _, _, _, _, _, ⟨_, _, c3⟩, _⟩ := S
  have hi : ∀ a, a < 27 → (yymc a ≤ 2 ↔ (11 ≤ a ∧ a ≤ 13)) := by decide +kernel
  have hl : ∀ a, a < 27 → yymc a < 27 := by decide +kernel
  rcases c3 with ⟨e, e1⟩ | ⟨e, e1⟩ | ⟨e, e1, e2⟩ | ⟨a, ha, e, e1, e2⟩ | ⟨a, ha, e, e1, e2⟩
  · rw [if_neg (by omega)]
    simp (disch := first | omega | simp (disch := omega) only [nI_add, pk_mul, pk_sub, pk_div, znmod, nI_clamp, nIleT, nIleF, nIltT, nIltF, nIeqT, nIeqF, nIm1, nIm1q, zupE, zupN, vpT, nI_01, nI_11, ↓reduceIte, Option.bind_some, Option.toList_some, Option.toList_none, List.cons_append, List.nil_append, Nat.reduceAdd, Nat.reduceMul, Nat.reduceSub, Nat.reduceDiv, Nat.reduceMod, and_true, true_and, and_false, false_and, not_true_eq_false, not_false_eq_true, or_true, true_or, or_false, false_or, Int32.lt_irrefl, Int32.le_refl, e1]) only [nI_add, pk_mul, pk_sub, pk_div, znmod, nI_clamp, nIleT, nIleF, nIltT, nIltF, nIeqT, nIeqF, nIm1, nIm1q, zupE, zupN, vpT, nI_01, nI_11, ↓reduceIte, Option.bind_some, Option.toList_some, Option.toList_none, List.cons_append, List.nil_append, Nat.reduceAdd, Nat.reduceMul, Nat.reduceSub, Nat.reduceDiv, Nat.reduceMod, and_true, true_and, and_false, false_and, not_true_eq_false, not_false_eq_true, or_true, true_or, or_false, false_or, Int32.lt_irrefl, Int32.le_refl, e1, b198_0, b198_8, b198_18, b198_21, b198_25, b198_26]
  · rw [if_neg (by omega)]
    simp (disch := first | omega | simp (disch := omega) only [nI_add, pk_mul, pk_sub, pk_div, znmod, nI_clamp, nIleT, nIleF, nIltT, nIltF, nIeqT, nIeqF, nIm1, nIm1q, zupE, zupN, vpT, nI_01, nI_11, ↓reduceIte, Option.bind_some, Option.toList_some, Option.toList_none, List.cons_append, List.nil_append, Nat.reduceAdd, Nat.reduceMul, Nat.reduceSub, Nat.reduceDiv, Nat.reduceMod, and_true, true_and, and_false, false_and, not_true_eq_false, not_false_eq_true, or_true, true_or, or_false, false_or, Int32.lt_irrefl, Int32.le_refl, e1]) only [nI_add, pk_mul, pk_sub, pk_div, znmod, nI_clamp, nIleT, nIleF, nIltT, nIltF, nIeqT, nIeqF, nIm1, nIm1q, zupE, zupN, vpT, nI_01, nI_11, ↓reduceIte, Option.bind_some, Option.toList_some, Option.toList_none, List.cons_append, List.nil_append, Nat.reduceAdd, Nat.reduceMul, Nat.reduceSub, Nat.reduceDiv, Nat.reduceMod, and_true, true_and, and_false, false_and, not_true_eq_false, not_false_eq_true, or_true, true_or, or_false, false_or, Int32.lt_irrefl, Int32.le_refl, e1, b198_0, b198_8, b198_18, b198_21, b198_25, b198_26]
  · simp only [yyS, List.contains_cons, List.contains_nil, Bool.or_false, Bool.or_eq_true, beq_iff_eq] at e
    rw [if_neg (by omega)]
    simp (disch := first | omega | simp (disch := omega) only [nI_add, pk_mul, pk_sub, pk_div, znmod, nI_clamp, nIleT, nIleF, nIltT, nIltF, nIeqT, nIeqF, nIm1, nIm1q, zupE, zupN, vpT, nI_01, nI_11, ↓reduceIte, Option.bind_some, Option.toList_some, Option.toList_none, List.cons_append, List.nil_append, Nat.reduceAdd, Nat.reduceMul, Nat.reduceSub, Nat.reduceDiv, Nat.reduceMod, and_true, true_and, and_false, false_and, not_true_eq_false, not_false_eq_true, or_true, true_or, or_false, false_or, Int32.lt_irrefl, Int32.le_refl, e1]) only [nI_add, pk_mul, pk_sub, pk_div, znmod, nI_clamp, nIleT, nIleF, nIltT, nIltF, nIeqT, nIeqF, nIm1, nIm1q, zupE, zupN, vpT, nI_01, nI_11, ↓reduceIte, Option.bind_some, Option.toList_some, Option.toList_none, List.cons_append, List.nil_append, Nat.reduceAdd, Nat.reduceMul, Nat.reduceSub, Nat.reduceDiv, Nat.reduceMod, and_true, true_and, and_false, false_and, not_true_eq_false, not_false_eq_true, or_true, true_or, or_false, false_or, Int32.lt_irrefl, Int32.le_refl, e1, b198_0, b198_8, b198_18, b198_21, b198_25, b198_26]
  · have l2 := hl a ha
    have l3 := hi a ha
    by_cases n : 11 ≤ a ∧ a ≤ 13
    · have l4 := l3.2 n
      rw [if_pos (by omega)]
      simp (disch := first | omega | simp (disch := omega) only [nI_add, pk_mul, pk_sub, pk_div, znmod, nI_clamp, nIleT, nIleF, nIltT, nIltF, nIeqT, nIeqF, nIm1, nIm1q, zupE, zupN, vpT, nI_01, nI_11, ↓reduceIte, Option.bind_some, Option.toList_some, Option.toList_none, List.cons_append, List.nil_append, Nat.reduceAdd, Nat.reduceMul, Nat.reduceSub, Nat.reduceDiv, Nat.reduceMod, and_true, true_and, and_false, false_and, not_true_eq_false, not_false_eq_true, or_true, true_or, or_false, false_or, Int32.lt_irrefl, Int32.le_refl, e1, e2, mIn]) only [nI_add, pk_mul, pk_sub, pk_div, znmod, nI_clamp, nIleT, nIleF, nIltT, nIltF, nIeqT, nIeqF, nIm1, nIm1q, zupE, zupN, vpT, nI_01, nI_11, ↓reduceIte, Option.bind_some, Option.toList_some, Option.toList_none, List.cons_append, List.nil_append, Nat.reduceAdd, Nat.reduceMul, Nat.reduceSub, Nat.reduceDiv, Nat.reduceMod, and_true, true_and, and_false, false_and, not_true_eq_false, not_false_eq_true, or_true, true_or, or_false, false_or, Int32.lt_irrefl, Int32.le_refl, e1, e2, mIn, b198_0, b198_8, b198_18, b198_21, b198_25, b198_26]
    · have l4 : ¬ yymc a ≤ 2 := fun q => n (l3.1 q)
      rw [if_neg (by omega)]
      simp (disch := first | omega | simp (disch := omega) only [nI_add, pk_mul, pk_sub, pk_div, znmod, nI_clamp, nIleT, nIleF, nIltT, nIltF, nIeqT, nIeqF, nIm1, nIm1q, zupE, zupN, vpT, nI_01, nI_11, ↓reduceIte, Option.bind_some, Option.toList_some, Option.toList_none, List.cons_append, List.nil_append, Nat.reduceAdd, Nat.reduceMul, Nat.reduceSub, Nat.reduceDiv, Nat.reduceMod, and_true, true_and, and_false, false_and, not_true_eq_false, not_false_eq_true, or_true, true_or, or_false, false_or, Int32.lt_irrefl, Int32.le_refl, e1, e2, mIn]) only [nI_add, pk_mul, pk_sub, pk_div, znmod, nI_clamp, nIleT, nIleF, nIltT, nIltF, nIeqT, nIeqF, nIm1, nIm1q, zupE, zupN, vpT, nI_01, nI_11, ↓reduceIte, Option.bind_some, Option.toList_some, Option.toList_none, List.cons_append, List.nil_append, Nat.reduceAdd, Nat.reduceMul, Nat.reduceSub, Nat.reduceDiv, Nat.reduceMod, and_true, true_and, and_false, false_and, not_true_eq_false, not_false_eq_true, or_true, true_or, or_false, false_or, Int32.lt_irrefl, Int32.le_refl, e1, e2, mIn, b198_0, b198_8, b198_18, b198_21, b198_25, b198_26]
  · rw [if_neg (by omega)]
    simp (disch := first | omega | simp (disch := omega) only [nI_add, pk_mul, pk_sub, pk_div, znmod, nI_clamp, nIleT, nIleF, nIltT, nIltF, nIeqT, nIeqF, nIm1, nIm1q, zupE, zupN, vpT, nI_01, nI_11, ↓reduceIte, Option.bind_some, Option.toList_some, Option.toList_none, List.cons_append, List.nil_append, Nat.reduceAdd, Nat.reduceMul, Nat.reduceSub, Nat.reduceDiv, Nat.reduceMod, and_true, true_and, and_false, false_and, not_true_eq_false, not_false_eq_true, or_true, true_or, or_false, false_or, Int32.lt_irrefl, Int32.le_refl, e1]) only [nI_add, pk_mul, pk_sub, pk_div, znmod, nI_clamp, nIleT, nIleF, nIltT, nIltF, nIeqT, nIeqF, nIm1, nIm1q, zupE, zupN, vpT, nI_01, nI_11, ↓reduceIte, Option.bind_some, Option.toList_some, Option.toList_none, List.cons_append, List.nil_append, Nat.reduceAdd, Nat.reduceMul, Nat.reduceSub, Nat.reduceDiv, Nat.reduceMod, and_true, true_and, and_false, false_and, not_true_eq_false, not_false_eq_true, or_true, true_or, or_false, false_or, Int32.lt_irrefl, Int32.le_refl, e1, b198_0, b198_8, b198_18, b198_21, b198_25, b198_26]
theorem kPut8 {d n w : Nat} {x : Int32} (en : hc 2 8 0 2 = nI n) (hn : n < 16) (hw : w < 5) : zev L d 20 0 [some (.inr (.inl (2, 8, 0))), some (.inl (nI w)), some (.inl x)] [] hc = some (none, zup hc 2 8 1 (5 * n + w) x) := by
  have em : n * 5 + w = 5 * n + w := by omega
  simp (disch := first | omega | simp (disch := omega) only [nI_add, pk_mul, pk_sub, pk_div, znmod, nI_clamp, nIleT, nIleF, nIltT, nIltF, nIeqT, nIeqF, nIm1, nIm1q, zupE, zupN, vpT, nI_01, nI_11, ↓reduceIte, Option.bind_some, Option.toList_some, Option.toList_none, List.cons_append, List.nil_append, Nat.reduceAdd, Nat.reduceMul, Nat.reduceSub, Nat.reduceDiv, Nat.reduceMod, and_true, true_and, and_false, false_and, not_true_eq_false, not_false_eq_true, or_true, true_or, or_false, false_or, Int32.lt_irrefl, Int32.le_refl, en, em]) only [nI_add, pk_mul, pk_sub, pk_div, znmod, nI_clamp, nIleT, nIleF, nIltT, nIltF, nIeqT, nIeqF, nIm1, nIm1q, zupE, zupN, vpT, nI_01, nI_11, ↓reduceIte, Option.bind_some, Option.toList_some, Option.toList_none, List.cons_append, List.nil_append, Nat.reduceAdd, Nat.reduceMul, Nat.reduceSub, Nat.reduceDiv, Nat.reduceMod, and_true, true_and, and_false, false_and, not_true_eq_false, not_false_eq_true, or_true, true_or, or_false, false_or, Int32.lt_irrefl, Int32.le_refl, en, em, b20_0, b20_9, b20_23]
theorem yCp_8 {s j s' j' : Nat} {v : Int32} : (zup hc 2 8 s j v) 2 8 s' j' = if s' = s ∧ j' = j then v else hc 2 8 s' j' := by
  by_cases c : s' = s ∧ j' = j
  · rw [if_pos c, zupE (by omega)]
  · rw [if_neg c, zupN (by omega)]
theorem yRp {s j s' j' : Nat} {v : Int32} : yRw (zup hm 12 0 (s + 1) j v) s' j' = if s' = s ∧ j' = j then v else yRw hm s' j' := by
  unfold yRw
  by_cases c : s' = s ∧ j' = j
  · rw [if_pos c, zupE (by omega)]
  · rw [if_neg c, zupN (by omega)]
theorem yRp0 {j s' j' : Nat} {v : Int32} : yRw (zup hm 12 0 0 j v) s' j' = yRw hm s' j' := by
  unfold yRw; rw [zupN (by omega)]
/-- the law's lines so far -/
def yTl (T t : Nat) (B : Nat → Nat) (P H : Nat) (h0c h0m : zH) (n i : Nat) (hc : zH) (x : zH × Option zV) : Prop := yYS T t B P H h0c h0m i hc x.1 ∧ hc 2 8 0 2 = nI n ∧ x.1 12 0 0 27 = nI 0 ∧ ∃ sc mc, yLS sc mc hc x.1 ∧ mc ≤ i ∧ ∀ l, l < n → yLn sc mc (hc 2 8) (yRw x.1) l
theorem yLaw1 (G : yGl T t B P H h0m) {n i : Nat} {a2 : Option zV} (hn : n ≤ 16) (s : yTl T t B P H h0c h0m n i hc (hm, a2)) : (yykd T B i = 0 → ∀ d, zev L (d + 8) 199 2 [some (.inr (.inl (12, 0, 0))), some (.inl (nI n)), a2] [] hm = some (some (.inl (nI n)), hm)) ∧ (yykd T B i ≠ 0 →
      (∃ hc' hm', (∀ d, zev L (d + 25) 67 0 [some (.inr (.inl (6, 0, 0))), none] [] hc = some (some (.inl (nI 0)), hc')) ∧ (∀ d, zev L (d + 8) 199 2 [some (.inr (.inl (12, 0, 0))), some (.inl (nI n)), a2] [] hm = some (some (.inl (-1)), hm')) ∧ yYF h0c h0m hc' hm') ∨
      (∃ i' hc' x', n < 16 ∧ (∀ d, zev L (d + 25) 67 0 [some (.inr (.inl (6, 0, 0))), none] [] hc = some (some (.inl (nI 1)), hc')) ∧ hc' 2 8 0 2 = nI n ∧ (∀ d, zev L (d + 8) 199 2 [some (.inr (.inl (12, 0, 0))), some (.inl (nI n)), a2] [] hm = zev L (d + 8) 199 2 [some (.inr (.inl (12, 0, 0))), some (.inl (nI (n + 1))), x'.2] [] x'.1) ∧ yTl T t B P H h0c h0m (n + 1) i' (zup hc' 2 8 0 2 (nI (n + 1))) x')) := by
  obtain ⟨S, en, e27, sc, mc, l, hw, hj⟩ := s
  simp only [] at S e27 l hj
  have mw := fun d => m198 (L := L) S d
  have kb := fun d => yBeg (L := L) (a := 267) (b := 269) G S hn en (by omega) (by omega) (by omega) d
  have b3 := S.2.2.1
  have bK := yYS_b S
  obtain ⟨t0, t1⟩ := yEnd S
  obtain ⟨f1, f2, f3⟩ := yFail (L := L) (f := 1) G S
  obtain ⟨h1, h2, h3⟩ := yFail (L := L) (f := 3) G S
  have g1 := G.1
  have g2 := G.2.1
  refine ⟨fun c d => ?_, fun c => ?_⟩
  · have e15 := t0 c
    simp only [if_neg (show ¬ (267 ≤ yykd T B i ∧ yykd T B i ≤ 269) by omega)] at mw
    refine b199_2.trans ?_
    simp (disch := first | omega | simp (disch := omega) only [nI_add, pk_mul, pk_sub, pk_div, znmod, nI_clamp, nIleT, nIleF, nIltT, nIltF, nIeqT, nIeqF, nIm1, nIm1q, zupE, zupN, vpT, nI_01, nI_11, ↓reduceIte, Option.bind_some, Option.toList_some, Option.toList_none, List.cons_append, List.nil_append, Nat.reduceAdd, Nat.reduceMul, Nat.reduceSub, Nat.reduceDiv, Nat.reduceMod, and_true, true_and, and_false, false_and, not_true_eq_false, not_false_eq_true, or_true, true_or, or_false, false_or, Int32.lt_irrefl, Int32.le_refl, mw, e15]) only [nI_add, pk_mul, pk_sub, pk_div, znmod, nI_clamp, nIleT, nIleF, nIltT, nIltF, nIeqT, nIeqF, nIm1, nIm1q, zupE, zupN, vpT, nI_01, nI_11, ↓reduceIte, Option.bind_some, Option.toList_some, Option.toList_none, List.cons_append, List.nil_append, Nat.reduceAdd, Nat.reduceMul, Nat.reduceSub, Nat.reduceDiv, Nat.reduceMod, and_true, true_and, and_false, false_and, not_true_eq_false, not_false_eq_true, or_true, true_or, or_false, false_or, Int32.lt_irrefl, Int32.le_refl, mw, e15, b199_6, b199_128, b199_135, b199_144]
  · by_cases cr : 267 ≤ yykd T B i ∧ yykd T B i ≤ 269
    · simp only [if_pos cr] at mw kb
      by_cases c16 : n < 16
      · simp only [if_pos c16] at kb
        obtain ⟨wd, hwd, ewd⟩ : ∃ w, w ≤ 2 ∧ yykd T B i = 267 + w := ⟨yykd T B i - 267, by omega, by omega⟩
        have v16 : hm 12 0 0 16 = nI wd := by
          obtain ⟨_, _, _, _, _, _, _, _, _, ⟨_, _, c3⟩, _⟩ := S
          rcases c3 with ⟨e, e1⟩ | ⟨e, e1⟩ | ⟨e, e1, e2⟩ | ⟨a, ha, e, e1, e2⟩ | ⟨a, ha, e, e1, e2⟩
          · omega
          · omega
          · simp only [yyS, List.contains_cons, List.contains_nil, Bool.or_false, Bool.or_eq_true, beq_iff_eq] at e; omega
          · rw [e2]
            have : a = 11 + wd := by omega
            subst this
            unfold yymc
            rw [if_neg (by omega), if_pos (by omega)]
            congr 1
            omega
          · omega
        rw [ewd] at b3
        have x0 : 267 + wd - 267 = wd := by omega
        -- the word
        have S0 := yYS_m (s := 20) (j := 32 + n) (v := nI wd) S (Or.inr (Or.inl (by omega)))
        obtain ⟨m1, n1, n2, S1, F1, it⟩ := yNext (L := L) G S0 (by omega)
        have en1 : (yNx T B i hc) 2 8 0 2 = nI n := by rw [yNx_k (by omega)]; exact en
        have p0 := fun d => kPut8 (L := L) (d := d) (w := 0) (x := nI wd) en1 c16 (by omega)
        have en2 : (zup (yNx T B i hc) 2 8 1 (5 * n + 0) (nI wd)) 2 8 0 2 = nI n := by rw [zupN (by omega)]; exact en1
        have es2 : (zup (yNx T B i hc) 2 8 1 (5 * n + 0) (nI wd)) 2 8 0 3 = nI sc := by rw [zupN (by omega), yNx_k (by omega)]; exact l.1
        have es1 : (yNx T B i hc) 2 8 0 3 = nI sc := by rw [yNx_k (by omega)]; exact l.1
        have p1 := fun d => kPut8 (L := L) (d := d) (w := 1) (x := nI sc) en2 c16 (by omega)
        have em1 : m1 12 0 0 26 = nI mc := by rw [F1 12 0 0 26 (by omega), zupN (by omega)]; exact l.2.1
        have S2 := yYS_m (s := 21) (j := 32 + n) (v := nI mc) (yYS_c (s := 1) (j := 5 * n + 1) (v := nI sc) (yYS_c (s := 1) (j := 5 * n + 0) (v := nI wd) S1 (by omega)) (by omega)) (Or.inr (Or.inl (by omega)))
        have l2 : yLS sc mc (zup (zup (yNx T B i hc) 2 8 1 (5 * n + 0) (nI wd)) 2 8 1 (5 * n + 1) (nI sc)) (zup m1 12 0 21 (32 + n) (nI mc)) := ⟨by rw [zupN (by omega)]; exact es2, by rw [zupN (by omega)]; exact em1, l.2.2⟩
        -- the cells before the sum
        have c2 : ∀ s j, (zup (zup (yNx T B i hc) 2 8 1 (5 * n + 0) (nI wd)) 2 8 1 (5 * n + 1) (nI sc)) 2 8 s j = if s = 1 ∧ j = 5 * n + 1 then nI sc else if s = 1 ∧ j = 5 * n + 0 then nI wd else hc 2 8 s j := fun s j => by rw [yCp_8, yCp_8, yNx_k (by omega)]
        have r2 : ∀ s j, yRw (zup m1 12 0 21 (32 + n) (nI mc)) s j = if s = 20 ∧ j = 32 + n then nI mc else if s = 19 ∧ j = 32 + n then nI wd else yRw hm s j := fun s j => by rw [yRp, yRw_F F1, yRp]
        have e27' : (zup m1 12 0 21 (32 + n) (nI mc)) 12 0 0 27 = nI 0 := by rw [zupN (by omega), F1 12 0 0 27 (by omega), zupN (by omega)]; exact e27
        rcases ySum (L := L) (w := 0) (ts := []) G S2 l2 (by omega) (by show 0 + 3 < 40; omega) with ⟨i4, sc4, mc4, hc4, hm4, q1, k4, r4, S4, l4, w4, x4, pf4⟩ | ⟨hc4, hm4, k4, r4, F⟩
        · have y4 := x4
          obtain ⟨y1, y2, y3, y5, y6, y7, y8⟩ := x4
          have en4 : hc4 2 8 0 2 = nI n := by rw [y6 0 2 (by omega) (by omega), c2, if_neg (by omega), if_neg (by omega)]; exact en
          have p2 := fun d => kPut8 (L := L) (d := d) (w := 2) (x := nI sc4) en4 c16 (by omega)
          have S5 := yYS_m (s := 22) (j := 32 + n) (v := nI mc4) (yYS_c (s := 1) (j := 5 * n + 2) (v := nI sc4) S4 (by omega)) (Or.inr (Or.inl (by omega)))
          have d5 := S5.2.2.1
          have bK5 := yYS_b S5
          have mwh := fun d => yTw (L := L) (c := 14) S5 (by omega) d
          rw [show yymc 14 = 3 from rfl] at mwh
          have es4 := l4.1
          have em4 := l4.2.1
          have i4t := S4.1
          -- the cells after the sum
          have c5 : ∀ s j, (zup hc4 2 8 1 (5 * n + 2) (nI sc4)) 2 8 s j = if s = 1 ∧ j = 5 * n + 2 then nI sc4 else hc4 2 8 s j := fun s j => yCp_8
          have r5 : ∀ s j, yRw (zup hm4 12 0 22 (32 + n) (nI mc4)) s j = if s = 21 ∧ j = 32 + n then nI mc4 else yRw hm4 s j := fun s j => yRp
          have e275 : (zup hm4 12 0 22 (32 + n) (nI mc4)) 12 0 0 27 = nI 0 := by rw [zupN (by omega), pf4.2.1]; exact e27'
          -- how a line ends
          have fin : ∀ (i7 sc7 mc7 : Nat) (hc7 hm7 : zH) (a7 : Option zV), yYS T t B P H h0c h0m i7 hc7 hm7 → yLS sc7 mc7 hc7 hm7 → mc7 ≤ i7 → hm7 12 0 0 27 = nI 0 → sc4 ≤ sc7 → mc4 ≤ mc7 → (∀ j, j < sc4 → hc7 2 8 2 j = hc4 2 8 2 j) → (∀ j, j < mc4 → yRw hm7 23 (800 + j) = yRw hm4 23 (800 + j) ∧ yRw hm7 24 (800 + j) = yRw hm4 24 (800 + j)) → (∀ s j, s ≠ 2 → ¬ (s = 0 ∧ j = 3) → hc7 2 8 s j = (zup hc4 2 8 1 (5 * n + 2) (nI sc4)) 2 8 s j) → (∀ s j, 19 ≤ s → s ≤ 22 → yRw hm7 s j = yRw (zup hm4 12 0 22 (32 + n) (nI mc4)) s j) → (sc4 = sc7 ∧ mc4 = mc7 ∨ Seg (hc7 2 8 2) (fun j => yRw hm7 23 (800 + j)) (fun j => yRw hm7 24 (800 + j)) (sc7 - sc4) sc4 mc4 [] mc7 [true]) →
              (∀ d, zev L (d + 25) 67 0 [some (.inr (.inl (6, 0, 0))), none] [] hc = zev L (d + 25) 67 96 [some (.inr (.inl (6, 0, 0))), some (.inl (nI wd))] [] hc7) → (∀ d, zev L (d + 8) 199 2 [some (.inr (.inl (12, 0, 0))), some (.inl (nI n)), a2] [] hm = zev L (d + 8) 199 92 [some (.inr (.inl (12, 0, 0))), some (.inl (nI n)), some (.inl (nI (32+n)))] [] hm7) →
              (∃ hc' hm', (∀ d, zev L (d + 25) 67 0 [some (.inr (.inl (6, 0, 0))), none] [] hc = some (some (.inl (nI 0)), hc')) ∧ (∀ d, zev L (d + 8) 199 2 [some (.inr (.inl (12, 0, 0))), some (.inl (nI n)), a2] [] hm = some (some (.inl (-1)), hm')) ∧ yYF h0c h0m hc' hm') ∨
              (∃ i' hc' x', n < 16 ∧ (∀ d, zev L (d + 25) 67 0 [some (.inr (.inl (6, 0, 0))), none] [] hc = some (some (.inl (nI 1)), hc')) ∧ hc' 2 8 0 2 = nI n ∧ (∀ d, zev L (d + 8) 199 2 [some (.inr (.inl (12, 0, 0))), some (.inl (nI n)), a2] [] hm = zev L (d + 8) 199 2 [some (.inr (.inl (12, 0, 0))), some (.inl (nI (n + 1))), x'.2] [] x'.1) ∧ yTl T t B P H h0c h0m (n + 1) i' (zup hc' 2 8 0 2 (nI (n + 1))) x') := by
            intro i7 sc7 mc7 hc7 hm7 a7 S7 l7 w7 e277 z1 z2 z3 z4 z5 z6 z7 ck mk
            have i7t := S7.1
            have en7 : hc7 2 8 0 2 = nI n := by rw [z5 0 2 (by omega) (by omega), c5, if_neg (by omega)]; exact en4
            have es7 := l7.1
            have em7 := l7.2.1
            have p3 := fun d => kPut8 (L := L) (d := d) (w := 3) (x := nI sc7) en7 c16 (by omega)
            have S8 := yYS_m (s := 23) (j := 32 + n) (v := nI mc7) (yYS_c (s := 1) (j := 5 * n + 3) (v := nI sc7) S7 (by omega)) (Or.inr (Or.inl (by omega)))
            have kp := fun d => yPass (L := L) (K := 59) G S8 (by omega) (by omega) d
            have ms := fun d => yTs (L := L) (c := 59) S8 rfl d
            by_cases c59 : yykd T B i7 = 59
            · simp only [if_pos c59] at kp ms
              obtain ⟨m9, u1, u2, S9, F9, it9⟩ := yNext (L := L) G S8 (by omega)
              refine Or.inr ⟨i7 + 1, yNx T B i7 (zup hc7 2 8 1 (5 * n + 3) (nI sc7)), (m9, some (.inl (nI (32 + n)))), c16, fun d => (ck d).trans ?_, by rw [yNx_k (by omega), zupN (by omega)]; exact en7, fun d => (mk d).trans ?_, yYS_c S9 (by omega), by rw [zupE (by omega)], ?_, sc7, mc7, ⟨?_, ?_, l7.2.2⟩, by omega, fun l hl => ?_⟩
              · rw [b67_96]
                simp (disch := first | omega | simp (disch := omega) only [nI_add, pk_mul, pk_sub, pk_div, znmod, nI_clamp, nIleT, nIleF, nIltT, nIltF, nIeqT, nIeqF, nIm1, nIm1q, zupE, zupN, vpT, nI_01, nI_11, ↓reduceIte, Option.bind_some, Option.toList_some, Option.toList_none, List.cons_append, List.nil_append, Nat.reduceAdd, Nat.reduceMul, Nat.reduceSub, Nat.reduceDiv, Nat.reduceMod, and_true, true_and, and_false, false_and, not_true_eq_false, not_false_eq_true, or_true, true_or, or_false, false_or, Int32.lt_irrefl, Int32.le_refl, es7, p3, kp]) only [nI_add, pk_mul, pk_sub, pk_div, znmod, nI_clamp, nIleT, nIleF, nIltT, nIltF, nIeqT, nIeqF, nIm1, nIm1q, zupE, zupN, vpT, nI_01, nI_11, ↓reduceIte, Option.bind_some, Option.toList_some, Option.toList_none, List.cons_append, List.nil_append, Nat.reduceAdd, Nat.reduceMul, Nat.reduceSub, Nat.reduceDiv, Nat.reduceMod, and_true, true_and, and_false, false_and, not_true_eq_false, not_false_eq_true, or_true, true_or, or_false, false_or, Int32.lt_irrefl, Int32.le_refl, es7, p3, kp, b67_111, b67_117]
              · rw [b199_92 (vp_in_nI (by omega) (by omega))]
                simp (disch := first | omega | simp (disch := omega) only [nI_add, pk_mul, pk_sub, pk_div, znmod, nI_clamp, nIleT, nIleF, nIltT, nIltF, nIeqT, nIeqF, nIm1, nIm1q, zupE, zupN, vpT, nI_01, nI_11, ↓reduceIte, Option.bind_some, Option.toList_some, Option.toList_none, List.cons_append, List.nil_append, Nat.reduceAdd, Nat.reduceMul, Nat.reduceSub, Nat.reduceDiv, Nat.reduceMod, and_true, true_and, and_false, false_and, not_true_eq_false, not_false_eq_true, or_true, true_or, or_false, false_or, Int32.lt_irrefl, Int32.le_refl, em7, ms, u2]) only [nI_add, pk_mul, pk_sub, pk_div, znmod, nI_clamp, nIleT, nIleF, nIltT, nIltF, nIeqT, nIeqF, nIm1, nIm1q, zupE, zupN, vpT, nI_01, nI_11, ↓reduceIte, Option.bind_some, Option.toList_some, Option.toList_none, List.cons_append, List.nil_append, Nat.reduceAdd, Nat.reduceMul, Nat.reduceSub, Nat.reduceDiv, Nat.reduceMod, and_true, true_and, and_false, false_and, not_true_eq_false, not_false_eq_true, or_true, true_or, or_false, false_or, Int32.lt_irrefl, Int32.le_refl, em7, ms, u2, b199_102, b199_108, b199_117, b199_121]
              · show m9 12 0 0 27 = nI 0
                rw [F9 12 0 0 27 (by omega), zupN (by omega)]; exact e277
              · rw [zupN (by omega), yNx_k (by omega), zupN (by omega)]; exact es7
              · show m9 12 0 0 26 = nI mc7
                rw [F9 12 0 0 26 (by omega), zupN (by omega)]; exact em7
              · have cc : ∀ s j, (zup (yNx T B i7 (zup hc7 2 8 1 (5 * n + 3) (nI sc7))) 2 8 0 2 (nI (n + 1))) 2 8 s j = if s = 0 ∧ j = 2 then nI (n + 1) else if s = 1 ∧ j = 5 * n + 3 then nI sc7 else hc7 2 8 s j := fun s j => by rw [yCp_8, yNx_k (by omega), yCp_8]
                have rr : ∀ s j, yRw m9 s j = if s = 22 ∧ j = 32 + n then nI mc7 else yRw hm7 s j := fun s j => by rw [yRw_F F9, yRp]
                have cc2 : ∀ j, (zup (yNx T B i7 (zup hc7 2 8 1 (5 * n + 3) (nI sc7))) 2 8 0 2 (nI (n + 1))) 2 8 2 j = hc7 2 8 2 j := fun j => by rw [cc, if_neg (by omega), if_neg (by omega)]
                have rr3 : ∀ j, yRw m9 23 j = yRw hm7 23 j := fun j => by rw [rr, if_neg (by omega)]
                have rr4 : ∀ j, yRw m9 24 j = yRw hm7 24 j := fun j => by rw [rr, if_neg (by omega)]
                -- the cells 1 of the class and lines of the reference, from the start
                have c71 : ∀ j, hc7 2 8 1 j = if j = 5 * n + 2 then nI sc4 else if j = 5 * n + 1 then nI sc else if j = 5 * n then nI wd else hc 2 8 1 j := fun j => by
                  rw [z5 1 j (by omega) (by omega), c5]
                  by_cases j2 : j = 5 * n + 2
                  · rw [if_pos ⟨rfl, j2⟩, if_pos j2]
                  · rw [if_neg (fun q => j2 q.2), if_neg j2, y6 1 j (by omega) (by omega), c2]
                    by_cases j1 : j = 5 * n + 1
                    · rw [if_pos ⟨rfl, j1⟩, if_pos j1]
                    · rw [if_neg (fun q => j1 q.2), if_neg j1]
                      by_cases j0 : j = 5 * n
                      · rw [if_pos ⟨rfl, j0⟩, if_pos j0]
                      · rw [if_neg (fun q => j0 q.2), if_neg j0]
                have r7 : ∀ s j, 19 ≤ s → s ≤ 22 → yRw hm7 s j = if s = 21 ∧ j = 32 + n then nI mc4 else if s = 20 ∧ j = 32 + n then nI mc else if s = 19 ∧ j = 32 + n then nI wd else yRw hm s j := fun s j h1 h2 => by
                  rw [z6 s j h1 h2, r5]
                  by_cases j2 : s = 21 ∧ j = 32 + n
                  · rw [if_pos j2, if_pos j2]
                  · rw [if_neg j2, if_neg j2, y7 s j h1 h2, r2]
                by_cases ln : l = n
                · subst ln
                  refine ⟨wd, sc, sc4, sc7, mc, mc4, mc7, hwd, y1, z1, Nat.le_refl _, y2, z2, Nat.le_refl _, ?_, ?_, ?_, ?_, ?_, ?_, ?_, ?_, ?_, ?_⟩
                  · rw [cc, if_neg (by omega), if_neg (by omega), c71, if_neg (by omega), if_neg (by omega), if_pos rfl]
                  · rw [cc, if_neg (by omega), if_neg (by omega), c71, if_neg (by omega), if_pos rfl]
                  · rw [cc, if_neg (by omega), if_neg (by omega), c71, if_pos rfl]
                  · rw [cc, if_neg (by omega), if_pos ⟨rfl, rfl⟩]
                  · show yRw m9 19 (32 + l) = _
                    rw [rr, if_neg (by omega), r7 _ _ (by omega) (by omega), if_neg (by omega), if_neg (by omega), if_pos ⟨rfl, rfl⟩]
                  · show yRw m9 20 (32 + l) = _
                    rw [rr, if_neg (by omega), r7 _ _ (by omega) (by omega), if_neg (by omega), if_pos ⟨rfl, rfl⟩]
                  · show yRw m9 21 (32 + l) = _
                    rw [rr, if_neg (by omega), r7 _ _ (by omega) (by omega), if_pos ⟨rfl, rfl⟩]
                  · show yRw m9 22 (32 + l) = _
                    rw [rr, if_pos ⟨rfl, rfl⟩]
                  · exact Seg_c (M := sc4) (K := mc4) (fun j hj => by rw [cc2]; exact z3 j hj) (fun j hj => by show yRw m9 23 (800 + j) = _; rw [rr3]; exact (z4 j hj).1) (fun j hj => by show yRw m9 24 (800 + j) = _; rw [rr4]; exact (z4 j hj).2) (Nat.le_refl _) _ _ _ _ y8 (by omega)
                  · rcases z7 with z7 | z7
                    · exact Or.inl z7
                    · have zz : sc4 < sc7 := by
                        apply Classical.byContradiction
                        intro q
                        have e0 : sc7 - sc4 = 0 := by omega
                        rw [e0] at z7
                        cases z7.2
                      have zs : Seg (hc7 2 8 2) (fun j => yRw hm7 23 (800 + j)) (fun j => yRw hm7 24 (800 + j)) (sc7 - sc4 - 1 + 1) sc4 mc4 [] mc7 [true] := by
                        rw [show sc7 - sc4 - 1 + 1 = sc7 - sc4 by omega]; exact z7
                      refine Or.inr ⟨zz, Seg_lt zs, ?_⟩
                      exact Seg_c (M := sc7) (K := mc7) (fun j hj => cc2 j) (fun j hj => rr3 _) (fun j hj => rr4 _) (Nat.le_refl _) _ _ _ _ z7 (by omega)
                · refine yLn_c (n := n) (hj l (by omega)) (by omega) (by omega) (by omega) (fun j hj => ?_) (fun j hj => ?_) (fun s j h1 h2 h3 => ?_) (fun j hj => ?_)
                  · rw [cc, if_neg (by omega), if_neg (by omega), c71, if_neg (by omega), if_neg (by omega), if_neg (by omega)]
                  · rw [cc2, z3 j (by omega), y3 j hj, c2, if_neg (by omega), if_neg (by omega)]
                  · show yRw m9 s (32 + j) = _
                    rw [rr, if_neg (by omega), r7 _ _ h1 h2, if_neg (by omega), if_neg (by omega), if_neg (by omega)]
                  · show yRw m9 23 (800 + j) = _ ∧ yRw m9 24 (800 + j) = _
                    have q1 := z4 j (by omega)
                    have q2 := y5 j hj
                    rw [rr3, rr4, q1.1, q1.2, q2.1, q2.2, r2, r2, if_neg (by omega), if_neg (by omega), if_neg (by omega), if_neg (by omega)]
                    exact ⟨rfl, rfl⟩
            · simp only [if_neg c59] at kp ms
              obtain ⟨u1, u2, u3⟩ := yFail (L := L) (f := 1) G S8
              refine Or.inl ⟨_, _, fun d => (ck d).trans ?_, fun d => (mk d).trans ?_, u3⟩
              · rw [b67_96]
                simp (disch := first | omega | simp (disch := omega) only [nI_add, pk_mul, pk_sub, pk_div, znmod, nI_clamp, nIleT, nIleF, nIltT, nIltF, nIeqT, nIeqF, nIm1, nIm1q, zupE, zupN, vpT, nI_01, nI_11, ↓reduceIte, Option.bind_some, Option.toList_some, Option.toList_none, List.cons_append, List.nil_append, Nat.reduceAdd, Nat.reduceMul, Nat.reduceSub, Nat.reduceDiv, Nat.reduceMod, and_true, true_and, and_false, false_and, not_true_eq_false, not_false_eq_true, or_true, true_or, or_false, false_or, Int32.lt_irrefl, Int32.le_refl, es7, p3, kp]) only [nI_add, pk_mul, pk_sub, pk_div, znmod, nI_clamp, nIleT, nIleF, nIltT, nIltF, nIeqT, nIeqF, nIm1, nIm1q, zupE, zupN, vpT, nI_01, nI_11, ↓reduceIte, Option.bind_some, Option.toList_some, Option.toList_none, List.cons_append, List.nil_append, Nat.reduceAdd, Nat.reduceMul, Nat.reduceSub, Nat.reduceDiv, Nat.reduceMod, and_true, true_and, and_false, false_and, not_true_eq_false, not_false_eq_true, or_true, true_or, or_false, false_or, Int32.lt_irrefl, Int32.le_refl, es7, p3, kp, b67_111, b67_117]
              · rw [b199_92 (vp_in_nI (by omega) (by omega))]
                simp (disch := first | omega | simp (disch := omega) only [nI_add, pk_mul, pk_sub, pk_div, znmod, nI_clamp, nIleT, nIleF, nIltT, nIltF, nIeqT, nIeqF, nIm1, nIm1q, zupE, zupN, vpT, nI_01, nI_11, ↓reduceIte, Option.bind_some, Option.toList_some, Option.toList_none, List.cons_append, List.nil_append, Nat.reduceAdd, Nat.reduceMul, Nat.reduceSub, Nat.reduceDiv, Nat.reduceMod, and_true, true_and, and_false, false_and, not_true_eq_false, not_false_eq_true, or_true, true_or, or_false, false_or, Int32.lt_irrefl, Int32.le_refl, em7, ms, u2]) only [nI_add, pk_mul, pk_sub, pk_div, znmod, nI_clamp, nIleT, nIleF, nIltT, nIltF, nIeqT, nIeqF, nIm1, nIm1q, zupE, zupN, vpT, nI_01, nI_11, ↓reduceIte, Option.bind_some, Option.toList_some, Option.toList_none, List.cons_append, List.nil_append, Nat.reduceAdd, Nat.reduceMul, Nat.reduceSub, Nat.reduceDiv, Nat.reduceMod, and_true, true_and, and_false, false_and, not_true_eq_false, not_false_eq_true, or_true, true_or, or_false, false_or, Int32.lt_irrefl, Int32.le_refl, em7, ms, u2, b199_102, b199_108, b199_111, b199_116]
          have cS : ∀ d, zev L (d + 25) 67 0 [some (.inr (.inl (6, 0, 0))), none] [] hc = zev L (d + 25) 67 72 [some (.inr (.inl (6, 0, 0))), some (.inl (nI wd))] [] (zup hc4 2 8 1 (5 * n + 2) (nI sc4)) := fun d => by
            simp (disch := first | omega | simp (disch := omega) only [nI_add, pk_mul, pk_sub, pk_div, znmod, nI_clamp, nIleT, nIleF, nIltT, nIltF, nIeqT, nIeqF, nIm1, nIm1q, zupE, zupN, vpT, nI_01, nI_11, ↓reduceIte, Option.bind_some, Option.toList_some, Option.toList_none, List.cons_append, List.nil_append, Nat.reduceAdd, Nat.reduceMul, Nat.reduceSub, Nat.reduceDiv, Nat.reduceMod, and_true, true_and, and_false, false_and, not_true_eq_false, not_false_eq_true, or_true, true_or, or_false, false_or, Int32.lt_irrefl, Int32.le_refl, b3, x0, kb, p0, es1, p1, k4, es4, p2]) only [nI_add, pk_mul, pk_sub, pk_div, znmod, nI_clamp, nIleT, nIleF, nIltT, nIltF, nIeqT, nIeqF, nIm1, nIm1q, zupE, zupN, vpT, nI_01, nI_11, ↓reduceIte, Option.bind_some, Option.toList_some, Option.toList_none, List.cons_append, List.nil_append, Nat.reduceAdd, Nat.reduceMul, Nat.reduceSub, Nat.reduceDiv, Nat.reduceMod, and_true, true_and, and_false, false_and, not_true_eq_false, not_false_eq_true, or_true, true_or, or_false, false_or, Int32.lt_irrefl, Int32.le_refl, b3, x0, kb, p0, es1, p1, k4, es4, p2, b67_0, b67_19, b67_24, b67_33, b67_48, b67_52, b67_57]
          have mS : ∀ d, zev L (d + 8) 199 2 [some (.inr (.inl (12, 0, 0))), some (.inl (nI n)), a2] [] hm = zev L (d + 8) 199 70 [some (.inr (.inl (12, 0, 0))), some (.inl (nI n)), some (.inl (nI (32+n)))] [] (zup hm4 12 0 22 (32 + n) (nI mc4)) := fun d => by
            refine b199_2.trans ?_
            simp (disch := first | omega | simp (disch := omega) only [nI_add, pk_mul, pk_sub, pk_div, znmod, nI_clamp, nIleT, nIleF, nIltT, nIltF, nIeqT, nIeqF, nIm1, nIm1q, zupE, zupN, vpT, nI_01, nI_11, ↓reduceIte, Option.bind_some, Option.toList_some, Option.toList_none, List.cons_append, List.nil_append, Nat.reduceAdd, Nat.reduceMul, Nat.reduceSub, Nat.reduceDiv, Nat.reduceMod, and_true, true_and, and_false, false_and, not_true_eq_false, not_false_eq_true, or_true, true_or, or_false, false_or, Int32.lt_irrefl, Int32.le_refl, mw, v16, n2, em1, r4, em4]) only [nI_add, pk_mul, pk_sub, pk_div, znmod, nI_clamp, nIleT, nIleF, nIltT, nIltF, nIeqT, nIeqF, nIm1, nIm1q, zupE, zupN, vpT, nI_01, nI_11, ↓reduceIte, Option.bind_some, Option.toList_some, Option.toList_none, List.cons_append, List.nil_append, Nat.reduceAdd, Nat.reduceMul, Nat.reduceSub, Nat.reduceDiv, Nat.reduceMod, and_true, true_and, and_false, false_and, not_true_eq_false, not_false_eq_true, or_true, true_or, or_false, false_or, Int32.lt_irrefl, Int32.le_refl, mw, v16, n2, em1, r4, em4, b199_6, b199_9, b199_21, b199_36, b199_40, b199_50, b199_54, b199_60]
          by_cases c270 : yykd T B i4 = 270
          · simp only [if_pos (show yykd T B i4 = 256 + 14 from c270)] at mwh
            rw [c270] at d5
            obtain ⟨m6, v1, v2, S6, F6, it6⟩ := yNext (L := L) G S5 (by omega)
            have S6' := yYS_m (s := 0) (j := 29) (v := nI 0) S6 (Or.inl (by omega))
            have l6 : yLS sc4 mc4 (yNx T B i4 (zup hc4 2 8 1 (5 * n + 2) (nI sc4))) (zup m6 12 0 0 29 (nI 0)) := ⟨by rw [yNx_k (by omega), zupN (by omega)]; exact es4, by rw [zupN (by omega), F6 12 0 0 26 (by omega), zupN (by omega)]; exact em4, l4.2.2⟩
            have e276 : (zup m6 12 0 0 29 (nI 0)) 12 0 0 27 = nI 0 := by rw [zupN (by omega), F6 12 0 0 27 (by omega)]; exact e275
            rcases (yConds (L := L) (h0c := h0c) G (t - (i4 + 1))).2 (i4 + 1) (Nat.le_refl _) 0 0 0 false false [] none [] sc4 mc4 _ _ S6' l6 (by omega) trivial (by rw [zupE (by omega)]; rfl) (by show 0 ≤ 3 * 0; omega) (fun y l q => by cases q) e276 (by show mc4 + 0 ≤ _; omega) (by show 0 ≤ 2 * 0; omega) (by omega) (by omega) with ⟨i7, sc7, mc7, hc7, hm7, a7, w1, w2, w3, w4', w5, w6, w7, w8, w9, w10⟩ | ⟨hc7, hm7, w1, w2, w3⟩
            · have w10' := w10
              obtain ⟨z1, z2, z3, z4, z5, z6, z7⟩ := w10
              have rm : ∀ s j, yRw (zup m6 12 0 0 29 (nI 0)) s j = yRw (zup hm4 12 0 22 (32 + n) (nI mc4)) s j := fun s j => by rw [yRp0, yRw_F F6]
              refine fin i7 sc7 mc7 hc7 hm7 a7 w4' w5 (by have : yNo [] = 0 := rfl; omega) w8 z1 z2 (fun j hj => ?_) (fun j hj => ?_) (fun s j q1 q2 => ?_) (fun s j q1 q2 => ?_) (Or.inr z7) (fun d => (cS d).trans ?_) (fun d => (mS d).trans ?_)
              · rw [z3 j hj, yNx_k (by omega), c5, if_neg (by omega)]
              · have q := z4 j hj
                rw [rm, rm, r5, r5, if_neg (by omega), if_neg (by omega)] at q
                exact q
              · rw [z5 s j q1 q2, yNx_k (by omega)]
              · rw [z6 s j q1 q2, rm]
              · have w2' := w2 (d + 18) (by omega)
                rw [Bool.toNat_false] at w2'
                rw [b67_72, d5]
                simp (disch := first | omega | simp (disch := omega) only [nI_add, pk_mul, pk_sub, pk_div, znmod, nI_clamp, nIleT, nIleF, nIltT, nIltF, nIeqT, nIeqF, nIm1, nIm1q, zupE, zupN, vpT, nI_01, nI_11, ↓reduceIte, Option.bind_some, Option.toList_some, Option.toList_none, List.cons_append, List.nil_append, Nat.reduceAdd, Nat.reduceMul, Nat.reduceSub, Nat.reduceDiv, Nat.reduceMod, and_true, true_and, and_false, false_and, not_true_eq_false, not_false_eq_true, or_true, true_or, or_false, false_or, Int32.lt_irrefl, Int32.le_refl, v1, w2']) only [nI_add, pk_mul, pk_sub, pk_div, znmod, nI_clamp, nIleT, nIleF, nIltT, nIltF, nIeqT, nIeqF, nIm1, nIm1q, zupE, zupN, vpT, nI_01, nI_11, ↓reduceIte, Option.bind_some, Option.toList_some, Option.toList_none, List.cons_append, List.nil_append, Nat.reduceAdd, Nat.reduceMul, Nat.reduceSub, Nat.reduceDiv, Nat.reduceMod, and_true, true_and, and_false, false_and, not_true_eq_false, not_false_eq_true, or_true, true_or, or_false, false_or, Int32.lt_irrefl, Int32.le_refl, v1, w2', b67_82, b67_86, b67_91, b68_0]
              · have w3' := w3 d
                rw [b199_70]
                simp (disch := first | omega | simp (disch := omega) only [nI_add, pk_mul, pk_sub, pk_div, znmod, nI_clamp, nIleT, nIleF, nIltT, nIltF, nIeqT, nIeqF, nIm1, nIm1q, zupE, zupN, vpT, nI_01, nI_11, ↓reduceIte, Option.bind_some, Option.toList_some, Option.toList_none, List.cons_append, List.nil_append, Nat.reduceAdd, Nat.reduceMul, Nat.reduceSub, Nat.reduceDiv, Nat.reduceMod, and_true, true_and, and_false, false_and, not_true_eq_false, not_false_eq_true, or_true, true_or, or_false, false_or, Int32.lt_irrefl, Int32.le_refl, mwh, v2]) only [nI_add, pk_mul, pk_sub, pk_div, znmod, nI_clamp, nIleT, nIleF, nIltT, nIltF, nIeqT, nIeqF, nIm1, nIm1q, zupE, zupN, vpT, nI_01, nI_11, ↓reduceIte, Option.bind_some, Option.toList_some, Option.toList_none, List.cons_append, List.nil_append, Nat.reduceAdd, Nat.reduceMul, Nat.reduceSub, Nat.reduceDiv, Nat.reduceMod, and_true, true_and, and_false, false_and, not_true_eq_false, not_false_eq_true, or_true, true_or, or_false, false_or, Int32.lt_irrefl, Int32.le_refl, mwh, v2, b199_75, b199_78, b199_82, b199_86, b197_0, b197_7]
                rw [w3', b197_185]
                simp (disch := first | omega | simp (disch := omega) only [nI_add, pk_mul, pk_sub, pk_div, znmod, nI_clamp, nIleT, nIleF, nIltT, nIltF, nIeqT, nIeqF, nIm1, nIm1q, zupE, zupN, vpT, nI_01, nI_11, ↓reduceIte, Option.bind_some, Option.toList_some, Option.toList_none, List.cons_append, List.nil_append, Nat.reduceAdd, Nat.reduceMul, Nat.reduceSub, Nat.reduceDiv, Nat.reduceMod, and_true, true_and, and_false, false_and, not_true_eq_false, not_false_eq_true, or_true, true_or, or_false, false_or, Int32.lt_irrefl, Int32.le_refl]) only [nI_add, pk_mul, pk_sub, pk_div, znmod, nI_clamp, nIleT, nIleF, nIltT, nIltF, nIeqT, nIeqF, nIm1, nIm1q, zupE, zupN, vpT, nI_01, nI_11, ↓reduceIte, Option.bind_some, Option.toList_some, Option.toList_none, List.cons_append, List.nil_append, Nat.reduceAdd, Nat.reduceMul, Nat.reduceSub, Nat.reduceDiv, Nat.reduceMod, and_true, true_and, and_false, false_and, not_true_eq_false, not_false_eq_true, or_true, true_or, or_false, false_or, Int32.lt_irrefl, Int32.le_refl, b197_189, b199_86]
            · refine Or.inl ⟨_, _, fun d => (cS d).trans ?_, fun d => (mS d).trans ?_, w3⟩
              · have w1' := w1 (d + 18) (by omega)
                rw [Bool.toNat_false] at w1'
                rw [b67_72, d5]
                simp (disch := first | omega | simp (disch := omega) only [nI_add, pk_mul, pk_sub, pk_div, znmod, nI_clamp, nIleT, nIleF, nIltT, nIltF, nIeqT, nIeqF, nIm1, nIm1q, zupE, zupN, vpT, nI_01, nI_11, ↓reduceIte, Option.bind_some, Option.toList_some, Option.toList_none, List.cons_append, List.nil_append, Nat.reduceAdd, Nat.reduceMul, Nat.reduceSub, Nat.reduceDiv, Nat.reduceMod, and_true, true_and, and_false, false_and, not_true_eq_false, not_false_eq_true, or_true, true_or, or_false, false_or, Int32.lt_irrefl, Int32.le_refl, v1, w1']) only [nI_add, pk_mul, pk_sub, pk_div, znmod, nI_clamp, nIleT, nIleF, nIltT, nIltF, nIeqT, nIeqF, nIm1, nIm1q, zupE, zupN, vpT, nI_01, nI_11, ↓reduceIte, Option.bind_some, Option.toList_some, Option.toList_none, List.cons_append, List.nil_append, Nat.reduceAdd, Nat.reduceMul, Nat.reduceSub, Nat.reduceDiv, Nat.reduceMod, and_true, true_and, and_false, false_and, not_true_eq_false, not_false_eq_true, or_true, true_or, or_false, false_or, Int32.lt_irrefl, Int32.le_refl, v1, w1', b67_82, b67_86, b67_91, b67_94, b68_0]
              · have w2' := w2 d
                rw [b199_70]
                simp (disch := first | omega | simp (disch := omega) only [nI_add, pk_mul, pk_sub, pk_div, znmod, nI_clamp, nIleT, nIleF, nIltT, nIltF, nIeqT, nIeqF, nIm1, nIm1q, zupE, zupN, vpT, nI_01, nI_11, ↓reduceIte, Option.bind_some, Option.toList_some, Option.toList_none, List.cons_append, List.nil_append, Nat.reduceAdd, Nat.reduceMul, Nat.reduceSub, Nat.reduceDiv, Nat.reduceMod, and_true, true_and, and_false, false_and, not_true_eq_false, not_false_eq_true, or_true, true_or, or_false, false_or, Int32.lt_irrefl, Int32.le_refl, mwh, v2]) only [nI_add, pk_mul, pk_sub, pk_div, znmod, nI_clamp, nIleT, nIleF, nIltT, nIltF, nIeqT, nIeqF, nIm1, nIm1q, zupE, zupN, vpT, nI_01, nI_11, ↓reduceIte, Option.bind_some, Option.toList_some, Option.toList_none, List.cons_append, List.nil_append, Nat.reduceAdd, Nat.reduceMul, Nat.reduceSub, Nat.reduceDiv, Nat.reduceMod, and_true, true_and, and_false, false_and, not_true_eq_false, not_false_eq_true, or_true, true_or, or_false, false_or, Int32.lt_irrefl, Int32.le_refl, mwh, v2, b199_75, b199_78, b199_82, b199_86, b197_0, b197_7]
                rw [w2']
                simp (disch := first | omega | simp (disch := omega) only [nI_add, pk_mul, pk_sub, pk_div, znmod, nI_clamp, nIleT, nIleF, nIltT, nIltF, nIeqT, nIeqF, nIm1, nIm1q, zupE, zupN, vpT, nI_01, nI_11, ↓reduceIte, Option.bind_some, Option.toList_some, Option.toList_none, List.cons_append, List.nil_append, Nat.reduceAdd, Nat.reduceMul, Nat.reduceSub, Nat.reduceDiv, Nat.reduceMod, and_true, true_and, and_false, false_and, not_true_eq_false, not_false_eq_true, or_true, true_or, or_false, false_or, Int32.lt_irrefl, Int32.le_refl]) only [nI_add, pk_mul, pk_sub, pk_div, znmod, nI_clamp, nIleT, nIleF, nIltT, nIltF, nIeqT, nIeqF, nIm1, nIm1q, zupE, zupN, vpT, nI_01, nI_11, ↓reduceIte, Option.bind_some, Option.toList_some, Option.toList_none, List.cons_append, List.nil_append, Nat.reduceAdd, Nat.reduceMul, Nat.reduceSub, Nat.reduceDiv, Nat.reduceMod, and_true, true_and, and_false, false_and, not_true_eq_false, not_false_eq_true, or_true, true_or, or_false, false_or, Int32.lt_irrefl, Int32.le_refl, b199_86, b199_90]
          · simp only [if_neg (show ¬ yykd T B i4 = 256 + 14 from c270)] at mwh
            refine fin i4 sc4 mc4 _ _ none S5 ⟨by rw [zupN (by omega)]; exact es4, by rw [zupN (by omega)]; exact em4, l4.2.2⟩ (by omega) e275 (Nat.le_refl _) (Nat.le_refl _) (fun j hj => by rw [c5, if_neg (by omega)]) (fun j hj => by rw [r5, r5, if_neg (by omega), if_neg (by omega)]; exact ⟨rfl, rfl⟩) (fun s j _ _ => rfl) (fun s j _ _ => rfl) (Or.inl ⟨rfl, rfl⟩) (fun d => (cS d).trans ?_) (fun d => (mS d).trans ?_)
            · rw [b67_72, d5]
              simp (disch := first | omega | simp (disch := omega) only [nI_add, pk_mul, pk_sub, pk_div, znmod, nI_clamp, nIleT, nIleF, nIltT, nIltF, nIeqT, nIeqF, nIm1, nIm1q, zupE, zupN, vpT, nI_01, nI_11, ↓reduceIte, Option.bind_some, Option.toList_some, Option.toList_none, List.cons_append, List.nil_append, Nat.reduceAdd, Nat.reduceMul, Nat.reduceSub, Nat.reduceDiv, Nat.reduceMod, and_true, true_and, and_false, false_and, not_true_eq_false, not_false_eq_true, or_true, true_or, or_false, false_or, Int32.lt_irrefl, Int32.le_refl]) only [nI_add, pk_mul, pk_sub, pk_div, znmod, nI_clamp, nIleT, nIleF, nIltT, nIltF, nIeqT, nIeqF, nIm1, nIm1q, zupE, zupN, vpT, nI_01, nI_11, ↓reduceIte, Option.bind_some, Option.toList_some, Option.toList_none, List.cons_append, List.nil_append, Nat.reduceAdd, Nat.reduceMul, Nat.reduceSub, Nat.reduceDiv, Nat.reduceMod, and_true, true_and, and_false, false_and, not_true_eq_false, not_false_eq_true, or_true, true_or, or_false, false_or, Int32.lt_irrefl, Int32.le_refl]
            · rw [b199_70]
              simp (disch := first | omega | simp (disch := omega) only [nI_add, pk_mul, pk_sub, pk_div, znmod, nI_clamp, nIleT, nIleF, nIltT, nIltF, nIeqT, nIeqF, nIm1, nIm1q, zupE, zupN, vpT, nI_01, nI_11, ↓reduceIte, Option.bind_some, Option.toList_some, Option.toList_none, List.cons_append, List.nil_append, Nat.reduceAdd, Nat.reduceMul, Nat.reduceSub, Nat.reduceDiv, Nat.reduceMod, and_true, true_and, and_false, false_and, not_true_eq_false, not_false_eq_true, or_true, true_or, or_false, false_or, Int32.lt_irrefl, Int32.le_refl, mwh]) only [nI_add, pk_mul, pk_sub, pk_div, znmod, nI_clamp, nIleT, nIleF, nIltT, nIltF, nIeqT, nIeqF, nIm1, nIm1q, zupE, zupN, vpT, nI_01, nI_11, ↓reduceIte, Option.bind_some, Option.toList_some, Option.toList_none, List.cons_append, List.nil_append, Nat.reduceAdd, Nat.reduceMul, Nat.reduceSub, Nat.reduceDiv, Nat.reduceMod, and_true, true_and, and_false, false_and, not_true_eq_false, not_false_eq_true, or_true, true_or, or_false, false_or, Int32.lt_irrefl, Int32.le_refl, mwh, b199_75]
        · refine Or.inl ⟨_, _, fun d => ?_, fun d => b199_2.trans ?_, F⟩
          · simp (disch := first | omega | simp (disch := omega) only [nI_add, pk_mul, pk_sub, pk_div, znmod, nI_clamp, nIleT, nIleF, nIltT, nIltF, nIeqT, nIeqF, nIm1, nIm1q, zupE, zupN, vpT, nI_01, nI_11, ↓reduceIte, Option.bind_some, Option.toList_some, Option.toList_none, List.cons_append, List.nil_append, Nat.reduceAdd, Nat.reduceMul, Nat.reduceSub, Nat.reduceDiv, Nat.reduceMod, and_true, true_and, and_false, false_and, not_true_eq_false, not_false_eq_true, or_true, true_or, or_false, false_or, Int32.lt_irrefl, Int32.le_refl, b3, x0, kb, p0, es1, p1, k4]) only [nI_add, pk_mul, pk_sub, pk_div, znmod, nI_clamp, nIleT, nIleF, nIltT, nIltF, nIeqT, nIeqF, nIm1, nIm1q, zupE, zupN, vpT, nI_01, nI_11, ↓reduceIte, Option.bind_some, Option.toList_some, Option.toList_none, List.cons_append, List.nil_append, Nat.reduceAdd, Nat.reduceMul, Nat.reduceSub, Nat.reduceDiv, Nat.reduceMod, and_true, true_and, and_false, false_and, not_true_eq_false, not_false_eq_true, or_true, true_or, or_false, false_or, Int32.lt_irrefl, Int32.le_refl, b3, x0, kb, p0, es1, p1, k4, b67_0, b67_19, b67_24, b67_33, b67_48, b67_52, b67_55]
          · simp (disch := first | omega | simp (disch := omega) only [nI_add, pk_mul, pk_sub, pk_div, znmod, nI_clamp, nIleT, nIleF, nIltT, nIltF, nIeqT, nIeqF, nIm1, nIm1q, zupE, zupN, vpT, nI_01, nI_11, ↓reduceIte, Option.bind_some, Option.toList_some, Option.toList_none, List.cons_append, List.nil_append, Nat.reduceAdd, Nat.reduceMul, Nat.reduceSub, Nat.reduceDiv, Nat.reduceMod, and_true, true_and, and_false, false_and, not_true_eq_false, not_false_eq_true, or_true, true_or, or_false, false_or, Int32.lt_irrefl, Int32.le_refl, mw, v16, n2, em1, r4]) only [nI_add, pk_mul, pk_sub, pk_div, znmod, nI_clamp, nIleT, nIleF, nIltT, nIltF, nIeqT, nIeqF, nIm1, nIm1q, zupE, zupN, vpT, nI_01, nI_11, ↓reduceIte, Option.bind_some, Option.toList_some, Option.toList_none, List.cons_append, List.nil_append, Nat.reduceAdd, Nat.reduceMul, Nat.reduceSub, Nat.reduceDiv, Nat.reduceMod, and_true, true_and, and_false, false_and, not_true_eq_false, not_false_eq_true, or_true, true_or, or_false, false_or, Int32.lt_irrefl, Int32.le_refl, mw, v16, n2, em1, r4, b199_6, b199_9, b199_21, b199_36, b199_40, b199_50, b199_54, b199_58]
      · have e16 : n = 16 := by omega
        subst e16
        simp only [if_neg c16] at kb
        refine Or.inl ⟨_, _, fun d => ?_, fun d => b199_2.trans ?_, h3⟩
        · simp (disch := first | omega | simp (disch := omega) only [nI_add, pk_mul, pk_sub, pk_div, znmod, nI_clamp, nIleT, nIleF, nIltT, nIltF, nIeqT, nIeqF, nIm1, nIm1q, zupE, zupN, vpT, nI_01, nI_11, ↓reduceIte, Option.bind_some, Option.toList_some, Option.toList_none, List.cons_append, List.nil_append, Nat.reduceAdd, Nat.reduceMul, Nat.reduceSub, Nat.reduceDiv, Nat.reduceMod, and_true, true_and, and_false, false_and, not_true_eq_false, not_false_eq_true, or_true, true_or, or_false, false_or, Int32.lt_irrefl, Int32.le_refl, kb]) only [nI_add, pk_mul, pk_sub, pk_div, znmod, nI_clamp, nIleT, nIleF, nIltT, nIltF, nIeqT, nIeqF, nIm1, nIm1q, zupE, zupN, vpT, nI_01, nI_11, ↓reduceIte, Option.bind_some, Option.toList_some, Option.toList_none, List.cons_append, List.nil_append, Nat.reduceAdd, Nat.reduceMul, Nat.reduceSub, Nat.reduceDiv, Nat.reduceMod, and_true, true_and, and_false, false_and, not_true_eq_false, not_false_eq_true, or_true, true_or, or_false, false_or, Int32.lt_irrefl, Int32.le_refl, kb, b67_0, b67_19, b67_22]
        · simp (disch := first | omega | simp (disch := omega) only [nI_add, pk_mul, pk_sub, pk_div, znmod, nI_clamp, nIleT, nIleF, nIltT, nIltF, nIeqT, nIeqF, nIm1, nIm1q, zupE, zupN, vpT, nI_01, nI_11, ↓reduceIte, Option.bind_some, Option.toList_some, Option.toList_none, List.cons_append, List.nil_append, Nat.reduceAdd, Nat.reduceMul, Nat.reduceSub, Nat.reduceDiv, Nat.reduceMod, and_true, true_and, and_false, false_and, not_true_eq_false, not_false_eq_true, or_true, true_or, or_false, false_or, Int32.lt_irrefl, Int32.le_refl, mw, h2]) only [nI_add, pk_mul, pk_sub, pk_div, znmod, nI_clamp, nIleT, nIleF, nIltT, nIltF, nIeqT, nIeqF, nIm1, nIm1q, zupE, zupN, vpT, nI_01, nI_11, ↓reduceIte, Option.bind_some, Option.toList_some, Option.toList_none, List.cons_append, List.nil_append, Nat.reduceAdd, Nat.reduceMul, Nat.reduceSub, Nat.reduceDiv, Nat.reduceMod, and_true, true_and, and_false, false_and, not_true_eq_false, not_false_eq_true, or_true, true_or, or_false, false_or, Int32.lt_irrefl, Int32.le_refl, mw, h2, b199_6, b199_9, b199_15, b199_20]
    · simp only [if_neg cr] at mw kb
      obtain ⟨x, x1, x2, x3⟩ := t1 c
      refine Or.inl ⟨_, _, fun d => ?_, fun d => b199_2.trans ?_, f3⟩
      · simp (disch := first | omega | simp (disch := omega) only [nI_add, pk_mul, pk_sub, pk_div, znmod, nI_clamp, nIleT, nIleF, nIltT, nIltF, nIeqT, nIeqF, nIm1, nIm1q, zupE, zupN, vpT, nI_01, nI_11, ↓reduceIte, Option.bind_some, Option.toList_some, Option.toList_none, List.cons_append, List.nil_append, Nat.reduceAdd, Nat.reduceMul, Nat.reduceSub, Nat.reduceDiv, Nat.reduceMod, and_true, true_and, and_false, false_and, not_true_eq_false, not_false_eq_true, or_true, true_or, or_false, false_or, Int32.lt_irrefl, Int32.le_refl, kb]) only [nI_add, pk_mul, pk_sub, pk_div, znmod, nI_clamp, nIleT, nIleF, nIltT, nIltF, nIeqT, nIeqF, nIm1, nIm1q, zupE, zupN, vpT, nI_01, nI_11, ↓reduceIte, Option.bind_some, Option.toList_some, Option.toList_none, List.cons_append, List.nil_append, Nat.reduceAdd, Nat.reduceMul, Nat.reduceSub, Nat.reduceDiv, Nat.reduceMod, and_true, true_and, and_false, false_and, not_true_eq_false, not_false_eq_true, or_true, true_or, or_false, false_or, Int32.lt_irrefl, Int32.le_refl, kb, b67_0, b67_19, b67_22]
      · simp (disch := first | omega | simp (disch := omega) only [nI_add, pk_mul, pk_sub, pk_div, znmod, nI_clamp, nIleT, nIleF, nIltT, nIltF, nIeqT, nIeqF, nIm1, nIm1q, zupE, zupN, vpT, nI_01, nI_11, ↓reduceIte, Option.bind_some, Option.toList_some, Option.toList_none, List.cons_append, List.nil_append, Nat.reduceAdd, Nat.reduceMul, Nat.reduceSub, Nat.reduceDiv, Nat.reduceMod, and_true, true_and, and_false, false_and, not_true_eq_false, not_false_eq_true, or_true, true_or, or_false, false_or, Int32.lt_irrefl, Int32.le_refl, mw, x3, f2]) only [nI_add, pk_mul, pk_sub, pk_div, znmod, nI_clamp, nIleT, nIleF, nIltT, nIltF, nIeqT, nIeqF, nIm1, nIm1q, zupE, zupN, vpT, nI_01, nI_11, ↓reduceIte, Option.bind_some, Option.toList_some, Option.toList_none, List.cons_append, List.nil_append, Nat.reduceAdd, Nat.reduceMul, Nat.reduceSub, Nat.reduceDiv, Nat.reduceMod, and_true, true_and, and_false, false_and, not_true_eq_false, not_false_eq_true, or_true, true_or, or_false, false_or, Int32.lt_irrefl, Int32.le_refl, mw, x3, f2, b199_6, b199_128, b199_139, b199_144]
end TW
