/-! markets are copied; what can be undone; operations hand, undo -/
/-- all that RMk reads of a market -/
def ycp (f' f : Nat → Nat → Int32) : Prop := (∀ j, 8 ≤ j → j ≤ 14 → f' 0 j = f 0 j) ∧ (∀ j, j < 60 → f' 1 j = f 1 j) ∧ (∀ s j, 2 ≤ s → s ≤ 4 → j < 12 → f' s j = f s j) ∧ ∀ s j, 5 ≤ s → s ≤ 8 → j < 10 → f' s j = f s j
theorem RMk_cp {f f' : Nat → Nat → Int32} {r r' w s w' s' : Nat → Int32} {P H : Nat} (h : RMk f r w s P H) (c : ycp f' f) (hr : ∀ j, j < 121 → r' j = r j) (hw : ∀ j, j < 10 → w' j = w j) (hs : ∀ j, j < 10 → s' j = s j) : RMk f' r' w' s' P H := by
  obtain ⟨⟨a1, a2, a3, a4⟩, ⟨b1, b2, b3, b4, b5⟩, ⟨bb, bb1, bb2⟩, c1, c2, c3, c4, c5, c6, c7⟩ := h
  obtain ⟨k0, k1, k2, k3⟩ := c
  refine ⟨⟨?_, ?_, a3, a4⟩, ⟨?_, ?_, ?_, ?_, ?_⟩, ⟨bb, bb1, ?_⟩, fun q hq => ?_, fun q hq => ?_, fun q hq => ?_, fun q hq => ?_, fun q hq => ?_, fun q hq => ?_, fun q hq => ?_⟩
  · rw [k0 8 (by omega) (by omega)]; exact a1
  · rw [k0 9 (by omega) (by omega)]; exact a2
  · rw [k0 12 (by omega) (by omega), hr 0 (by omega)]; exact b1
  · rw [k0 14 (by omega) (by omega), hr 1 (by omega)]; exact b2
  · rw [k0 13 (by omega) (by omega), hr 2 (by omega)]; exact b3
  · rw [k0 10 (by omega) (by omega), hr 3 (by omega)]; exact b4
  · rw [k0 11 (by omega) (by omega), hr 4 (by omega)]; exact b5
  · rw [k0 13 (by omega) (by omega)]; exact bb2
  · rw [k1 q hq, hr (5 + q) (by omega)]; exact c1 q hq
  · rw [k2 2 q (by omega) (by omega) hq, hr (65 + q) (by omega)]; exact c2 q hq
  · rw [k2 3 q (by omega) (by omega) hq, hr (77 + q) (by omega)]; exact c3 q hq
  · rw [k2 4 q (by omega) (by omega) hq, hr (89 + q) (by omega)]; exact c4 q hq
  · rw [k3 5 q (by omega) (by omega) hq, hr (101 + q) (by omega)]; exact c5 q hq
  · rw [k3 8 q (by omega) (by omega) hq, hr (111 + q) (by omega)]; exact c6 q hq
  · rw [k3 6 q (by omega) (by omega) hq, k3 7 q (by omega) (by omega) hq, hw q hq, hs q hq]; exact c7 q hq
theorem ycpy {f g : Nat → Int32} {n j : Nat} (h : j < n) (hn : n < 2 ^ 31) : va_cpy f g (nI 0).toNatClampNeg (nI 0).toNatClampNeg (nI n).toNatClampNeg j = f j := by
  unfold va_cpy
  rw [nI_clamp (by omega), nI_clamp hn, if_pos (by omega)]
  congr 1
  omega
section KP
variable {L d : Nat} {hc hm : zH} {x1 x2 : Int32} {P H : Nat}
theorem kCopy {i0 i1 : Nat} (hne : i0 ≠ i1) : ∃ hc', (∀ d, zev L d 23 0 [some (.inr (.inl (3, i0, 0))), some (.inr (.inl (3, i1, 0)))] [] hc = some (none, hc')) ∧ ycp (hc' 3 i0) (hc 3 i1) ∧ (∀ k, k ≠ 3 → hc' k = hc k) ∧ ∀ i, i ≠ i0 → hc' 3 i = hc 3 i := by
  refine ⟨kh23 hc i0 i1, fun d => k23, ⟨fun j h1 h2 => ?_, fun j hj => ?_, fun s j h1 h2 hj => ?_, fun s j h1 h2 hj => ?_⟩, fun k hk => ?_, fun i hi => ?_⟩
  · have : j = 8 ∨ j = 9 ∨ j = 10 ∨ j = 11 ∨ j = 12 ∨ j = 13 ∨ j = 14 := by omega
    unfold kh23 kf23_14 kf23_13 kf23_12 kf23_11 kf23_10 kf23_9 kf23_8 kc23_8 kc23_7 kc23_6 kc23_5 kc23_4 kc23_3 kc23_2 kc23_1
    rcases this with rfl | rfl | rfl | rfl | rfl | rfl | rfl <;> simp (disch := omega) only [zupK, zupF, fupd3I, fupd3F, fupd2S, fupd2F, fupdE, fupdN, zupAK, zupAF, fcp3I, fcp3F, fcp2S, fcp2F]
  · unfold kh23 kf23_14 kf23_13 kf23_12 kf23_11 kf23_10 kf23_9 kf23_8 kc23_8 kc23_7 kc23_6 kc23_5 kc23_4 kc23_3 kc23_2 kc23_1
    simp (disch := omega) only [zupK, zupF, fupd3I, fupd3F, fupd2S, fupd2F, fupdE, fupdN, zupAK, zupAF, fcp3I, fcp3F, fcp2S, fcp2F, ycpy]
  · have : s = 2 ∨ s = 3 ∨ s = 4 := by omega
    unfold kh23 kf23_14 kf23_13 kf23_12 kf23_11 kf23_10 kf23_9 kf23_8 kc23_8 kc23_7 kc23_6 kc23_5 kc23_4 kc23_3 kc23_2 kc23_1
    rcases this with rfl | rfl | rfl <;> simp (disch := omega) only [zupK, zupF, fupd3I, fupd3F, fupd2S, fupd2F, fupdE, fupdN, zupAK, zupAF, fcp3I, fcp3F, fcp2S, fcp2F, ycpy]
  · have : s = 5 ∨ s = 6 ∨ s = 7 ∨ s = 8 := by omega
    unfold kh23 kf23_14 kf23_13 kf23_12 kf23_11 kf23_10 kf23_9 kf23_8 kc23_8 kc23_7 kc23_6 kc23_5 kc23_4 kc23_3 kc23_2 kc23_1
    rcases this with rfl | rfl | rfl | rfl <;> simp (disch := omega) only [zupK, zupF, fupd3I, fupd3F, fupd2S, fupd2F, fupdE, fupdN, zupAK, zupAF, fcp3I, fcp3F, fcp2S, fcp2F, ycpy]
  · unfold kh23 kf23_14 kf23_13 kf23_12 kf23_11 kf23_10 kf23_9 kf23_8 kc23_8 kc23_7 kc23_6 kc23_5 kc23_4 kc23_3 kc23_2 kc23_1
    simp (disch := omega) only [zupK, zupF, fupd3I, fupd3F, fupd2S, fupd2F, fupdE, fupdN, zupAK, zupAF, fcp3I, fcp3F, fcp2S, fcp2F]
  · unfold kh23 kf23_14 kf23_13 kf23_12 kf23_11 kf23_10 kf23_9 kf23_8 kc23_8 kc23_7 kc23_6 kc23_5 kc23_4 kc23_3 kc23_2 kc23_1
    simp (disch := omega) only [zupK, zupF, fupd3I, fupd3F, fupd2S, fupd2F, fupdE, fupdN, zupAK, zupAF, fcp3I, fcp3F, fcp2S, fcp2F]
theorem yKeep (rM : RMk (hc 3 0) (hm 12 0 2) (hm 12 0 9) (hm 12 0 10) P H) (ra : RPa (hc 3) (hc 4 0 0) (hm 12 0 0 3) (hm 12 0 3) (hm 12 0 9) (hm 12 0 10) P H) :
    ∃ hc' hm', (∀ d, zev L (d + 1) 38 0 [some (.inr (.inl (4, 0, 0))), some (.inr (.inl (3, 0, 0)))] [] hc = some (none, hc')) ∧ (∀ d, zev L d 163 0 [some (.inr (.inl (12, 0, 0))), none] [] hm = some (none, hm')) ∧ RPa (hc' 3) (hc' 4 0 0) (hm' 12 0 0 3) (hm' 12 0 3) (hm' 12 0 9) (hm' 12 0 10) P H ∧
      (∀ k, k ≠ 3 → k ≠ 4 → hc' k = hc k) ∧ (∀ i, i < 3 → hc' 3 i = hc 3 i) ∧ (∀ s, s ≠ 0 → s ≠ 3 → hm' 12 0 s = hm 12 0 s) ∧ (∀ j, j ≠ 3 → hm' 12 0 0 j = hm 12 0 0 j) := by
  obtain ⟨n, C, hn, hC, e1, e2, e3, hk⟩ := ra
  obtain ⟨hc1, q1, q2, q3, q4⟩ := kCopy (L := L) (hc := hc) (i0 := 3 + n) (i1 := 0) (by omega)
  have f1 : hc1 4 0 0 1 = nI n := by rw [q3 4 (by omega)]; exact e1
  have f2 : hc1 4 0 0 2 = nI C := by rw [q3 4 (by omega)]; exact e2
  obtain ⟨C', hC'⟩ : ∃ C', C' = if C = 6 then 6 else C + 1 := ⟨_, rfl⟩
  have hC6 : C' ≤ 6 ∧ 1 ≤ C' := by rw [hC']; split <;> omega
  -- the class
  have cl : ∀ d, zev L (d + 1) 38 0 [some (.inr (.inl (4, 0, 0))), some (.inr (.inl (3, 0, 0)))] [] hc = some (none, zup (zup hc1 4 0 0 1 (nI ((n + 1) % 6))) 4 0 0 2 (nI C')) := by
    intro d
    have ed : n + 1 - (n + 1) / 6 * 6 = (n + 1) % 6 := znmod
    by_cases c : C = 6
    · rw [hC', if_pos c]
      subst c
      simp (disch := first | omega | simp (disch := omega) only [nI_add, pk_mul, pk_sub, pk_div, znmod, nI_clamp, nIleT, nIleF, nIltT, nIltF, nIeqT, nIeqF, nIm1, nIm1q, zupE, zupN, vpT, nI_01, nI_11, ↓reduceIte, Option.bind_some, Option.toList_some, Option.toList_none, List.cons_append, List.nil_append, Nat.reduceAdd, Nat.reduceMul, Nat.reduceSub, Nat.reduceDiv, Nat.reduceMod, and_true, true_and, and_false, false_and, not_true_eq_false, not_false_eq_true, or_true, true_or, or_false, false_or, Int32.lt_irrefl, Int32.le_refl, e1, q1, f1, f2, ed]) only [nI_add, pk_mul, pk_sub, pk_div, znmod, nI_clamp, nIleT, nIleF, nIltT, nIltF, nIeqT, nIeqF, nIm1, nIm1q, zupE, zupN, vpT, nI_01, nI_11, ↓reduceIte, Option.bind_some, Option.toList_some, Option.toList_none, List.cons_append, List.nil_append, Nat.reduceAdd, Nat.reduceMul, Nat.reduceSub, Nat.reduceDiv, Nat.reduceMod, and_true, true_and, and_false, false_and, not_true_eq_false, not_false_eq_true, or_true, true_or, or_false, false_or, Int32.lt_irrefl, Int32.le_refl, e1, q1, f1, f2, ed, b38_0, b38_13, b38_26, b38_41]
    · rw [hC', if_neg c]
      simp (disch := first | omega | simp (disch := omega) only [nI_add, pk_mul, pk_sub, pk_div, znmod, nI_clamp, nIleT, nIleF, nIltT, nIltF, nIeqT, nIeqF, nIm1, nIm1q, zupE, zupN, vpT, nI_01, nI_11, ↓reduceIte, Option.bind_some, Option.toList_some, Option.toList_none, List.cons_append, List.nil_append, Nat.reduceAdd, Nat.reduceMul, Nat.reduceSub, Nat.reduceDiv, Nat.reduceMod, and_true, true_and, and_false, false_and, not_true_eq_false, not_false_eq_true, or_true, true_or, or_false, false_or, Int32.lt_irrefl, Int32.le_refl, e1, q1, f1, f2, ed]) only [nI_add, pk_mul, pk_sub, pk_div, znmod, nI_clamp, nIleT, nIleF, nIltT, nIltF, nIeqT, nIeqF, nIm1, nIm1q, zupE, zupN, vpT, nI_01, nI_11, ↓reduceIte, Option.bind_some, Option.toList_some, Option.toList_none, List.cons_append, List.nil_append, Nat.reduceAdd, Nat.reduceMul, Nat.reduceSub, Nat.reduceDiv, Nat.reduceMod, and_true, true_and, and_false, false_and, not_true_eq_false, not_false_eq_true, or_true, true_or, or_false, false_or, Int32.lt_irrefl, Int32.le_refl, e1, q1, f1, f2, ed, b38_0, b38_13, b38_26, b38_41]
  -- the reference: rows move up if there are six
  have sh : ∃ g a1, (∀ d, zev L d 163 0 [some (.inr (.inl (12, 0, 0))), none] [] hm = zev L d 163 53 [some (.inr (.inl (12, 0, 0))), a1] [] g) ∧ g 12 0 0 3 = nI (C' - 1) ∧ (∀ s, s ≠ 0 → s ≠ 3 → g 12 0 s = hm 12 0 s) ∧ (∀ j, j ≠ 3 → g 12 0 0 j = hm 12 0 0 j) ∧ ∀ x, x < 121 * (C' - 1) → g 12 0 3 x = hm 12 0 3 (x + (if C = 6 then 121 else 0)) := by
    by_cases c : C = 6
    · subst c
      rw [if_pos rfl] at hC'
      subst hC'
      obtain ⟨g, k1, k2, k3, k4, k5, k6⟩ := zinv (P := fun x (g : zH) => fun d => zev L d 163 21 [some (.inr (.inl (12, 0, 0))), some (.inl (nI x))] [] g) (R := fun x g => (∀ y, y < x → g 12 0 3 y = hm 12 0 3 (y + 121)) ∧ (∀ y, x ≤ y → g 12 0 3 y = hm 12 0 3 y) ∧ g 12 0 0 3 = nI 5 ∧ (∀ s, s ≠ 0 → s ≠ 3 → g 12 0 s = hm 12 0 s) ∧ (∀ j, j ≠ 3 → g 12 0 0 j = hm 12 0 0 j)) (N := 605) (fun x g hx hr => by
        obtain ⟨r1, r2, r3, r4, r5⟩ := hr
        have u := r2 (x + 121) (by omega)
        refine ⟨zup g 12 0 3 x (hm 12 0 3 (x + 121)), funext fun d => b163_21.trans ?_, fun y hy => ?_, fun y hy => ?_, ?_, fun s h1 h2 => ?_, fun j hj => ?_⟩
        · simp (disch := first | omega | simp (disch := omega) only [nI_add, pk_mul, pk_sub, pk_div, znmod, nI_clamp, nIleT, nIleF, nIltT, nIltF, nIeqT, nIeqF, nIm1, nIm1q, zupE, zupN, vpT, nI_01, nI_11, ↓reduceIte, Option.bind_some, Option.toList_some, Option.toList_none, List.cons_append, List.nil_append, Nat.reduceAdd, Nat.reduceMul, Nat.reduceSub, Nat.reduceDiv, Nat.reduceMod, and_true, true_and, and_false, false_and, not_true_eq_false, not_false_eq_true, or_true, true_or, or_false, false_or, Int32.lt_irrefl, Int32.le_refl, r3, u]) only [nI_add, pk_mul, pk_sub, pk_div, znmod, nI_clamp, nIleT, nIleF, nIltT, nIltF, nIeqT, nIeqF, nIm1, nIm1q, zupE, zupN, vpT, nI_01, nI_11, ↓reduceIte, Option.bind_some, Option.toList_some, Option.toList_none, List.cons_append, List.nil_append, Nat.reduceAdd, Nat.reduceMul, Nat.reduceSub, Nat.reduceDiv, Nat.reduceMod, and_true, true_and, and_false, false_and, not_true_eq_false, not_false_eq_true, or_true, true_or, or_false, false_or, Int32.lt_irrefl, Int32.le_refl, r3, u, b163_32, b163_47]
        · by_cases e : y = x
          · rw [zupE (by omega), e]
          · rw [zupN (by omega)]; exact r1 y (by omega)
        · rw [zupN (by omega)]; exact r2 y (by omega)
        · rw [zupN (by omega)]; exact r3
        · simp (disch := omega) only [zupK, zupF, fupd3I, fupd3F, fupd2S, fupd2F, fupdE, fupdN, zupAK, zupAF, fcp3I, fcp3F, fcp2S, fcp2F]
          exact r4 s h1 h2
        · simp (disch := omega) only [zupK, zupF, fupd3I, fupd3F, fupd2S, fupd2F, fupdE, fupdN, zupAK, zupAF, fcp3I, fcp3F, fcp2S, fcp2F]
          exact r5 j hj) 605 (Nat.le_refl _) (zup hm 12 0 0 3 (nI 5)) ⟨fun y hy => absurd hy (Nat.not_lt_zero _), fun y _ => by simp (disch := omega) only [zupK, zupF, fupd3I, fupd3F, fupd2S, fupd2F, fupdE, fupdN, zupAK, zupAF, fcp3I, fcp3F, fcp2S, fcp2F], by simp (disch := omega) only [zupK, zupF, fupd3I, fupd3F, fupd2S, fupd2F, fupdE, fupdN, zupAK, zupAF, fcp3I, fcp3F, fcp2S, fcp2F], fun s h1 h2 => by simp (disch := omega) only [zupK, zupF, fupd3I, fupd3F, fupd2S, fupd2F, fupdE, fupdN, zupAK, zupAF, fcp3I, fcp3F, fcp2S, fcp2F], fun j hj => by simp (disch := omega) only [zupK, zupF, fupd3I, fupd3F, fupd2S, fupd2F, fupdE, fupdN, zupAK, zupAF, fcp3I, fcp3F, fcp2S, fcp2F]⟩
      refine ⟨g, some (.inl (nI 605)), fun d => ?_, k4, k5, k6, fun x hx => ?_⟩
      · have k7 := (congrFun k1 d).trans b163_21
        simp (disch := first | omega | simp (disch := omega) only [nI_add, pk_mul, pk_sub, pk_div, znmod, nI_clamp, nIleT, nIleF, nIltT, nIltF, nIeqT, nIeqF, nIm1, nIm1q, zupE, zupN, vpT, nI_01, nI_11, ↓reduceIte, Option.bind_some, Option.toList_some, Option.toList_none, List.cons_append, List.nil_append, Nat.reduceAdd, Nat.reduceMul, Nat.reduceSub, Nat.reduceDiv, Nat.reduceMod, and_true, true_and, and_false, false_and, not_true_eq_false, not_false_eq_true, or_true, true_or, or_false, false_or, Int32.lt_irrefl, Int32.le_refl, k4]) only [nI_add, pk_mul, pk_sub, pk_div, znmod, nI_clamp, nIleT, nIleF, nIltT, nIltF, nIeqT, nIeqF, nIm1, nIm1q, zupE, zupN, vpT, nI_01, nI_11, ↓reduceIte, Option.bind_some, Option.toList_some, Option.toList_none, List.cons_append, List.nil_append, Nat.reduceAdd, Nat.reduceMul, Nat.reduceSub, Nat.reduceDiv, Nat.reduceMod, and_true, true_and, and_false, false_and, not_true_eq_false, not_false_eq_true, or_true, true_or, or_false, false_or, Int32.lt_irrefl, Int32.le_refl, k4] at k7
        simp (disch := first | omega | simp (disch := omega) only [nI_add, pk_mul, pk_sub, pk_div, znmod, nI_clamp, nIleT, nIleF, nIltT, nIltF, nIeqT, nIeqF, nIm1, nIm1q, zupE, zupN, vpT, nI_01, nI_11, ↓reduceIte, Option.bind_some, Option.toList_some, Option.toList_none, List.cons_append, List.nil_append, Nat.reduceAdd, Nat.reduceMul, Nat.reduceSub, Nat.reduceDiv, Nat.reduceMod, and_true, true_and, and_false, false_and, not_true_eq_false, not_false_eq_true, or_true, true_or, or_false, false_or, Int32.lt_irrefl, Int32.le_refl, e3, k7]) only [nI_add, pk_mul, pk_sub, pk_div, znmod, nI_clamp, nIleT, nIleF, nIltT, nIltF, nIeqT, nIeqF, nIm1, nIm1q, zupE, zupN, vpT, nI_01, nI_11, ↓reduceIte, Option.bind_some, Option.toList_some, Option.toList_none, List.cons_append, List.nil_append, Nat.reduceAdd, Nat.reduceMul, Nat.reduceSub, Nat.reduceDiv, Nat.reduceMod, and_true, true_and, and_false, false_and, not_true_eq_false, not_false_eq_true, or_true, true_or, or_false, false_or, Int32.lt_irrefl, Int32.le_refl, e3, k7, b163_0, b163_9, b163_19]
      · rw [if_pos rfl]; exact k2 x (by omega)
    · rw [if_neg c] at hC'
      subst hC'
      refine ⟨hm, none, fun d => ?_, by rw [e3]; congr 1, fun _ _ _ => rfl, fun _ _ => rfl, fun x _ => by rw [if_neg c, Nat.add_zero]⟩
      simp (disch := first | omega | simp (disch := omega) only [nI_add, pk_mul, pk_sub, pk_div, znmod, nI_clamp, nIleT, nIleF, nIltT, nIltF, nIeqT, nIeqF, nIm1, nIm1q, zupE, zupN, vpT, nI_01, nI_11, ↓reduceIte, Option.bind_some, Option.toList_some, Option.toList_none, List.cons_append, List.nil_append, Nat.reduceAdd, Nat.reduceMul, Nat.reduceSub, Nat.reduceDiv, Nat.reduceMod, and_true, true_and, and_false, false_and, not_true_eq_false, not_false_eq_true, or_true, true_or, or_false, false_or, Int32.lt_irrefl, Int32.le_refl, e3]) only [nI_add, pk_mul, pk_sub, pk_div, znmod, nI_clamp, nIleT, nIleF, nIltT, nIltF, nIeqT, nIeqF, nIm1, nIm1q, zupE, zupN, vpT, nI_01, nI_11, ↓reduceIte, Option.bind_some, Option.toList_some, Option.toList_none, List.cons_append, List.nil_append, Nat.reduceAdd, Nat.reduceMul, Nat.reduceSub, Nat.reduceDiv, Nat.reduceMod, and_true, true_and, and_false, false_and, not_true_eq_false, not_false_eq_true, or_true, true_or, or_false, false_or, Int32.lt_irrefl, Int32.le_refl, e3, b163_0]
  obtain ⟨g, a1, s1, s2, s3, s4, s5⟩ := sh
  obtain ⟨g2, k1, r1, r2, r3, r4, r5⟩ := zinv (P := fun x (g : zH) => fun d => zev L d 163 55 [some (.inr (.inl (12, 0, 0))), some (.inl (nI x))] [] g) (R := fun x g' => (∀ y, y < x → g' 12 0 3 (121 * (C' - 1) + y) = hm 12 0 2 y) ∧ (∀ y, y < 121 * (C' - 1) → g' 12 0 3 y = g 12 0 3 y) ∧ g' 12 0 0 3 = nI (C' - 1) ∧ (∀ s, s ≠ 0 → s ≠ 3 → g' 12 0 s = hm 12 0 s) ∧ (∀ j, j ≠ 3 → g' 12 0 0 j = hm 12 0 0 j)) (N := 121) (fun x g' hx hr => by
    obtain ⟨r1, r2, r3, r4, r5⟩ := hr
    have u : g' 12 0 2 x = hm 12 0 2 x := by rw [r4 2 (by omega) (by omega)]
    refine ⟨zup g' 12 0 3 (121 * (C' - 1) + x) (hm 12 0 2 x), funext fun d => b163_55.trans ?_, fun y hy => ?_, fun y hy => ?_, ?_, fun s h1 h2 => ?_, fun j hj => ?_⟩
    · simp (disch := first | omega | simp (disch := omega) only [nI_add, pk_mul, pk_sub, pk_div, znmod, nI_clamp, nIleT, nIleF, nIltT, nIltF, nIeqT, nIeqF, nIm1, nIm1q, zupE, zupN, vpT, nI_01, nI_11, ↓reduceIte, Option.bind_some, Option.toList_some, Option.toList_none, List.cons_append, List.nil_append, Nat.reduceAdd, Nat.reduceMul, Nat.reduceSub, Nat.reduceDiv, Nat.reduceMod, and_true, true_and, and_false, false_and, not_true_eq_false, not_false_eq_true, or_true, true_or, or_false, false_or, Int32.lt_irrefl, Int32.le_refl, r3, u]) only [nI_add, pk_mul, pk_sub, pk_div, znmod, nI_clamp, nIleT, nIleF, nIltT, nIltF, nIeqT, nIeqF, nIm1, nIm1q, zupE, zupN, vpT, nI_01, nI_11, ↓reduceIte, Option.bind_some, Option.toList_some, Option.toList_none, List.cons_append, List.nil_append, Nat.reduceAdd, Nat.reduceMul, Nat.reduceSub, Nat.reduceDiv, Nat.reduceMod, and_true, true_and, and_false, false_and, not_true_eq_false, not_false_eq_true, or_true, true_or, or_false, false_or, Int32.lt_irrefl, Int32.le_refl, r3, u, b163_61, b163_81]
    · by_cases e : y = x
      · rw [zupE (by omega), e]
      · rw [zupN (by omega)]; exact r1 y (by omega)
    · rw [zupN (by omega)]; exact r2 y hy
    · rw [zupN (by omega)]; exact r3
    · simp (disch := omega) only [zupK, zupF, fupd3I, fupd3F, fupd2S, fupd2F, fupdE, fupdN, zupAK, zupAF, fcp3I, fcp3F, fcp2S, fcp2F]
      exact r4 s h1 h2
    · simp (disch := omega) only [zupK, zupF, fupd3I, fupd3F, fupd2S, fupd2F, fupdE, fupdN, zupAK, zupAF, fcp3I, fcp3F, fcp2S, fcp2F]
      exact r5 j hj) 121 (Nat.le_refl _) g ⟨fun y hy => absurd hy (Nat.not_lt_zero _), fun _ _ => rfl, s2, s3, s4⟩
  have ec : C' - 1 + 1 = C' := by omega
  refine ⟨_, zup g2 12 0 0 3 (nI C'), cl, fun d => (s1 d).trans ?_, ?_, fun k h1 h2 => ?_, fun i hi => ?_, fun s h1 h2 => ?_, fun j hj => ?_⟩
  · have k7 := (congrFun k1 d).trans b163_55
    simp (disch := first | omega | simp (disch := omega) only [nI_add, pk_mul, pk_sub, pk_div, znmod, nI_clamp, nIleT, nIleF, nIltT, nIltF, nIeqT, nIeqF, nIm1, nIm1q, zupE, zupN, vpT, nI_01, nI_11, ↓reduceIte, Option.bind_some, Option.toList_some, Option.toList_none, List.cons_append, List.nil_append, Nat.reduceAdd, Nat.reduceMul, Nat.reduceSub, Nat.reduceDiv, Nat.reduceMod, and_true, true_and, and_false, false_and, not_true_eq_false, not_false_eq_true, or_true, true_or, or_false, false_or, Int32.lt_irrefl, Int32.le_refl, r3, ec]) only [nI_add, pk_mul, pk_sub, pk_div, znmod, nI_clamp, nIleT, nIleF, nIltT, nIltF, nIeqT, nIeqF, nIm1, nIm1q, zupE, zupN, vpT, nI_01, nI_11, ↓reduceIte, Option.bind_some, Option.toList_some, Option.toList_none, List.cons_append, List.nil_append, Nat.reduceAdd, Nat.reduceMul, Nat.reduceSub, Nat.reduceDiv, Nat.reduceMod, and_true, true_and, and_false, false_and, not_true_eq_false, not_false_eq_true, or_true, true_or, or_false, false_or, Int32.lt_irrefl, Int32.le_refl, r3, ec, b163_87, b163_97] at k7
    simp (disch := first | omega | simp (disch := omega) only [nI_add, pk_mul, pk_sub, pk_div, znmod, nI_clamp, nIleT, nIleF, nIltT, nIltF, nIeqT, nIeqF, nIm1, nIm1q, zupE, zupN, vpT, nI_01, nI_11, ↓reduceIte, Option.bind_some, Option.toList_some, Option.toList_none, List.cons_append, List.nil_append, Nat.reduceAdd, Nat.reduceMul, Nat.reduceSub, Nat.reduceDiv, Nat.reduceMod, and_true, true_and, and_false, false_and, not_true_eq_false, not_false_eq_true, or_true, true_or, or_false, false_or, Int32.lt_irrefl, Int32.le_refl, k7]) only [nI_add, pk_mul, pk_sub, pk_div, znmod, nI_clamp, nIleT, nIleF, nIltT, nIltF, nIeqT, nIeqF, nIm1, nIm1q, zupE, zupN, vpT, nI_01, nI_11, ↓reduceIte, Option.bind_some, Option.toList_some, Option.toList_none, List.cons_append, List.nil_append, Nat.reduceAdd, Nat.reduceMul, Nat.reduceSub, Nat.reduceDiv, Nat.reduceMod, and_true, true_and, and_false, false_and, not_true_eq_false, not_false_eq_true, or_true, true_or, or_false, false_or, Int32.lt_irrefl, Int32.le_refl, k7, b163_53]
  · simp (disch := omega) only [zupK, zupF, fupd3I, fupd3F, fupd2S, fupd2F, fupdE, fupdN, zupAK, zupAF, fcp3I, fcp3F, fcp2S, fcp2F]
    rw [r4 9 (by omega) (by omega), r4 10 (by omega) (by omega)]
    refine ⟨(n + 1) % 6, C', Nat.mod_lt _ (by omega), hC6.1, ?_, ?_, rfl, fun k hkk => ?_⟩
    · simp (disch := omega) only [zupK, zupF, fupd3I, fupd3F, fupd2S, fupd2F, fupdE, fupdN, zupAK, zupAF, fcp3I, fcp3F, fcp2S, fcp2F]
    · simp (disch := omega) only [zupK, zupF, fupd3I, fupd3F, fupd2S, fupd2F, fupdE, fupdN, zupAK, zupAF, fcp3I, fcp3F, fcp2S, fcp2F]
    · by_cases c0 : k = 0
      · subst c0
        have ei : 3 + ((n + 1) % 6 + 5 - 0) % 6 = 3 + n := by omega
        rw [ei]
        refine RMk_cp rM q2 (fun j hj => ?_) (fun _ _ => rfl) (fun _ _ => rfl)
        show g2 12 0 3 (121 * (C' - 1 - 0) + j) = _
        rw [Nat.sub_zero]
        exact r1 j hj
      · have ei : 3 + ((n + 1) % 6 + 5 - k) % 6 = 3 + (n + 5 - (k - 1)) % 6 := by omega
        rw [ei, q4 (3 + (n + 5 - (k - 1)) % 6) (by omega)]
        have hk1 : k - 1 < C := by
          by_cases c : C = 6
          · rw [if_pos c] at hC'; omega
          · rw [if_neg c] at hC'; omega
        refine RMk_cp (hk (k - 1) hk1) ⟨fun _ _ _ => rfl, fun _ _ => rfl, fun _ _ _ _ _ => rfl, fun _ _ _ _ _ => rfl⟩ (fun j hj => ?_) (fun _ _ => rfl) (fun _ _ => rfl)
        show g2 12 0 3 (121 * (C' - 1 - k) + j) = hm 12 0 3 (121 * (C - 1 - (k - 1)) + j)
        have hlt : 121 * (C' - 1 - k) + j < 121 * (C' - 1) := by omega
        rw [r2 _ hlt, s5 _ hlt]
        congr 1
        by_cases c : C = 6
        · rw [if_pos c] at hC' ⊢; omega
        · rw [if_neg c] at hC' ⊢; omega
  · simp (disch := omega) only [zupK, zupF, fupd3I, fupd3F, fupd2S, fupd2F, fupdE, fupdN, zupAK, zupAF, fcp3I, fcp3F, fcp2S, fcp2F]
    exact q3 k h1
  · simp (disch := omega) only [zupK, zupF, fupd3I, fupd3F, fupd2S, fupd2F, fupdE, fupdN, zupAK, zupAF, fcp3I, fcp3F, fcp2S, fcp2F]
    exact q4 i (by omega)
  · simp (disch := omega) only [zupK, zupF, fupd3I, fupd3F, fupd2S, fupd2F, fupdE, fupdN, zupAK, zupAF, fcp3I, fcp3F, fcp2S, fcp2F]
    exact r4 s h1 h2
  · simp (disch := omega) only [zupK, zupF, fupd3I, fupd3F, fupd2S, fupd2F, fupdE, fupdN, zupAK, zupAF, fcp3I, fcp3F, fcp2S, fcp2F]
    exact r5 j hj
end KP
