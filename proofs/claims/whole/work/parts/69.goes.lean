/-! thoughts: operations goes, would -/
section TH
variable {L d : Nat} {hc hm hc' hm' : zH} {x1 x2 x3 x4 : Int32} {P H : Nat}
theorem ycp_r {f : Nat → Nat → Int32} : ycp f f := ⟨fun _ _ _ => rfl, fun _ _ => rfl, fun _ _ _ _ _ => rfl, fun _ _ _ _ _ => rfl⟩
theorem RelP_think (R : RelP P H hc hm) (tM : RMk (hc' 3 0) (hm' 12 0 2) (hm' 12 0 9) (hm' 12 0 10) P H) (tb : RBk (hc' 10 0 2) (hm' 12 0 11)) (h1 : yTc 2 hc hc') (h2 : ∀ s j, ytm s j = false → s ≠ 5 → hm' 12 0 s j = hm 12 0 s j) : RelP P H hc' hm' := by
  obtain ⟨⟨rM, rp, rb, rl, rf, rh, rk, r0, r1, r2, r3, r4⟩, ra, rt, re, ri, rs⟩ := R
  have f1 : ∀ k i, (∀ s j, ytc 2 k i s j = false) → hc' k i = hc k i := fun k i q => funext fun s => funext fun j => h1 k i s j (q s j)
  have f2 : ∀ k i s, (∀ j, ytc 2 k i s j = false) → hc' k i s = hc k i s := fun k i s q => funext fun j => h1 k i s j (q j)
  have g1 : ∀ s, s ≠ 0 → s ≠ 5 → (yst s && !(Nat.beq s 2) && !(Nat.beq s 11)) = true → hm' 12 0 s = hm 12 0 s := fun s hs hs5 e => funext fun j => h2 s j (by
    unfold ytm ysc
    rw [if_neg hs]
    revert e
    cases yst s <;> cases Nat.beq s 2 <;> cases Nat.beq s 11 <;> decide) hs5
  have g2 : ∀ j, ysf j = true → hm' 12 0 0 j = hm 12 0 0 j := fun j e => h2 0 j (by unfold ytm ysc; rw [if_pos rfl, e]; rfl) (by omega)
  refine ⟨⟨tM, ?_, tb, ?_, ?_, ?_, ?_, ?_, ?_, ?_, ?_, ?_⟩, ?_, ?_, ?_, ?_, ?_⟩
  · rw [g2 6 (by decide), g2 7 (by decide)]; exact rp
  · rw [f1 2 0 (fun _ _ => rfl), g1 19 (by decide) (by decide) (by decide), g1 20 (by decide) (by decide) (by decide), g1 21 (by decide) (by decide) (by decide), g1 22 (by decide) (by decide) (by decide), g1 23 (by decide) (by decide) (by decide), g1 24 (by decide) (by decide) (by decide), g1 25 (by decide) (by decide) (by decide)]; exact rl
  · rw [f1 2 1 (fun _ _ => rfl), g1 36 (by decide) (by decide) (by decide), g2 34 (by decide)]; exact rf
  · rw [f1 2 2 (fun _ _ => rfl), g1 38 (by decide) (by decide) (by decide), g2 36 (by decide)]; exact rh
  · rw [f1 2 3 (fun _ _ => rfl), g1 40 (by decide) (by decide) (by decide), g2 38 (by decide)]; exact rk
  · rw [f1 8 0 (fun _ _ => rfl), g1 50 (by decide) (by decide) (by decide), g1 51 (by decide) (by decide) (by decide), g2 48 (by decide)]; exact r0
  · rw [f1 8 1 (fun _ _ => rfl), g1 53 (by decide) (by decide) (by decide), g2 51 (by decide)]; exact r1
  · rw [f1 8 2 (fun _ _ => rfl), g1 59 (by decide) (by decide) (by decide), g2 57 (by decide)]; exact r2
  · rw [f1 8 3 (fun _ _ => rfl), g1 61 (by decide) (by decide) (by decide), g2 59 (by decide)]; exact r3
  · rw [f1 8 4 (fun _ _ => rfl), g1 64 (by decide) (by decide) (by decide), g2 62 (by decide)]; exact r4
  · rw [f1 4 0 (fun _ _ => rfl), g1 3 (by decide) (by decide) (by decide), g1 9 (by decide) (by decide) (by decide), g1 10 (by decide) (by decide) (by decide), g2 3 (by decide)]
    refine RPa_c (fun i h1 h2 => f1 3 i (fun _ _ => ?_)) ra
    have : i = 3 ∨ i = 4 ∨ i = 5 ∨ i = 6 ∨ i = 7 ∨ i = 8 := by omega
    rcases this with rfl | rfl | rfl | rfl | rfl | rfl <;> rfl
  · rw [f2 7 0 1 (fun _ => rfl), h1 7 0 0 3 rfl, g1 12 (by decide) (by decide) (by decide), g2 12 (by decide)]; exact rt
  · rw [h1 6 0 0 4 rfl, h1 6 0 0 5 rfl, g2 32 (by decide), g2 33 (by decide)]; exact re
  · rw [f1 3 1 (fun _ _ => rfl), f1 10 1 (fun _ _ => rfl), f1 2 4 (fun _ _ => rfl), f1 2 5 (fun _ _ => rfl), f1 2 6 (fun _ _ => rfl), f1 2 7 (fun _ _ => rfl), f1 8 5 (fun _ _ => rfl), f1 8 6 (fun _ _ => rfl), f1 8 7 (fun _ _ => rfl), f1 8 8 (fun _ _ => rfl), f1 8 9 (fun _ _ => rfl), h1 11 0 0 9 rfl, g1 69 (by decide) (by decide) (by decide), g2 66 (by decide)]; exact ri
  · have e8 : hc' 8 = hc 8 := funext fun i => f1 8 i (fun _ _ => rfl)
    rw [e8, h1 0 0 2 0 rfl, h1 9 0 0 4 rfl, h1 9 0 0 5 rfl, f1 14 0 (fun _ _ => rfl), f1 15 0 (fun _ _ => rfl), g1 18 (by decide) (by decide) (by decide), g2 5 (by decide)]
    exact rs
/-- a thought begins, and what ends it -/
theorem yThink (R : RelP P H hc hm) : ∃ hcA hc1 hm1, (∀ d, zev L d 23 0 [some (.inr (.inl (3, 2, 0))), some (.inr (.inl (3, 0, 0)))] [] hc = some (none, hcA)) ∧ (∀ d, zev L d 86 0 [some (.inr (.inl (9, 0, 0))), some (.inr (.inl (3, 2, 0)))] [] hcA = some (none, hc1)) ∧ (∀ d, zev L d 165 0 [some (.inr (.inl (12, 0, 0))), none] [] hm = some (none, hm1)) ∧ TS 2 P H hc1 hm1 ∧ ycp (hc1 3 2) (hc 3 0) ∧ (∀ j, 6 ≤ j → hc1 9 0 0 j = hc 9 0 0 j) ∧
    ∀ hc2 hm2, TS 2 P H hc2 hm2 → yTc 2 hc1 hc2 → yTm hm1 hm2 → ∃ hc3 hm3, (∀ d, zev L d 87 0 [some (.inr (.inl (9, 0, 0)))] [] hc2 = some (none, hc3)) ∧ (∀ d, zev L d 166 0 [some (.inr (.inl (12, 0, 0))), none] [] hm2 = some (none, hm3)) ∧ RelP P H hc3 hm3 ∧ hc3 3 = hc2 3 ∧ hc3 3 0 = hc 3 0 := by
  obtain ⟨hcA, q1, q2, q3, q4⟩ := kCopy (L := L) (hc := hc) (i0 := 2) (i1 := 0) (by omega)
  obtain ⟨g2, k1, r1, r2, r3⟩ := zinv (P := fun x (g : zH) => fun d => zev L d 165 2 [some (.inr (.inl (12, 0, 0))), some (.inl (nI x))] [] g) (R := fun x g' => (∀ y, y < x → g' 12 0 5 y = hm 12 0 2 y) ∧ (∀ s, s ≠ 5 → g' 12 0 s = hm 12 0 s) ∧ (∀ s j, s ≠ 5 → g' 12 0 s j = hm 12 0 s j)) (N := 121) (fun x g' hx hr => by
      obtain ⟨r1, r3, r4⟩ := hr
      have u : g' 12 0 2 x = hm 12 0 2 x := by rw [r3 2 (by omega)]
      refine ⟨zup g' 12 0 5 x (hm 12 0 2 x), funext fun d => b165_2.trans ?_, fun y hy => ?_, fun s h1 => ?_, fun s j h1 => ?_⟩
      · simp (disch := first | omega | simp (disch := omega) only [nI_add, pk_mul, pk_sub, pk_div, znmod, nI_clamp, nIleT, nIleF, nIltT, nIltF, nIeqT, nIeqF, nIm1, nIm1q, zupE, zupN, vpT, nI_01, nI_11, ↓reduceIte, Option.bind_some, Option.toList_some, Option.toList_none, List.cons_append, List.nil_append, Nat.reduceAdd, Nat.reduceMul, Nat.reduceSub, Nat.reduceDiv, Nat.reduceMod, and_true, true_and, and_false, false_and, not_true_eq_false, not_false_eq_true, or_true, true_or, or_false, false_or, Int32.lt_irrefl, Int32.le_refl, u]) only [nI_add, pk_mul, pk_sub, pk_div, znmod, nI_clamp, nIleT, nIleF, nIltT, nIltF, nIeqT, nIeqF, nIm1, nIm1q, zupE, zupN, vpT, nI_01, nI_11, ↓reduceIte, Option.bind_some, Option.toList_some, Option.toList_none, List.cons_append, List.nil_append, Nat.reduceAdd, Nat.reduceMul, Nat.reduceSub, Nat.reduceDiv, Nat.reduceMod, and_true, true_and, and_false, false_and, not_true_eq_false, not_false_eq_true, or_true, true_or, or_false, false_or, Int32.lt_irrefl, Int32.le_refl, u, b165_8, b165_20]
      · by_cases e : y = x
        · rw [zupE (by omega), e]
        · rw [zupN (by omega)]; exact r1 y (by omega)
      · simp (disch := omega) only [zupK, zupF, fupd3I, fupd3F, fupd2S, fupd2F, fupdE, fupdN, zupAK, zupAF, fcp3I, fcp3F, fcp2S, fcp2F]
        exact r3 s h1
      · rw [zupN (by omega)]; exact r4 s j h1) 121 (Nat.le_refl _) hm ⟨fun y hy => absurd hy (Nat.not_lt_zero _), fun _ _ => rfl, fun _ _ _ => rfl⟩
  have hm1e : ∀ d, zev L d 165 0 [some (.inr (.inl (12, 0, 0))), none] [] hm = some (none, zup g2 12 0 0 5 (nI 1)) := fun d => by
    refine b165_0.trans ((congrFun k1 d).trans (b165_2.trans ?_))
    simp (disch := first | omega | simp (disch := omega) only [nI_add, pk_mul, pk_sub, pk_div, znmod, nI_clamp, nIleT, nIleF, nIltT, nIltF, nIeqT, nIeqF, nIm1, nIm1q, zupE, zupN, vpT, nI_01, nI_11, ↓reduceIte, Option.bind_some, Option.toList_some, Option.toList_none, List.cons_append, List.nil_append, Nat.reduceAdd, Nat.reduceMul, Nat.reduceSub, Nat.reduceDiv, Nat.reduceMod, and_true, true_and, and_false, false_and, not_true_eq_false, not_false_eq_true, or_true, true_or, or_false, false_or, Int32.lt_irrefl, Int32.le_refl]) only [nI_add, pk_mul, pk_sub, pk_div, znmod, nI_clamp, nIleT, nIleF, nIltT, nIltF, nIeqT, nIeqF, nIm1, nIm1q, zupE, zupN, vpT, nI_01, nI_11, ↓reduceIte, Option.bind_some, Option.toList_some, Option.toList_none, List.cons_append, List.nil_append, Nat.reduceAdd, Nat.reduceMul, Nat.reduceSub, Nat.reduceDiv, Nat.reduceMod, and_true, true_and, and_false, false_and, not_true_eq_false, not_false_eq_true, or_true, true_or, or_false, false_or, Int32.lt_irrefl, Int32.le_refl, b165_26, b165_31]
  obtain ⟨rW, ra, rt, re, ri, rs⟩ := id R
  have tc := TC_of rW rs
  obtain ⟨_, _, _, _, t6, t7, t8, t9, t10⟩ := id tc
  have o2 : Int32.ofNat 2 = nI 2 := rfl
  have o0 : Int32.ofNat 0 = nI 0 := rfl
  have cp : ycp ((zup (zup hcA 9 0 0 4 (nI 2)) 9 0 0 5 (nI 1)) 3 2) (hc 3 0) := by simp (disch := omega) only [zupK, zupF, fupd3I, fupd3F, fupd2S, fupd2F, fupdE, fupdN, zupAK, zupAF, fcp3I, fcp3F, fcp2S, fcp2F]; exact q2
  have e9 : hcA 9 = hc 9 := q3 9 (by omega)
  refine ⟨hcA, zup (zup hcA 9 0 0 4 (nI 2)) 9 0 0 5 (nI 1), zup g2 12 0 0 5 (nI 1), q1, fun d => ?_, hm1e, ⟨?_, ?_, ?_⟩, cp, fun j hj => ?_, fun hc2 hm2 ts2 tc2 tm2 => ?_⟩
  · simp (disch := first | omega | simp (disch := omega) only [nI_add, pk_mul, pk_sub, pk_div, znmod, nI_clamp, nIleT, nIleF, nIltT, nIltF, nIeqT, nIeqF, nIm1, nIm1q, zupE, zupN, vpT, nI_01, nI_11, ↓reduceIte, Option.bind_some, Option.toList_some, Option.toList_none, List.cons_append, List.nil_append, Nat.reduceAdd, Nat.reduceMul, Nat.reduceSub, Nat.reduceDiv, Nat.reduceMod, and_true, true_and, and_false, false_and, not_true_eq_false, not_false_eq_true, or_true, true_or, or_false, false_or, Int32.lt_irrefl, Int32.le_refl, o2]) only [nI_add, pk_mul, pk_sub, pk_div, znmod, nI_clamp, nIleT, nIleF, nIltT, nIltF, nIeqT, nIeqF, nIm1, nIm1q, zupE, zupN, vpT, nI_01, nI_11, ↓reduceIte, Option.bind_some, Option.toList_some, Option.toList_none, List.cons_append, List.nil_append, Nat.reduceAdd, Nat.reduceMul, Nat.reduceSub, Nat.reduceDiv, Nat.reduceMod, and_true, true_and, and_false, false_and, not_true_eq_false, not_false_eq_true, or_true, true_or, or_false, false_or, Int32.lt_irrefl, Int32.le_refl, o2, b86_0, b86_5, b86_10]
  · refine RMk_cp rW.1 cp (fun j hj => ?_) (fun j hj => ?_) (fun j hj => ?_)
    · rw [zupN (by omega)]; exact r3 2 j (by omega)
    · rw [zupN (by omega)]; exact r3 9 j (by omega)
    · rw [zupN (by omega)]; exact r3 10 j (by omega)
  · simp (disch := omega) only [zupK, zupF, fupd3I, fupd3F, fupd2S, fupd2F, fupdE, fupdN, zupAK, zupAF, fcp3I, fcp3F, fcp2S, fcp2F]
    rw [q3 10 (by omega), r2 11 (by omega)]
    exact rW.2.2.1
  · refine ⟨Or.inr rfl, ?_, ?_, ?_, ?_, ?_, ?_, ?_, ?_⟩
    · simp (disch := omega) only [zupK, zupF, fupd3I, fupd3F, fupd2S, fupd2F, fupdE, fupdN, zupAK, zupAF, fcp3I, fcp3F, fcp2S, fcp2F]
    · simp (disch := omega) only [zupK, zupF, fupd3I, fupd3F, fupd2S, fupd2F, fupdE, fupdN, zupAK, zupAF, fcp3I, fcp3F, fcp2S, fcp2F]
    · right; simp (disch := omega) only [zupK, zupF, fupd3I, fupd3F, fupd2S, fupd2F, fupdE, fupdN, zupAK, zupAF, fcp3I, fcp3F, fcp2S, fcp2F]
    · simp (disch := omega) only [zupK, zupF, fupd3I, fupd3F, fupd2S, fupd2F, fupdE, fupdN, zupAK, zupAF, fcp3I, fcp3F, fcp2S, fcp2F]
      rw [r2 0 (by omega)]
      exact t6
    · simp (disch := omega) only [zupK, zupF, fupd3I, fupd3F, fupd2S, fupd2F, fupdE, fupdN, zupAK, zupAF, fcp3I, fcp3F, fcp2S, fcp2F]
      rw [q3 2 (by omega), r2 19 (by omega), r2 20 (by omega), r2 21 (by omega), r2 22 (by omega), r2 23 (by omega), r2 24 (by omega), r2 25 (by omega)]
      exact t7
    · simp (disch := omega) only [zupK, zupF, fupd3I, fupd3F, fupd2S, fupd2F, fupdE, fupdN, zupAK, zupAF, fcp3I, fcp3F, fcp2S, fcp2F]
      rw [q3 2 (by omega), r2 36 (by omega), r2 0 (by omega)]
      exact t8
    · simp (disch := omega) only [zupK, zupF, fupd3I, fupd3F, fupd2S, fupd2F, fupdE, fupdN, zupAK, zupAF, fcp3I, fcp3F, fcp2S, fcp2F]
      rw [q3 2 (by omega), r2 38 (by omega), r2 0 (by omega)]
      exact t9
    · simp (disch := omega) only [zupK, zupF, fupd3I, fupd3F, fupd2S, fupd2F, fupdE, fupdN, zupAK, zupAF, fcp3I, fcp3F, fcp2S, fcp2F]
      rw [q3 2 (by omega), r2 40 (by omega), r2 0 (by omega)]
      exact t10
  · simp (disch := omega) only [zupK, zupF, fupd3I, fupd3F, fupd2S, fupd2F, fupdE, fupdN, zupAK, zupAF, fcp3I, fcp3F, fcp2S, fcp2F]
    rw [e9]
  · -- the thought ends
    have p5 : ∀ j, j < 121 → hm2 12 0 5 j = hm 12 0 2 j := fun j hj => by
      rw [tm2 5 j rfl, zupN (by omega)]; exact r1 j hj
    obtain ⟨g3, k3, u1, u2⟩ := zinv (P := fun x (g : zH) => fun d => zev L d 166 2 [some (.inr (.inl (12, 0, 0))), some (.inl (nI x))] [] g) (R := fun x g' => (∀ y, y < x → g' 12 0 2 y = hm 12 0 2 y) ∧ (∀ s j, s ≠ 2 → g' 12 0 s j = hm2 12 0 s j)) (N := 121) (fun x g' hx hr => by
      obtain ⟨u1, u2⟩ := hr
      have u : g' 12 0 5 x = hm 12 0 2 x := by rw [u2 5 x (by omega)]; exact p5 x hx
      refine ⟨zup g' 12 0 2 x (hm 12 0 2 x), funext fun d => b166_2.trans ?_, fun y hy => ?_, fun s j h1 => ?_⟩
      · simp (disch := first | omega | simp (disch := omega) only [nI_add, pk_mul, pk_sub, pk_div, znmod, nI_clamp, nIleT, nIleF, nIltT, nIltF, nIeqT, nIeqF, nIm1, nIm1q, zupE, zupN, vpT, nI_01, nI_11, ↓reduceIte, Option.bind_some, Option.toList_some, Option.toList_none, List.cons_append, List.nil_append, Nat.reduceAdd, Nat.reduceMul, Nat.reduceSub, Nat.reduceDiv, Nat.reduceMod, and_true, true_and, and_false, false_and, not_true_eq_false, not_false_eq_true, or_true, true_or, or_false, false_or, Int32.lt_irrefl, Int32.le_refl, u]) only [nI_add, pk_mul, pk_sub, pk_div, znmod, nI_clamp, nIleT, nIleF, nIltT, nIltF, nIeqT, nIeqF, nIm1, nIm1q, zupE, zupN, vpT, nI_01, nI_11, ↓reduceIte, Option.bind_some, Option.toList_some, Option.toList_none, List.cons_append, List.nil_append, Nat.reduceAdd, Nat.reduceMul, Nat.reduceSub, Nat.reduceDiv, Nat.reduceMod, and_true, true_and, and_false, false_and, not_true_eq_false, not_false_eq_true, or_true, true_or, or_false, false_or, Int32.lt_irrefl, Int32.le_refl, u, b166_8, b166_20]
      · by_cases e : y = x
        · rw [zupE (by omega), e]
        · rw [zupN (by omega)]; exact u1 y (by omega)
      · rw [zupN (by omega)]; exact u2 s j h1) 121 (Nat.le_refl _) hm2 ⟨fun y hy => absurd hy (Nat.not_lt_zero _), fun _ _ _ => rfl⟩
    have c30 : hc2 3 0 = hc 3 0 := by
      rw [← q4 0 (by omega)]
      exact funext fun s => funext fun j => (tc2 3 0 s j rfl).trans (by rw [zupN (by omega), zupN (by omega)])
    have n9 : ∀ s, (s = 9 ∨ s = 10) → ∀ j, g3 12 0 s j = hm 12 0 s j := fun s hs j => by
      rw [u2 s j (by omega), tm2 s j (by rcases hs with rfl | rfl <;> rfl), zupN (by omega)]
      exact r3 s j (by omega)
    refine ⟨zup (zup hc2 9 0 0 4 (nI 0)) 9 0 0 5 (nI 0), zup g3 12 0 0 5 (nI 0), fun d => ?_, fun d => ?_, RelP_think R ?_ ?_ ?_ ?_, ?_, ?_⟩
    · simp (disch := first | omega | simp (disch := omega) only [nI_add, pk_mul, pk_sub, pk_div, znmod, nI_clamp, nIleT, nIleF, nIltT, nIltF, nIeqT, nIeqF, nIm1, nIm1q, zupE, zupN, vpT, nI_01, nI_11, ↓reduceIte, Option.bind_some, Option.toList_some, Option.toList_none, List.cons_append, List.nil_append, Nat.reduceAdd, Nat.reduceMul, Nat.reduceSub, Nat.reduceDiv, Nat.reduceMod, and_true, true_and, and_false, false_and, not_true_eq_false, not_false_eq_true, or_true, true_or, or_false, false_or, Int32.lt_irrefl, Int32.le_refl, o0]) only [nI_add, pk_mul, pk_sub, pk_div, znmod, nI_clamp, nIleT, nIleF, nIltT, nIltF, nIeqT, nIeqF, nIm1, nIm1q, zupE, zupN, vpT, nI_01, nI_11, ↓reduceIte, Option.bind_some, Option.toList_some, Option.toList_none, List.cons_append, List.nil_append, Nat.reduceAdd, Nat.reduceMul, Nat.reduceSub, Nat.reduceDiv, Nat.reduceMod, and_true, true_and, and_false, false_and, not_true_eq_false, not_false_eq_true, or_true, true_or, or_false, false_or, Int32.lt_irrefl, Int32.le_refl, o0, b87_0, b87_11, b87_16]
    · refine b166_0.trans ((congrFun k3 d).trans (b166_2.trans ?_))
      simp (disch := first | omega | simp (disch := omega) only [nI_add, pk_mul, pk_sub, pk_div, znmod, nI_clamp, nIleT, nIleF, nIltT, nIltF, nIeqT, nIeqF, nIm1, nIm1q, zupE, zupN, vpT, nI_01, nI_11, ↓reduceIte, Option.bind_some, Option.toList_some, Option.toList_none, List.cons_append, List.nil_append, Nat.reduceAdd, Nat.reduceMul, Nat.reduceSub, Nat.reduceDiv, Nat.reduceMod, and_true, true_and, and_false, false_and, not_true_eq_false, not_false_eq_true, or_true, true_or, or_false, false_or, Int32.lt_irrefl, Int32.le_refl]) only [nI_add, pk_mul, pk_sub, pk_div, znmod, nI_clamp, nIleT, nIleF, nIltT, nIltF, nIeqT, nIeqF, nIm1, nIm1q, zupE, zupN, vpT, nI_01, nI_11, ↓reduceIte, Option.bind_some, Option.toList_some, Option.toList_none, List.cons_append, List.nil_append, Nat.reduceAdd, Nat.reduceMul, Nat.reduceSub, Nat.reduceDiv, Nat.reduceMod, and_true, true_and, and_false, false_and, not_true_eq_false, not_false_eq_true, or_true, true_or, or_false, false_or, Int32.lt_irrefl, Int32.le_refl, b166_26, b166_31]
    · simp (disch := omega) only [zupK, zupF, fupd3I, fupd3F, fupd2S, fupd2F, fupdE, fupdN, zupAK, zupAF, fcp3I, fcp3F, fcp2S, fcp2F]
      rw [c30]
      exact RMk_cp rW.1 ycp_r u1 (fun j _ => n9 9 (by omega) j) (fun j _ => n9 10 (by omega) j)
    · simp (disch := omega) only [zupK, zupF, fupd3I, fupd3F, fupd2S, fupd2F, fupdE, fupdN, zupAK, zupAF, fcp3I, fcp3F, fcp2S, fcp2F]
      have : g3 12 0 11 = hm2 12 0 11 := funext fun j => u2 11 j (by omega)
      rw [this]
      exact ts2.2.1
    · intro k i s j e
      by_cases c4 : k = 9 ∧ i = 0 ∧ s = 0 ∧ j = 4
      · obtain ⟨rfl, rfl, rfl, rfl⟩ := c4
        rw [zupN (by omega), zupE (by omega)]
        exact rs.1.1.symm
      · by_cases c5 : k = 9 ∧ i = 0 ∧ s = 0 ∧ j = 5
        · obtain ⟨rfl, rfl, rfl, rfl⟩ := c5
          rw [zupE (by omega)]
          exact rs.1.2.1.symm
        · rw [zupN (by omega), zupN (by omega), tc2 k i s j e, zupN (by omega), zupN (by omega)]
          by_cases ck : k = 3
          · subst ck
            by_cases ci : i = 2
            · subst ci
              rw [ytc3] at e
              cases e
            · rw [q4 i ci]
          · rw [q3 k ck]
    · intro s j e hs
      by_cases c5 : s = 0 ∧ j = 5
      · obtain ⟨rfl, rfl⟩ := c5
        rw [zupE (by omega)]
        exact rs.1.2.2.1.symm
      · have h2 : s ≠ 2 := fun h => by
          subst h
          cases e
        rw [zupN (by omega), u2 s j h2, tm2 s j e, zupN (by omega)]
        exact r3 s j hs
    · simp (disch := omega) only [zupK, zupF, fupd3I, fupd3F, fupd2S, fupd2F, fupdE, fupdN, zupAK, zupAF, fcp3I, fcp3F, fcp2S, fcp2F]
    · simp (disch := omega) only [zupK, zupF, fupd3I, fupd3F, fupd2S, fupd2F, fupdE, fupdN, zupAK, zupAF, fcp3I, fcp3F, fcp2S, fcp2F]
      exact c30
end TH
