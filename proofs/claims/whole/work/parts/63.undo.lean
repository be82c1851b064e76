/-! operations hand, undo -/
def RelP (P H : Nat) (hc hm : zH) : Prop := RWv (hc 3 0) (hc 10 0 2) (hc 2 0) (hc 2 1) (hc 2 2) (hc 2 3) (hc 8 0) (hc 8 1) (hc 8 2) (hc 8 3) (hc 8 4) (hm 12 0) P H ∧
  RPa (hc 3) (hc 4 0 0) (hm 12 0 0 3) (hm 12 0 3) (hm 12 0 9) (hm 12 0 10) P H ∧ RTp (hc 7 0 1) (hc 7 0 0 3) (hm 12 0 12) (hm 12 0 0 12) ∧ (hm 12 0 0 32 = hc 6 0 0 4 ∧ hm 12 0 0 33 = hc 6 0 0 5) ∧
  RIm (hc 3 1) (hc 10 1 2) (hc 2 4) (hc 2 5) (hc 2 6) (hc 2 7) (hc 8 5) (hc 8 6) (hc 8 7) (hc 8 8) (hc 8 9) (hc 11 0 0 9) (hm 12 0 0 66) (hm 12 0 69) ∧
  RSt (hc 0 0 2 0) (hc 8) (hc 9 0 0 4) (hc 9 0 0 5) (hm 12 0 0 5) (hc 14 0 0) (hc 15 0 0) (hc 15 0 1) (hm 12 0 18)
section UN
variable {L d : Nat} {hc hm hc' hm' : zH} {x1 x2 : Int32} {P H : Nat}
theorem RelP_y (R : RelP P H hc hm) (h1 : yC hc hc') (h2 : yM hm hm') : RelP P H hc' hm' := by
  obtain ⟨⟨rM, rp, rb, rl, rf, rh, rk, r0, r1, r2, r3, r4⟩, ra, rt, re, ri, rs⟩ := R
  have f1 : ∀ k i, (∀ s j, ycc k i s j = false) → hc' k i = hc k i := fun k i q => funext fun s => funext fun j => h1 k i s j (q s j)
  have f2 : ∀ k i s, (∀ j, ycc k i s j = false) → hc' k i s = hc k i s := fun k i s q => funext fun j => h1 k i s j (q j)
  refine ⟨⟨?_, ?_, ?_, ?_, ?_, ?_, ?_, ?_, ?_, ?_, ?_, ?_⟩, ?_, ?_, ?_, ?_, ?_⟩
  · rw [f1 3 0 (fun _ _ => rfl), yM_s h2 2 (by decide) (by decide), yM_s h2 9 (by decide) (by decide), yM_s h2 10 (by decide) (by decide)]; exact rM
  · rw [yM_f h2 6 (by decide), yM_f h2 7 (by decide)]; exact rp
  · rw [f1 10 0 (fun _ _ => rfl), yM_s h2 11 (by decide) (by decide)]; exact rb
  · rw [f1 2 0 (fun _ _ => rfl), yM_s h2 19 (by decide) (by decide), yM_s h2 20 (by decide) (by decide), yM_s h2 21 (by decide) (by decide), yM_s h2 22 (by decide) (by decide), yM_s h2 23 (by decide) (by decide), yM_s h2 24 (by decide) (by decide), yM_s h2 25 (by decide) (by decide)]; exact rl
  · rw [f1 2 1 (fun _ _ => rfl), yM_s h2 36 (by decide) (by decide), yM_f h2 34 (by decide)]; exact rf
  · rw [f1 2 2 (fun _ _ => rfl), yM_s h2 38 (by decide) (by decide), yM_f h2 36 (by decide)]; exact rh
  · rw [f1 2 3 (fun _ _ => rfl), yM_s h2 40 (by decide) (by decide), yM_f h2 38 (by decide)]; exact rk
  · rw [f1 8 0 (fun _ _ => rfl), yM_s h2 50 (by decide) (by decide), yM_s h2 51 (by decide) (by decide), yM_f h2 48 (by decide)]; exact r0
  · rw [f1 8 1 (fun _ _ => rfl), yM_s h2 53 (by decide) (by decide), yM_f h2 51 (by decide)]; exact r1
  · rw [f1 8 2 (fun _ _ => rfl), yM_s h2 59 (by decide) (by decide), yM_f h2 57 (by decide)]; exact r2
  · rw [f1 8 3 (fun _ _ => rfl), yM_s h2 61 (by decide) (by decide), yM_f h2 59 (by decide)]; exact r3
  · rw [f1 8 4 (fun _ _ => rfl), yM_s h2 64 (by decide) (by decide), yM_f h2 62 (by decide)]; exact r4
  · rw [f1 4 0 (fun _ _ => rfl), yM_s h2 3 (by decide) (by decide), yM_s h2 9 (by decide) (by decide), yM_s h2 10 (by decide) (by decide), yM_f h2 3 (by decide)]
    refine RPa_c (fun i h1 h2 => f1 3 i (fun _ _ => ?_)) ra
    have : i = 3 ∨ i = 4 ∨ i = 5 ∨ i = 6 ∨ i = 7 ∨ i = 8 := by omega
    rcases this with rfl | rfl | rfl | rfl | rfl | rfl <;> rfl
  · rw [f2 7 0 1 (fun _ => rfl), h1 7 0 0 3 rfl, yM_s h2 12 (by decide) (by decide), yM_f h2 12 (by decide)]; exact rt
  · rw [h1 6 0 0 4 rfl, h1 6 0 0 5 rfl, yM_f h2 32 (by decide), yM_f h2 33 (by decide)]; exact re
  · rw [f1 3 1 (fun _ _ => rfl), f1 10 1 (fun _ _ => rfl), f1 2 4 (fun _ _ => rfl), f1 2 5 (fun _ _ => rfl), f1 2 6 (fun _ _ => rfl), f1 2 7 (fun _ _ => rfl), f1 8 5 (fun _ _ => rfl), f1 8 6 (fun _ _ => rfl), f1 8 7 (fun _ _ => rfl), f1 8 8 (fun _ _ => rfl), f1 8 9 (fun _ _ => rfl), h1 11 0 0 9 rfl, yM_s h2 69 (by decide) (by decide), yM_f h2 66 (by decide)]; exact ri
  · have e8 : hc' 8 = hc 8 := funext fun i => f1 8 i (fun _ _ => rfl)
    rw [e8, h1 0 0 2 0 rfl, h1 9 0 0 4 rfl, h1 9 0 0 5 rfl, f1 14 0 (fun _ _ => rfl), f1 15 0 (fun _ _ => rfl), yM_s h2 18 (by decide) (by decide), yM_f h2 5 (by decide)]; exact rs
/-- the past alone changes -/
theorem RelP_past (R : RelP P H hc hm) (ra' : RPa (hc' 3) (hc' 4 0 0) (hm' 12 0 0 3) (hm' 12 0 3) (hm' 12 0 9) (hm' 12 0 10) P H)
    (h1 : ∀ k, k ≠ 3 → k ≠ 4 → hc' k = hc k) (h2 : ∀ i, i < 3 → hc' 3 i = hc 3 i) (h3 : ∀ s, s ≠ 0 → s ≠ 3 → hm' 12 0 s = hm 12 0 s) (h4 : ∀ j, j ≠ 3 → hm' 12 0 0 j = hm 12 0 0 j) : RelP P H hc' hm' := by
  obtain ⟨⟨rM, rp, rb, rl, rf, rh, rk, r0, r1, r2, r3, r4⟩, ra, rt, re, ri, rs⟩ := R
  refine ⟨⟨?_, ?_, ?_, ?_, ?_, ?_, ?_, ?_, ?_, ?_, ?_, ?_⟩, ra', ?_, ?_, ?_, ?_⟩
  · rw [h2 0 (by omega), h3 2 (by omega) (by omega), h3 9 (by omega) (by omega), h3 10 (by omega) (by omega)]; exact rM
  · rw [h4 6 (by omega), h4 7 (by omega)]; exact rp
  · rw [h1 10 (by omega) (by omega), h3 11 (by omega) (by omega)]; exact rb
  · rw [h1 2 (by omega) (by omega), h3 19 (by omega) (by omega), h3 20 (by omega) (by omega), h3 21 (by omega) (by omega), h3 22 (by omega) (by omega), h3 23 (by omega) (by omega), h3 24 (by omega) (by omega), h3 25 (by omega) (by omega)]; exact rl
  · rw [h1 2 (by omega) (by omega), h3 36 (by omega) (by omega), h4 34 (by omega)]; exact rf
  · rw [h1 2 (by omega) (by omega), h3 38 (by omega) (by omega), h4 36 (by omega)]; exact rh
  · rw [h1 2 (by omega) (by omega), h3 40 (by omega) (by omega), h4 38 (by omega)]; exact rk
  · rw [h1 8 (by omega) (by omega), h3 50 (by omega) (by omega), h3 51 (by omega) (by omega), h4 48 (by omega)]; exact r0
  · rw [h1 8 (by omega) (by omega), h3 53 (by omega) (by omega), h4 51 (by omega)]; exact r1
  · rw [h1 8 (by omega) (by omega), h3 59 (by omega) (by omega), h4 57 (by omega)]; exact r2
  · rw [h1 8 (by omega) (by omega), h3 61 (by omega) (by omega), h4 59 (by omega)]; exact r3
  · rw [h1 8 (by omega) (by omega), h3 64 (by omega) (by omega), h4 62 (by omega)]; exact r4
  · rw [h1 7 (by omega) (by omega), h3 12 (by omega) (by omega), h4 12 (by omega)]; exact rt
  · rw [h1 6 (by omega) (by omega), h4 32 (by omega), h4 33 (by omega)]; exact re
  · rw [h2 1 (by omega), h1 10 (by omega) (by omega), h1 2 (by omega) (by omega), h1 8 (by omega) (by omega), h1 11 (by omega) (by omega), h4 66 (by omega), h3 69 (by omega) (by omega)]; exact ri
  · rw [h1 0 (by omega) (by omega), h1 8 (by omega) (by omega), h1 9 (by omega) (by omega), h1 14 (by omega) (by omega), h1 15 (by omega) (by omega), h4 5 (by omega), h3 18 (by omega) (by omega)]; exact rs
/-- a trade in the market that is -/
theorem RelP_trade (R : RelP P H hc hm) (ts : TS 0 P H hc' hm') (h1 : yTc 0 hc hc') (h2 : yTm hm hm') (h5 : hc' 9 0 0 5 = nI 0) : RelP P H hc' hm' := by
  obtain ⟨⟨rM, rp, rb, rl, rf, rh, rk, r0, r1, r2, r3, r4⟩, ra, rt, re, ri, rs⟩ := R
  have f1 : ∀ k i, (∀ s j, ytc 0 k i s j = false) → hc' k i = hc k i := fun k i q => funext fun s => funext fun j => h1 k i s j (q s j)
  have f2 : ∀ k i s, (∀ j, ytc 0 k i s j = false) → hc' k i s = hc k i s := fun k i s q => funext fun j => h1 k i s j (q j)
  have g1 : ∀ s, s ≠ 0 → (yst s && !(Nat.beq s 2) && !(Nat.beq s 11)) = true → hm' 12 0 s = hm 12 0 s := fun s hs e => funext fun j => h2 s j (by
    unfold ytm ysc
    rw [if_neg hs]
    revert e
    cases yst s <;> cases Nat.beq s 2 <;> cases Nat.beq s 11 <;> decide)
  have g2 : ∀ j, ysf j = true → hm' 12 0 0 j = hm 12 0 0 j := fun j e => h2 0 j (by unfold ytm ysc; rw [if_pos rfl, e]; rfl)
  obtain ⟨tM, tb, tc⟩ := ts
  obtain ⟨_, t4, t5, t6, t7, t8, t9, t10, t11⟩ := tc
  refine ⟨⟨tM, t7, tb, t8, t9, t10, t11, ?_, ?_, ?_, ?_, ?_⟩, ?_, ?_, ?_, ?_, ?_⟩
  · rw [f1 8 0 (fun _ _ => rfl), g1 50 (by decide) (by decide), g1 51 (by decide) (by decide), g2 48 (by decide)]; exact r0
  · rw [f1 8 1 (fun _ _ => rfl), g1 53 (by decide) (by decide), g2 51 (by decide)]; exact r1
  · rw [f1 8 2 (fun _ _ => rfl), g1 59 (by decide) (by decide), g2 57 (by decide)]; exact r2
  · rw [f1 8 3 (fun _ _ => rfl), g1 61 (by decide) (by decide), g2 59 (by decide)]; exact r3
  · rw [f1 8 4 (fun _ _ => rfl), g1 64 (by decide) (by decide), g2 62 (by decide)]; exact r4
  · rw [f1 4 0 (fun _ _ => rfl), g1 3 (by decide) (by decide), g1 9 (by decide) (by decide), g1 10 (by decide) (by decide), g2 3 (by decide)]
    refine RPa_c (fun i h1 h2 => f1 3 i (fun _ _ => ?_)) ra
    have : i = 3 ∨ i = 4 ∨ i = 5 ∨ i = 6 ∨ i = 7 ∨ i = 8 := by omega
    rcases this with rfl | rfl | rfl | rfl | rfl | rfl <;> rfl
  · rw [f2 7 0 1 (fun _ => rfl), h1 7 0 0 3 rfl, g1 12 (by decide) (by decide), g2 12 (by decide)]; exact rt
  · rw [h1 6 0 0 4 rfl, h1 6 0 0 5 rfl, g2 32 (by decide), g2 33 (by decide)]; exact re
  · rw [f1 3 1 (fun _ _ => rfl), f1 10 1 (fun _ _ => rfl), f1 2 4 (fun _ _ => rfl), f1 2 5 (fun _ _ => rfl), f1 2 6 (fun _ _ => rfl), f1 2 7 (fun _ _ => rfl), f1 8 5 (fun _ _ => rfl), f1 8 6 (fun _ _ => rfl), f1 8 7 (fun _ _ => rfl), f1 8 8 (fun _ _ => rfl), f1 8 9 (fun _ _ => rfl), h1 11 0 0 9 rfl, g1 69 (by decide) (by decide), g2 66 (by decide)]; exact ri
  · have e8 : hc' 8 = hc 8 := funext fun i => f1 8 i (fun _ _ => rfl)
    have e5 : hm' 12 0 0 5 = nI 0 := t5.symm.trans h5
    obtain ⟨⟨s1, s2, s3, s4⟩, s5, s6, s7, s8⟩ := rs
    rw [e8, h1 0 0 2 0 rfl, f1 14 0 (fun _ _ => rfl), f1 15 0 (fun _ _ => rfl), g1 18 (by decide) (by decide)]
    exact ⟨⟨t4, h5, e5, s4⟩, s5, s6, s7, s8⟩
theorem o_hand (R : Rel hc hm) : zS2 (zev L (d + 20) 117 0 [some (.inr (.inl (11, 0, 0))), some (.inl x1), some (.inl x2), none] [] hc) (zev L (d + 20) 235 0 [some (.inr (.inl (12, 0, 0))), some (.inl x1), some (.inl x2)] [] hm) Rel := by
  have R' := R
  obtain ⟨P, H, R1⟩ := R
  have R1 : RelP P H hc hm := R1
  have rM := R1.1.1
  have e8 : hc 3 0 0 8 = nI P := rM.1.1
  have hP : P ≤ 12 := rM.1.2.2.1
  have e6 : hm 12 0 0 6 = nI P := R1.1.2.1.1
  rcases zargL x1 P (by omega) with ⟨a, ha, rfl⟩ | q1
  · rcases zarg x2 2 (by omega) with ⟨v, hv, rfl⟩ | q2
    · have h1 := (rM.2.2.2.2.2.1 a (by omega)).1
      by_cases hh : hc 3 0 3 a = nI v
      · simp (disch := first | omega | simp (disch := omega) only [nI_add, pk_mul, pk_sub, pk_div, znmod, nI_clamp, nIleT, nIleF, nIltT, nIltF, nIeqT, nIeqF, nIm1, nIm1q, zupE, zupN, vpT, nI_01, nI_11, ↓reduceIte, Option.bind_some, Option.toList_some, Option.toList_none, List.cons_append, List.nil_append, Nat.reduceAdd, Nat.reduceMul, Nat.reduceSub, Nat.reduceDiv, Nat.reduceMod, and_true, true_and, and_false, false_and, not_true_eq_false, not_false_eq_true, or_true, true_or, or_false, false_or, Int32.lt_irrefl, Int32.le_refl, kPers, mPers, kw, mIn, e8, e6, hh, h1]) only [nI_add, pk_mul, pk_sub, pk_div, znmod, nI_clamp, nIleT, nIleF, nIltT, nIltF, nIeqT, nIeqF, nIm1, nIm1q, zupE, zupN, vpT, nI_01, nI_11, ↓reduceIte, Option.bind_some, Option.toList_some, Option.toList_none, List.cons_append, List.nil_append, Nat.reduceAdd, Nat.reduceMul, Nat.reduceSub, Nat.reduceDiv, Nat.reduceMod, and_true, true_and, and_false, false_and, not_true_eq_false, not_false_eq_true, or_true, true_or, or_false, false_or, Int32.lt_irrefl, Int32.le_refl, kPers, mPers, kw, mIn, e8, e6, hh, h1, b117_0, b117_13, b117_16, b117_22, b117_25, b117_35, b117_37, b117_45, b117_52, b235_0, b235_5, b235_10, b235_13, b235_20, b235_23, b235_36, b235_38, b235_42, b235_52]
        exact zS2_no R'
      · have R2 : RelP P H hc (zup hm 12 0 0 0 (nI 0)) := RelP_y R1 yC_r (yM_u yM_r rfl)
        obtain ⟨hc1, hm1, k1, k2, k3, k4, k5, k6, k7⟩ := yKeep (L := L) R2.1.1 R2.2.1
        have R3 := RelP_past R2 k3 k4 k5 k6 k7
        simp (disch := first | omega | simp (disch := omega) only [nI_add, pk_mul, pk_sub, pk_div, znmod, nI_clamp, nIleT, nIleF, nIltT, nIltF, nIeqT, nIeqF, nIm1, nIm1q, zupE, zupN, vpT, nI_01, nI_11, ↓reduceIte, Option.bind_some, Option.toList_some, Option.toList_none, List.cons_append, List.nil_append, Nat.reduceAdd, Nat.reduceMul, Nat.reduceSub, Nat.reduceDiv, Nat.reduceMod, and_true, true_and, and_false, false_and, not_true_eq_false, not_false_eq_true, or_true, true_or, or_false, false_or, Int32.lt_irrefl, Int32.le_refl, kPers, mPers, kw, mIn, e8, e6, hh, h1, k1, k2]) only [nI_add, pk_mul, pk_sub, pk_div, znmod, nI_clamp, nIleT, nIleF, nIltT, nIltF, nIeqT, nIeqF, nIm1, nIm1q, zupE, zupN, vpT, nI_01, nI_11, ↓reduceIte, Option.bind_some, Option.toList_some, Option.toList_none, List.cons_append, List.nil_append, Nat.reduceAdd, Nat.reduceMul, Nat.reduceSub, Nat.reduceDiv, Nat.reduceMod, and_true, true_and, and_false, false_and, not_true_eq_false, not_false_eq_true, or_true, true_or, or_false, false_or, Int32.lt_irrefl, Int32.le_refl, kPers, mPers, kw, mIn, e8, e6, hh, h1, k1, k2, b117_0, b117_13, b117_16, b117_22, b117_25, b117_35, b117_37, b117_45, b117_52, b235_0, b235_5, b235_10, b235_13, b235_20, b235_23, b235_36, b235_38, b235_42, b235_52]
        refine ⟨_, _, _, rfl, rfl, P, H, RelP_trade R3 ⟨?_, ?_, TC_t (TC_of R3.1 R3.2.2.2.2.2) (yTc_u yTc_r rfl) (yTm_u yTm_r rfl)⟩ (yTc_u yTc_r rfl) (yTm_u yTm_r rfl) ?_⟩
        · simp (disch := omega) only [zupK, zupF, fupd3I, fupd3F, fupd2S, fupd2F, fupdE, fupdN, zupAK, zupAF, fcp3I, fcp3F, fcp2S, fcp2F]
          exact RMk_hand ha R3.1.1
        · simp (disch := omega) only [zupK, zupF, fupd3I, fupd3F, fupd2S, fupd2F, fupdE, fupdN, zupAK, zupAF, fcp3I, fcp3F, fcp2S, fcp2F]
          exact R3.1.2.2.1
        · simp (disch := omega) only [zupK, zupF, fupd3I, fupd3F, fupd2S, fupd2F, fupdE, fupdN, zupAK, zupAF, fcp3I, fcp3F, fcp2S, fcp2F]
          exact R3.2.2.2.2.2.1.2.1
    · simp (disch := first | omega | simp (disch := omega) only [nI_add, pk_mul, pk_sub, pk_div, znmod, nI_clamp, nIleT, nIleF, nIltT, nIltF, nIeqT, nIeqF, nIm1, nIm1q, zupE, zupN, vpT, nI_01, nI_11, ↓reduceIte, Option.bind_some, Option.toList_some, Option.toList_none, List.cons_append, List.nil_append, Nat.reduceAdd, Nat.reduceMul, Nat.reduceSub, Nat.reduceDiv, Nat.reduceMod, and_true, true_and, and_false, false_and, not_true_eq_false, not_false_eq_true, or_true, true_or, or_false, false_or, Int32.lt_irrefl, Int32.le_refl, kPers, mPers, kw, mIn, e8, e6, q2]) only [nI_add, pk_mul, pk_sub, pk_div, znmod, nI_clamp, nIleT, nIleF, nIltT, nIltF, nIeqT, nIeqF, nIm1, nIm1q, zupE, zupN, vpT, nI_01, nI_11, ↓reduceIte, Option.bind_some, Option.toList_some, Option.toList_none, List.cons_append, List.nil_append, Nat.reduceAdd, Nat.reduceMul, Nat.reduceSub, Nat.reduceDiv, Nat.reduceMod, and_true, true_and, and_false, false_and, not_true_eq_false, not_false_eq_true, or_true, true_or, or_false, false_or, Int32.lt_irrefl, Int32.le_refl, kPers, mPers, kw, mIn, e8, e6, q2, b117_0, b117_13, b117_16, b117_22, b117_25, b117_35, b117_37, b117_45, b117_52, b235_0, b235_5, b235_10, b235_13, b235_20, b235_23, b235_36, b235_38, b235_42, b235_52]
      exact zS2_no R'
  · simp (disch := first | omega | simp (disch := omega) only [nI_add, pk_mul, pk_sub, pk_div, znmod, nI_clamp, nIleT, nIleF, nIltT, nIltF, nIeqT, nIeqF, nIm1, nIm1q, zupE, zupN, vpT, nI_01, nI_11, ↓reduceIte, Option.bind_some, Option.toList_some, Option.toList_none, List.cons_append, List.nil_append, Nat.reduceAdd, Nat.reduceMul, Nat.reduceSub, Nat.reduceDiv, Nat.reduceMod, and_true, true_and, and_false, false_and, not_true_eq_false, not_false_eq_true, or_true, true_or, or_false, false_or, Int32.lt_irrefl, Int32.le_refl, kPers, mPers, kw, mIn, e8, e6, q1]) only [nI_add, pk_mul, pk_sub, pk_div, znmod, nI_clamp, nIleT, nIleF, nIltT, nIltF, nIeqT, nIeqF, nIm1, nIm1q, zupE, zupN, vpT, nI_01, nI_11, ↓reduceIte, Option.bind_some, Option.toList_some, Option.toList_none, List.cons_append, List.nil_append, Nat.reduceAdd, Nat.reduceMul, Nat.reduceSub, Nat.reduceDiv, Nat.reduceMod, and_true, true_and, and_false, false_and, not_true_eq_false, not_false_eq_true, or_true, true_or, or_false, false_or, Int32.lt_irrefl, Int32.le_refl, kPers, mPers, kw, mIn, e8, e6, q1, b117_0, b117_13, b117_16, b117_22, b117_25, b117_35, b117_37, b117_45, b117_52, b235_0, b235_5, b235_10, b235_13, b235_20, b235_23, b235_36, b235_38, b235_42, b235_52]
    exact zS2_no R'
theorem o_undo (R : Rel hc hm) : zS2 (zev L (d + 20) 150 0 [some (.inr (.inl (11, 0, 0)))] [] hc) (zev L (d + 20) 164 0 [some (.inr (.inl (12, 0, 0))), none] [] hm) Rel := by
  have R' := R
  obtain ⟨P, H, R1⟩ := R
  have R1 : RelP P H hc hm := R1
  obtain ⟨n, C, hn, hC, e1, e2, e3, hk⟩ := id R1.2.1
  by_cases c0 : C = 0
  · subst c0
    simp (disch := first | omega | simp (disch := omega) only [nI_add, pk_mul, pk_sub, pk_div, znmod, nI_clamp, nIleT, nIleF, nIltT, nIltF, nIeqT, nIeqF, nIm1, nIm1q, zupE, zupN, vpT, nI_01, nI_11, ↓reduceIte, Option.bind_some, Option.toList_some, Option.toList_none, List.cons_append, List.nil_append, Nat.reduceAdd, Nat.reduceMul, Nat.reduceSub, Nat.reduceDiv, Nat.reduceMod, and_true, true_and, and_false, false_and, not_true_eq_false, not_false_eq_true, or_true, true_or, or_false, false_or, Int32.lt_irrefl, Int32.le_refl, e2, e3]) only [nI_add, pk_mul, pk_sub, pk_div, znmod, nI_clamp, nIleT, nIleF, nIltT, nIltF, nIeqT, nIeqF, nIm1, nIm1q, zupE, zupN, vpT, nI_01, nI_11, ↓reduceIte, Option.bind_some, Option.toList_some, Option.toList_none, List.cons_append, List.nil_append, Nat.reduceAdd, Nat.reduceMul, Nat.reduceSub, Nat.reduceDiv, Nat.reduceMod, and_true, true_and, and_false, false_and, not_true_eq_false, not_false_eq_true, or_true, true_or, or_false, false_or, Int32.lt_irrefl, Int32.le_refl, e2, e3, b150_0, b150_10, b150_12, b150_26, b164_0, b164_5, b164_12, b164_14, b164_24, b164_26, b164_32, b164_52, b164_58]
    exact zS2_no R'
  · have hq := hk 0 (by omega)
    have en : (n + 5 - 0) % 6 = (n + 5) % 6 := by rw [Nat.sub_zero]
    rw [en] at hq
    have hlt : (n + 5) % 6 < 6 := Nat.mod_lt _ (by omega)
    obtain ⟨hc1, q1, q2, q3, q4⟩ := kCopy (L := L) (hc := zup (zup hc 4 0 0 1 (nI ((n + 5) % 6))) 4 0 0 2 (nI (C - 1))) (i0 := 0) (i1 := 3 + (n + 5) % 6) (by omega)
    obtain ⟨g2, k1, r1, r2, r3, r4⟩ := zinv (P := fun x (g : zH) => zev L (d + 20) 164 26 [some (.inr (.inl (12, 0, 0))), some (.inl (nI x))] [] g) (R := fun x g' => (∀ y, y < x → g' 12 0 2 y = hm 12 0 3 (121 * (C - 1) + y)) ∧ g' 12 0 0 3 = nI (C - 1) ∧ (∀ s, s ≠ 0 → s ≠ 2 → g' 12 0 s = hm 12 0 s) ∧ (∀ j, j ≠ 3 → j ≠ 0 → g' 12 0 0 j = hm 12 0 0 j)) (N := 121) (fun x g' hx hr => by
      obtain ⟨r1, r3, r4, r5⟩ := hr
      have u : g' 12 0 3 (121 * (C - 1) + x) = hm 12 0 3 (121 * (C - 1) + x) := by rw [r4 3 (by omega) (by omega)]
      refine ⟨zup g' 12 0 2 x (hm 12 0 3 (121 * (C - 1) + x)), b164_26.trans ?_, fun y hy => ?_, ?_, fun s h1 h2 => ?_, fun j hj hj2 => ?_⟩
      · simp (disch := first | omega | simp (disch := omega) only [nI_add, pk_mul, pk_sub, pk_div, znmod, nI_clamp, nIleT, nIleF, nIltT, nIltF, nIeqT, nIeqF, nIm1, nIm1q, zupE, zupN, vpT, nI_01, nI_11, ↓reduceIte, Option.bind_some, Option.toList_some, Option.toList_none, List.cons_append, List.nil_append, Nat.reduceAdd, Nat.reduceMul, Nat.reduceSub, Nat.reduceDiv, Nat.reduceMod, and_true, true_and, and_false, false_and, not_true_eq_false, not_false_eq_true, or_true, true_or, or_false, false_or, Int32.lt_irrefl, Int32.le_refl, r3, u]) only [nI_add, pk_mul, pk_sub, pk_div, znmod, nI_clamp, nIleT, nIleF, nIltT, nIltF, nIeqT, nIeqF, nIm1, nIm1q, zupE, zupN, vpT, nI_01, nI_11, ↓reduceIte, Option.bind_some, Option.toList_some, Option.toList_none, List.cons_append, List.nil_append, Nat.reduceAdd, Nat.reduceMul, Nat.reduceSub, Nat.reduceDiv, Nat.reduceMod, and_true, true_and, and_false, false_and, not_true_eq_false, not_false_eq_true, or_true, true_or, or_false, false_or, Int32.lt_irrefl, Int32.le_refl, r3, u, b164_32, b164_52]
      · by_cases e : y = x
        · rw [zupE (by omega), e]
        · rw [zupN (by omega)]; exact r1 y (by omega)
      · rw [zupN (by omega)]; exact r3
      · simp (disch := omega) only [zupK, zupF, fupd3I, fupd3F, fupd2S, fupd2F, fupdE, fupdN, zupAK, zupAF, fcp3I, fcp3F, fcp2S, fcp2F]
        exact r4 s h1 h2
      · simp (disch := omega) only [zupK, zupF, fupd3I, fupd3F, fupd2S, fupd2F, fupdE, fupdN, zupAK, zupAF, fcp3I, fcp3F, fcp2S, fcp2F]
        exact r5 j hj hj2) 121 (Nat.le_refl _) (zup (zup hm 12 0 0 0 (nI 0)) 12 0 0 3 (nI (C - 1))) ⟨fun y hy => absurd hy (Nat.not_lt_zero _), by simp (disch := omega) only [zupK, zupF, fupd3I, fupd3F, fupd2S, fupd2F, fupdE, fupdN, zupAK, zupAF, fcp3I, fcp3F, fcp2S, fcp2F], fun s h1 h2 => by simp (disch := omega) only [zupK, zupF, fupd3I, fupd3F, fupd2S, fupd2F, fupdE, fupdN, zupAK, zupAF, fcp3I, fcp3F, fcp2S, fcp2F], fun j hj hj2 => by simp (disch := omega) only [zupK, zupF, fupd3I, fupd3F, fupd2S, fupd2F, fupdE, fupdN, zupAK, zupAF, fcp3I, fcp3F, fcp2S, fcp2F]⟩
    have k2 := k1.trans b164_26
    simp (disch := first | omega | simp (disch := omega) only [nI_add, pk_mul, pk_sub, pk_div, znmod, nI_clamp, nIleT, nIleF, nIltT, nIltF, nIeqT, nIeqF, nIm1, nIm1q, zupE, zupN, vpT, nI_01, nI_11, ↓reduceIte, Option.bind_some, Option.toList_some, Option.toList_none, List.cons_append, List.nil_append, Nat.reduceAdd, Nat.reduceMul, Nat.reduceSub, Nat.reduceDiv, Nat.reduceMod, and_true, true_and, and_false, false_and, not_true_eq_false, not_false_eq_true, or_true, true_or, or_false, false_or, Int32.lt_irrefl, Int32.le_refl]) only [nI_add, pk_mul, pk_sub, pk_div, znmod, nI_clamp, nIleT, nIleF, nIltT, nIltF, nIeqT, nIeqF, nIm1, nIm1q, zupE, zupN, vpT, nI_01, nI_11, ↓reduceIte, Option.bind_some, Option.toList_some, Option.toList_none, List.cons_append, List.nil_append, Nat.reduceAdd, Nat.reduceMul, Nat.reduceSub, Nat.reduceDiv, Nat.reduceMod, and_true, true_and, and_false, false_and, not_true_eq_false, not_false_eq_true, or_true, true_or, or_false, false_or, Int32.lt_irrefl, Int32.le_refl, b164_58] at k2
    have ed : n + 6 - 1 = n + 5 := by omega
    have ed2 : n + 5 - (n + 5) / 6 * 6 = (n + 5) % 6 := znmod
    simp (disch := first | omega | simp (disch := omega) only [nI_add, pk_mul, pk_sub, pk_div, znmod, nI_clamp, nIleT, nIleF, nIltT, nIltF, nIeqT, nIeqF, nIm1, nIm1q, zupE, zupN, vpT, nI_01, nI_11, ↓reduceIte, Option.bind_some, Option.toList_some, Option.toList_none, List.cons_append, List.nil_append, Nat.reduceAdd, Nat.reduceMul, Nat.reduceSub, Nat.reduceDiv, Nat.reduceMod, and_true, true_and, and_false, false_and, not_true_eq_false, not_false_eq_true, or_true, true_or, or_false, false_or, Int32.lt_irrefl, Int32.le_refl, e1, e2, e3, ed, ed2, q1, k2]) only [nI_add, pk_mul, pk_sub, pk_div, znmod, nI_clamp, nIleT, nIleF, nIltT, nIltF, nIeqT, nIeqF, nIm1, nIm1q, zupE, zupN, vpT, nI_01, nI_11, ↓reduceIte, Option.bind_some, Option.toList_some, Option.toList_none, List.cons_append, List.nil_append, Nat.reduceAdd, Nat.reduceMul, Nat.reduceSub, Nat.reduceDiv, Nat.reduceMod, and_true, true_and, and_false, false_and, not_true_eq_false, not_false_eq_true, or_true, true_or, or_false, false_or, Int32.lt_irrefl, Int32.le_refl, e1, e2, e3, ed, ed2, q1, k2, b150_0, b150_10, b150_12, b150_26, b39_0, b39_16, b39_26, b39_39, b164_0, b164_5, b164_14, b164_24]
    refine ⟨_, _, _, rfl, rfl, P, H, ?_⟩
    have z3 : ∀ i, i ≠ 0 → hc1 3 i = hc 3 i := fun i hi => by rw [q4 i hi]; simp (disch := omega) only [zupK, zupF, fupd3I, fupd3F, fupd2S, fupd2F, fupdE, fupdN, zupAK, zupAF, fcp3I, fcp3F, fcp2S, fcp2F]
    have q3' : ∀ k, k ≠ 3 → k ≠ 4 → hc1 k = hc k := fun k h1 h2 => by rw [q3 k h1]; simp (disch := omega) only [zupK, zupF, fupd3I, fupd3F, fupd2S, fupd2F, fupdE, fupdN, zupAK, zupAF, fcp3I, fcp3F, fcp2S, fcp2F]
    have q2' : ycp (hc1 3 0) (hc 3 (3 + (n + 5) % 6)) := by
      have : (zup (zup hc 4 0 0 1 (nI ((n + 5) % 6))) 4 0 0 2 (nI (C - 1))) 3 = hc 3 := by simp (disch := omega) only [zupK, zupF, fupd3I, fupd3F, fupd2S, fupd2F, fupdE, fupdN, zupAK, zupAF, fcp3I, fcp3F, fcp2S, fcp2F]
      rw [this] at q2; exact q2
    obtain ⟨⟨rM, rp, rb, rl, rf, rh, rk, s0, s1, s2, s3, s4⟩, ra, rt, re, ri, rs⟩ := R1
    have rMn : RMk (hc1 3 0) (g2 12 0 2) (g2 12 0 9) (g2 12 0 10) P H := by
      rw [r3 9 (by omega) (by omega), r3 10 (by omega) (by omega)]
      refine RMk_cp hq q2' (fun j hj => ?_) (fun _ _ => rfl) (fun _ _ => rfl)
      show g2 12 0 2 j = hm 12 0 3 (121 * (C - 1 - 0) + j)
      rw [Nat.sub_zero]
      exact r1 j hj
    refine ⟨⟨rMn, ?_, ?_, ?_, ?_, ?_, ?_, ?_, ?_, ?_, ?_, ?_⟩, ?_, ?_, ?_, ?_, ?_⟩
    · rw [r4 6 (by omega) (by omega), r4 7 (by omega) (by omega)]; exact rp
    · rw [q3' 10 (by omega) (by omega), r3 11 (by omega) (by omega)]; exact rb
    · rw [q3' 2 (by omega) (by omega), r3 19 (by omega) (by omega), r3 20 (by omega) (by omega), r3 21 (by omega) (by omega), r3 22 (by omega) (by omega), r3 23 (by omega) (by omega), r3 24 (by omega) (by omega), r3 25 (by omega) (by omega)]; exact rl
    · rw [q3' 2 (by omega) (by omega), r3 36 (by omega) (by omega), r4 34 (by omega) (by omega)]; exact rf
    · rw [q3' 2 (by omega) (by omega), r3 38 (by omega) (by omega), r4 36 (by omega) (by omega)]; exact rh
    · rw [q3' 2 (by omega) (by omega), r3 40 (by omega) (by omega), r4 38 (by omega) (by omega)]; exact rk
    · rw [q3' 8 (by omega) (by omega), r3 50 (by omega) (by omega), r3 51 (by omega) (by omega), r4 48 (by omega) (by omega)]; exact s0
    · rw [q3' 8 (by omega) (by omega), r3 53 (by omega) (by omega), r4 51 (by omega) (by omega)]; exact s1
    · rw [q3' 8 (by omega) (by omega), r3 59 (by omega) (by omega), r4 57 (by omega) (by omega)]; exact s2
    · rw [q3' 8 (by omega) (by omega), r3 61 (by omega) (by omega), r4 59 (by omega) (by omega)]; exact s3
    · rw [q3' 8 (by omega) (by omega), r3 64 (by omega) (by omega), r4 62 (by omega) (by omega)]; exact s4
    · rw [r2, r3 3 (by omega) (by omega), r3 9 (by omega) (by omega), r3 10 (by omega) (by omega)]
      have h4 : hc1 4 0 0 = fupd (fupd (hc 4 0 0) 1 (nI ((n + 5) % 6))) 2 (nI (C - 1)) := by rw [q3 4 (by omega)]; simp (disch := omega) only [zupK, zupF, fupd3I, fupd3F, fupd2S, fupd2F, fupdE, fupdN, zupAK, zupAF, fcp3I, fcp3F, fcp2S, fcp2F]
      rw [h4]
      refine ⟨(n + 5) % 6, C - 1, hlt, by omega, ?_, ?_, rfl, fun k hk' => ?_⟩
      · simp (disch := omega) only [zupK, zupF, fupd3I, fupd3F, fupd2S, fupd2F, fupdE, fupdN, zupAK, zupAF, fcp3I, fcp3F, fcp2S, fcp2F]
      · simp (disch := omega) only [zupK, zupF, fupd3I, fupd3F, fupd2S, fupd2F, fupdE, fupdN, zupAK, zupAF, fcp3I, fcp3F, fcp2S, fcp2F]
      · rw [z3 (3 + ((n + 5) % 6 + 5 - k) % 6) (by omega)]
        have := hk (k + 1) (by omega)
        rw [show (n + 5 - (k + 1)) % 6 = ((n + 5) % 6 + 5 - k) % 6 by omega, show C - 1 - (k + 1) = C - 1 - 1 - k by omega] at this
        exact this
    · rw [q3' 7 (by omega) (by omega), r3 12 (by omega) (by omega), r4 12 (by omega) (by omega)]; exact rt
    · rw [q3' 6 (by omega) (by omega), r4 32 (by omega) (by omega), r4 33 (by omega) (by omega)]; exact re
    · rw [z3 1 (by omega), q3' 10 (by omega) (by omega), q3' 2 (by omega) (by omega), q3' 8 (by omega) (by omega), q3' 11 (by omega) (by omega), r4 66 (by omega) (by omega), r3 69 (by omega) (by omega)]; exact ri
    · rw [q3' 0 (by omega) (by omega), q3' 8 (by omega) (by omega), q3' 9 (by omega) (by omega), q3' 14 (by omega) (by omega), q3' 15 (by omega) (by omega), r4 5 (by omega) (by omega), r3 18 (by omega) (by omega)]; exact rs
end UN
