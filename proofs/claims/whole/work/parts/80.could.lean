/-! operation could -/
section CQ
variable {L d : Nat} {hc hm : zH}
theorem yok_N {D : Nat → Nat} {N : Nat} (hN : N ≤ 9) : yhh N (ygl (fun w => ycn D w N) 1 8) = Bool.and (Nat.beq (Nat.mod (ycsm (ygl (fun w => ycn D w N) 1 8)) 2) 0) (yeg (ygl (fun w => ycn D w N) 1 8) N) := by
  have hle : ∀ a, a ∈ ygl (fun w => ycn D w N) 1 8 → a ≤ N := fun a ha => ygl_le (fun u => ycn_le N) 8 1 a ha
  have e1 := yhh_up (k := 9 - N) N _ hle
  rw [show N + (9 - N) = 9 by omega] at e1
  rw [← e1, yeg_N hN hle]
  have m := fun w => ycn_mo (D := D) (v := w + 1) (w := w) (Nat.le_succ w) N
  have k := yok_all (m 7) (m 6) (m 5) (m 4) (m 3) (m 2) (m 1) (Nat.le_trans (ycn_le N) hN)
  exact eq_of_beq k
theorem o_could (R : Rel hc hm) : zS2 (zev L (d + 20) 135 0 [some (.inr (.inl (11, 0, 0)))] [] hc) (zev L (d + 20) 255 0 [some (.inr (.inl (12, 0, 0))), none, none, none, none, none, none] [] hm) Rel := by
  have R' := R
  obtain ⟨P, H, ⟨rM, rp, rb, rl, rf, rh, rk, r0, r1, r2, r3, r4⟩, ra, rt, re, ri, rs⟩ := R
  obtain ⟨N, hN, e1, e2, hv⟩ := r1
  obtain ⟨D, hD⟩ : ∃ D : Nat → Nat, ∀ j, j < N → hm 12 0 53 j = nI (D j) ∧ hc 8 1 1 j = nI (D j) ∧ D j ≤ 8 := ⟨fun j => (hc 8 1 1 j).toNatClampNeg, fun j hj => by
    obtain ⟨q1, a, _, q3, q4⟩ := hv j hj
    have e : (hc 8 1 1 j).toNatClampNeg = a := by rw [q4, nI_clamp (by omega)]
    show hm 12 0 53 j = nI (hc 8 1 1 j).toNatClampNeg ∧ hc 8 1 1 j = nI (hc 8 1 1 j).toNatClampNeg ∧ (hc 8 1 1 j).toNatClampNeg ≤ 8
    rw [e]
    exact ⟨q1.trans q4, q4, q3⟩⟩
  obtain ⟨gc, A, ec, fc, rc⟩ := y46 (L := L) (h := hc) hN e1 (fun j hj => (hD j hj).2)
  have kc := y45l (L := L) (g := gc) (c := fun w => ycn D w N) hN (fun u => ycn_le N) rc N 0 (by omega) rfl none none
  rw [ys1_0] at kc
  have e3 : gc 8 1 0 3 = nI N := by rw [fc 8 (by decide)]; exact e1
  have yc : yC hc gc := fun k i s j h => by
    by_cases q : k = 5
    · subst q; cases h
    · rw [fc k q]
  obtain ⟨gm, em, ym, vm⟩ := zinv (P := fun i (g : zH) => fun d => zev L d 255 7 [some (.inr (.inl (12, 0, 0))), some (.inl (nI i)), none, none, none, none, none] [] g) (R := fun i g => yM hm g ∧ ∀ j, j < i → g 12 0 54 j = nI (D j)) (N := N) (fun i g hi ⟨y, r⟩ => by
    have e51 : g 12 0 0 51 = nI N := by rw [yM_f y 51 (by decide)]; exact e2
    have e53 : g 12 0 53 i = nI (D i) := by rw [yM_s y 53 (by decide) (by decide)]; exact (hD i hi).1
    refine ⟨zup g 12 0 54 i (nI (D i)), funext fun d => b255_7.trans ?_, yM_u y rfl, fun j hj => ?_⟩
    · simp (disch := first | omega | simp (disch := omega) only [nI_add, pk_mul, pk_sub, pk_div, znmod, nI_clamp, nIleT, nIleF, nIltT, nIltF, nIeqT, nIeqF, nIm1, nIm1q, zupE, zupN, vpT, nI_01, nI_11, ↓reduceIte, Option.bind_some, Option.toList_some, Option.toList_none, List.cons_append, List.nil_append, Nat.reduceAdd, Nat.reduceMul, Nat.reduceSub, Nat.reduceDiv, Nat.reduceMod, and_true, true_and, and_false, false_and, not_true_eq_false, not_false_eq_true, or_true, true_or, or_false, false_or, Int32.lt_irrefl, Int32.le_refl, e51, e53]) only [nI_add, pk_mul, pk_sub, pk_div, znmod, nI_clamp, nIleT, nIleF, nIltT, nIltF, nIeqT, nIeqF, nIm1, nIm1q, zupE, zupN, vpT, nI_01, nI_11, ↓reduceIte, Option.bind_some, Option.toList_some, Option.toList_none, List.cons_append, List.nil_append, Nat.reduceAdd, Nat.reduceMul, Nat.reduceSub, Nat.reduceDiv, Nat.reduceMod, and_true, true_and, and_false, false_and, not_true_eq_false, not_false_eq_true, or_true, true_or, or_false, false_or, Int32.lt_irrefl, Int32.le_refl, e51, e53, b255_15, b255_27]
    · by_cases q : j = i
      · subst q; rw [zupE (by omega)]
      · rw [zupN (by omega)]; exact r j (by omega)) N (Nat.le_refl N) (zup hm 12 0 0 0 (nI 0)) ⟨yM_u yM_r rfl, fun j hj => absurd hj (by omega)⟩
  have e51 : gm 12 0 0 51 = nI N := by rw [yM_f ym 51 (by decide)]; exact e2
  have c0 : ∀ w, ycm D 0 N w = ycn D w N := fun w => ycnt_c (fun i hi => by
    by_cases q : w ≤ D i
    · rw [if_pos ⟨Nat.zero_testBit i, q⟩, if_pos q]
    · rw [if_neg (fun x => q x.2), if_neg q])
  have c1 : ycm D 0 N 0 = N := by
    rw [c0]
    exact (ycnt_c (fun i hi => if_pos (Nat.zero_le _))).trans ycnt_1
  obtain ⟨g', k2, y2⟩ := y255l (L := L) (hm := hm) hN N 0 (by omega) 0 D (fun w => ycn D w N) gm none none none none ym e51 (fun i hi => ⟨vm i hi, (hD i hi).2.2⟩) (by decide) c1 (fun w _ => c0 w)
  have m1 : ∀ d, zev L (d + 2) 255 0 [some (.inr (.inl (12, 0, 0))), none, none, none, none, none, none] [] hm = some (some (.inl (nI (yhh N (ygl (fun w => ycn D w N) 1 8)).toNat)), g') := fun d => by
    rw [b255_0, b255_5]
    refine Eq.trans (congrFun em (d + 2)) (b255_7.trans ?_)
    simp (disch := first | omega | simp (disch := omega) only [nI_add, pk_mul, pk_sub, pk_div, znmod, nI_clamp, nIleT, nIleF, nIltT, nIltF, nIeqT, nIeqF, nIm1, nIm1q, zupE, zupN, vpT, nI_01, nI_11, ↓reduceIte, Option.bind_some, Option.toList_some, Option.toList_none, List.cons_append, List.nil_append, Nat.reduceAdd, Nat.reduceMul, Nat.reduceSub, Nat.reduceDiv, Nat.reduceMod, and_true, true_and, and_false, false_and, not_true_eq_false, not_false_eq_true, or_true, true_or, or_false, false_or, Int32.lt_irrefl, Int32.le_refl, e51]) only [nI_add, pk_mul, pk_sub, pk_div, znmod, nI_clamp, nIleT, nIleF, nIltT, nIltF, nIeqT, nIeqF, nIm1, nIm1q, zupE, zupN, vpT, nI_01, nI_11, ↓reduceIte, Option.bind_some, Option.toList_some, Option.toList_none, List.cons_append, List.nil_append, Nat.reduceAdd, Nat.reduceMul, Nat.reduceSub, Nat.reduceDiv, Nat.reduceMod, and_true, true_and, and_false, false_and, not_true_eq_false, not_false_eq_true, or_true, true_or, or_false, false_or, Int32.lt_irrefl, Int32.le_refl, e51, b255_33]
    exact k2 d
  rw [yok_N hN] at m1
  have m2 := m1 (d + 18)
  refine ⟨nI (Bool.and (Nat.beq (Nat.mod (ycsm (ygl (fun w => ycn D w N) 1 8)) 2) 0) (yeg (ygl (fun w => ycn D w N) 1 8) N)).toNat, gc, g', ?_, m2, Rel_y R' yc y2⟩
  simp (disch := first | omega | simp (disch := omega) only [nI_add, pk_mul, pk_sub, pk_div, znmod, nI_clamp, nIleT, nIleF, nIltT, nIltF, nIeqT, nIeqF, nIm1, nIm1q, zupE, zupN, vpT, nI_01, nI_11, ↓reduceIte, Option.bind_some, Option.toList_some, Option.toList_none, List.cons_append, List.nil_append, Nat.reduceAdd, Nat.reduceMul, Nat.reduceSub, Nat.reduceDiv, Nat.reduceMod, and_true, true_and, and_false, false_and, not_true_eq_false, not_false_eq_true, or_true, true_or, or_false, false_or, Int32.lt_irrefl, Int32.le_refl, ec, e3]) only [nI_add, pk_mul, pk_sub, pk_div, znmod, nI_clamp, nIleT, nIleF, nIltT, nIltF, nIeqT, nIeqF, nIm1, nIm1q, zupE, zupN, vpT, nI_01, nI_11, ↓reduceIte, Option.bind_some, Option.toList_some, Option.toList_none, List.cons_append, List.nil_append, Nat.reduceAdd, Nat.reduceMul, Nat.reduceSub, Nat.reduceDiv, Nat.reduceMod, and_true, true_and, and_false, false_and, not_true_eq_false, not_false_eq_true, or_true, true_or, or_false, false_or, Int32.lt_irrefl, Int32.le_refl, ec, e3, b135_0, b45_0, b45_5]
  rw [kc (d + 19)]
  cases Bool.and (Nat.beq (Nat.mod (ycsm (ygl (fun w => ycn D w N) 1 8)) 2) 0) (yeg (ygl (fun w => ycn D w N) 1 8) N)
  · simp (disch := first | omega | simp (disch := omega) only [nI_add, pk_mul, pk_sub, pk_div, znmod, nI_clamp, nIleT, nIleF, nIltT, nIltF, nIeqT, nIeqF, nIm1, nIm1q, zupE, zupN, vpT, nI_01, nI_11, ↓reduceIte, Option.bind_some, Option.toList_some, Option.toList_none, List.cons_append, List.nil_append, Nat.reduceAdd, Nat.reduceMul, Nat.reduceSub, Nat.reduceDiv, Nat.reduceMod, and_true, true_and, and_false, false_and, not_true_eq_false, not_false_eq_true, or_true, true_or, or_false, false_or, Int32.lt_irrefl, Int32.le_refl, Bool.toNat_false]) only [nI_add, pk_mul, pk_sub, pk_div, znmod, nI_clamp, nIleT, nIleF, nIltT, nIltF, nIeqT, nIeqF, nIm1, nIm1q, zupE, zupN, vpT, nI_01, nI_11, ↓reduceIte, Option.bind_some, Option.toList_some, Option.toList_none, List.cons_append, List.nil_append, Nat.reduceAdd, Nat.reduceMul, Nat.reduceSub, Nat.reduceDiv, Nat.reduceMod, and_true, true_and, and_false, false_and, not_true_eq_false, not_false_eq_true, or_true, true_or, or_false, false_or, Int32.lt_irrefl, Int32.le_refl, Bool.toNat_false, b135_14, b135_17, b135_21, b135_22]
  · simp (disch := first | omega | simp (disch := omega) only [nI_add, pk_mul, pk_sub, pk_div, znmod, nI_clamp, nIleT, nIleF, nIltT, nIltF, nIeqT, nIeqF, nIm1, nIm1q, zupE, zupN, vpT, nI_01, nI_11, ↓reduceIte, Option.bind_some, Option.toList_some, Option.toList_none, List.cons_append, List.nil_append, Nat.reduceAdd, Nat.reduceMul, Nat.reduceSub, Nat.reduceDiv, Nat.reduceMod, and_true, true_and, and_false, false_and, not_true_eq_false, not_false_eq_true, or_true, true_or, or_false, false_or, Int32.lt_irrefl, Int32.le_refl, Bool.toNat_true]) only [nI_add, pk_mul, pk_sub, pk_div, znmod, nI_clamp, nIleT, nIleF, nIltT, nIltF, nIeqT, nIeqF, nIm1, nIm1q, zupE, zupN, vpT, nI_01, nI_11, ↓reduceIte, Option.bind_some, Option.toList_some, Option.toList_none, List.cons_append, List.nil_append, Nat.reduceAdd, Nat.reduceMul, Nat.reduceSub, Nat.reduceDiv, Nat.reduceMod, and_true, true_and, and_false, false_and, not_true_eq_false, not_false_eq_true, or_true, true_or, or_false, false_or, Int32.lt_irrefl, Int32.le_refl, Bool.toNat_true, b135_14, b135_17, b135_21, b135_22]
end CQ
