/-! operations: feed -/
theorem ybyte (y : Int32) : ∃ b, b < 256 ∧ y.toInt8.toInt32.toInt8.toInt32 = sb_b b ∧ y &&& nI 255 = nI b := by
  refine ⟨y.toBitVec.toNat % 2 ^ 8, Nat.mod_lt _ (by decide), ?_, pk_and y 8 (by decide)⟩
  unfold sb_b
  have e : (nI (y.toBitVec.toNat % 2 ^ 8)).toInt8 = y.toInt8 := by
    apply Int8.toBitVec_inj.mp
    apply BitVec.eq_of_toNat_eq
    rw [Int32.toBitVec_toInt8, Int32.toBitVec_toInt8]
    rw [BitVec.signExtend_eq_setWidth_of_le _ (by decide), BitVec.signExtend_eq_setWidth_of_le _ (by decide), BitVec.toNat_setWidth, BitVec.toNat_setWidth]
    rw [pk_tn (Nat.lt_of_lt_of_le (Nat.mod_lt _ (by decide)) (by decide)), Nat.mod_mod]
  rw [e, Int8.toInt8_toInt32]
/-- what four bytes leave -/
def yA (h : zH) (T : Nat) (x : Int32) : zH := zup (zup (zup (zup (zup (zup (zup (zup h 7 0 1 T (x >>> (nI 24 &&& 31)).toInt8.toInt32.toInt8.toInt32) 7 0 0 3 (nI (T + 1))) 7 0 1 (T + 1) (x >>> (nI 16 &&& 31)).toInt8.toInt32.toInt8.toInt32) 7 0 0 3 (nI (T + 1 + 1))) 7 0 1 (T + 1 + 1) (x >>> (nI 8 &&& 31)).toInt8.toInt32.toInt8.toInt32) 7 0 0 3 (nI (T + 1 + 1 + 1))) 7 0 1 (T + 1 + 1 + 1) (x >>> (nI 0 &&& 31)).toInt8.toInt32.toInt8.toInt32) 7 0 0 3 (nI (T + 1 + 1 + 1 + 1))
def yB (h : zH) (T : Nat) (x : Int32) : zH := zup (zup (zup (zup (zup (zup (zup (zup h 12 0 12 T ((x >>> (nI 24 &&& 31)) &&& nI 255)) 12 0 0 12 (nI (T + 1))) 12 0 12 (T + 1) ((x >>> (nI 16 &&& 31)) &&& nI 255)) 12 0 0 12 (nI (T + 1 + 1))) 12 0 12 (T + 1 + 1) ((x >>> (nI 8 &&& 31)) &&& nI 255)) 12 0 0 12 (nI (T + 1 + 1 + 1))) 12 0 12 (T + 1 + 1 + 1) ((x >>> (nI 0 &&& 31)) &&& nI 255)) 12 0 0 12 (nI (T + 1 + 1 + 1 + 1))
theorem ym24 : nI 24 + (-8) = nI 16 := by decide
theorem ym16 : nI 16 + (-8) = nI 8 := by decide
theorem ym8 : nI 8 + (-8) = nI 0 := by decide
theorem ym0 : nI 0 + (-8) = (-8) := by decide
theorem yl8 : ((-8 : Int32) < nI 0) = True := by decide
section OG
variable {L d : Nat} {hc hm h : zH} {x1 x2 x3 x4 x5 x : Int32} {T : Nat}
theorem kAdd (hT : T + 4 ≤ 400) (e : h 7 0 0 3 = nI T) : zev L d 74 0 [some (.inr (.inl (7, 0, 0))), some (.inl x), none] [] h = some (none, yA h T x) := by
  simp (disch := first | omega | simp (disch := omega) only [nI_add, pk_mul, pk_sub, pk_div, znmod, nI_clamp, nIleT, nIleF, nIltT, nIltF, nIeqT, nIeqF, nIm1, nIm1q, zupE, zupN, vpT, nI_01, nI_11, ↓reduceIte, Option.bind_some, Option.toList_some, Option.toList_none, List.cons_append, List.nil_append, Nat.reduceAdd, Nat.reduceMul, Nat.reduceSub, Nat.reduceDiv, Nat.reduceMod, and_true, true_and, and_false, false_and, not_true_eq_false, not_false_eq_true, or_true, true_or, or_false, false_or, Int32.lt_irrefl, Int32.le_refl, e, ym24, ym16, ym8, ym0, yl8]) only [nI_add, pk_mul, pk_sub, pk_div, znmod, nI_clamp, nIleT, nIleF, nIltT, nIltF, nIeqT, nIeqF, nIm1, nIm1q, zupE, zupN, vpT, nI_01, nI_11, ↓reduceIte, Option.bind_some, Option.toList_some, Option.toList_none, List.cons_append, List.nil_append, Nat.reduceAdd, Nat.reduceMul, Nat.reduceSub, Nat.reduceDiv, Nat.reduceMod, and_true, true_and, and_false, false_and, not_true_eq_false, not_false_eq_true, or_true, true_or, or_false, false_or, Int32.lt_irrefl, Int32.le_refl, e, ym24, ym16, ym8, ym0, yl8, b74_0, b74_3, b74_7, b74_17, b74_30, b74_40, b74_46]
  rfl
theorem mAdd (hT : T + 4 ≤ 400) (e : h 12 0 0 12 = nI T) : zev L d 177 0 [some (.inr (.inl (12, 0, 0))), some (.inl x), none] [] h = some (none, yB h T x) := by
  simp (disch := first | omega | simp (disch := omega) only [nI_add, pk_mul, pk_sub, pk_div, znmod, nI_clamp, nIleT, nIleF, nIltT, nIltF, nIeqT, nIeqF, nIm1, nIm1q, zupE, zupN, vpT, nI_01, nI_11, ↓reduceIte, Option.bind_some, Option.toList_some, Option.toList_none, List.cons_append, List.nil_append, Nat.reduceAdd, Nat.reduceMul, Nat.reduceSub, Nat.reduceDiv, Nat.reduceMod, and_true, true_and, and_false, false_and, not_true_eq_false, not_false_eq_true, or_true, true_or, or_false, false_or, Int32.lt_irrefl, Int32.le_refl, e, ym24, ym16, ym8, ym0, yl8]) only [nI_add, pk_mul, pk_sub, pk_div, znmod, nI_clamp, nIleT, nIleF, nIltT, nIltF, nIeqT, nIeqF, nIm1, nIm1q, zupE, zupN, vpT, nI_01, nI_11, ↓reduceIte, Option.bind_some, Option.toList_some, Option.toList_none, List.cons_append, List.nil_append, Nat.reduceAdd, Nat.reduceMul, Nat.reduceSub, Nat.reduceDiv, Nat.reduceMod, and_true, true_and, and_false, false_and, not_true_eq_false, not_false_eq_true, or_true, true_or, or_false, false_or, Int32.lt_irrefl, Int32.le_refl, e, ym24, ym16, ym8, ym0, yl8, b177_0, b177_3, b177_7, b177_23, b177_33, b177_39]
  rfl
theorem kAdd' (hv : vp_in (h 7 0 0 3) 397) : zev L d 74 0 [some (.inr (.inl (7, 0, 0))), some (.inl x), none] [] h = some (none, yA h (h 7 0 0 3).toNatClampNeg x) := by
  obtain ⟨T, hT, e⟩ := vp_in_of hv (by omega)
  rw [kAdd (T := T) (by omega) e, e, nI_clamp (by omega)]
theorem mAdd' (hv : vp_in (h 12 0 0 12) 397) : zev L d 177 0 [some (.inr (.inl (12, 0, 0))), some (.inl x), none] [] h = some (none, yB h (h 12 0 0 12).toNatClampNeg x) := by
  obtain ⟨T, hT, e⟩ := vp_in_of hv (by omega)
  rw [mAdd (T := T) (by omega) e, e, nI_clamp (by omega)]
theorem yA_k {k : Nat} (hk : k ≠ 7) : yA h T x k = h k := by
  unfold yA
  simp (disch := omega) only [zupK, zupF, fupd3I, fupd3F, fupd2S, fupd2F, fupdE, fupdN, zupAK, zupAF, fcp3I, fcp3F, fcp2S, fcp2F]
theorem yA_l : yA h T x 7 0 0 3 = nI (T + 4) := by
  unfold yA
  simp (disch := omega) only [zupK, zupF, fupd3I, fupd3F, fupd2S, fupd2F, fupdE, fupdN, zupAK, zupAF, fcp3I, fcp3F, fcp2S, fcp2F]
theorem yA_b : yA h T x 7 0 1 = fupd (fupd (fupd (fupd (h 7 0 1) T (x >>> (nI 24 &&& 31)).toInt8.toInt32.toInt8.toInt32) (T + 1) (x >>> (nI 16 &&& 31)).toInt8.toInt32.toInt8.toInt32) (T + 1 + 1) (x >>> (nI 8 &&& 31)).toInt8.toInt32.toInt8.toInt32) (T + 1 + 1 + 1) (x >>> (nI 0 &&& 31)).toInt8.toInt32.toInt8.toInt32 := by
  unfold yA
  simp (disch := omega) only [zupK, zupF, fupd3I, fupd3F, fupd2S, fupd2F, fupdE, fupdN, zupAK, zupAF, fcp3I, fcp3F, fcp2S, fcp2F]
theorem yB_s {s : Nat} (h1 : s ≠ 0) (h2 : s ≠ 12) : yB h T x 12 0 s = h 12 0 s := by
  unfold yB
  simp (disch := omega) only [zupK, zupF, fupd3I, fupd3F, fupd2S, fupd2F, fupdE, fupdN, zupAK, zupAF, fcp3I, fcp3F, fcp2S, fcp2F]
theorem yB_f {j : Nat} (h1 : j ≠ 12) : yB h T x 12 0 0 j = h 12 0 0 j := by
  unfold yB
  simp (disch := omega) only [zupK, zupF, fupd3I, fupd3F, fupd2S, fupd2F, fupdE, fupdN, zupAK, zupAF, fcp3I, fcp3F, fcp2S, fcp2F]
theorem yB_l : yB h T x 12 0 0 12 = nI (T + 4) := by
  unfold yB
  simp (disch := omega) only [zupK, zupF, fupd3I, fupd3F, fupd2S, fupd2F, fupdE, fupdN, zupAK, zupAF, fcp3I, fcp3F, fcp2S, fcp2F]
theorem yB_b : yB h T x 12 0 12 = fupd (fupd (fupd (fupd (h 12 0 12) T ((x >>> (nI 24 &&& 31)) &&& nI 255)) (T + 1) ((x >>> (nI 16 &&& 31)) &&& nI 255)) (T + 1 + 1) ((x >>> (nI 8 &&& 31)) &&& nI 255)) (T + 1 + 1 + 1) ((x >>> (nI 0 &&& 31)) &&& nI 255) := by
  unfold yB
  simp (disch := omega) only [zupK, zupF, fupd3I, fupd3F, fupd2S, fupd2F, fupdE, fupdN, zupAK, zupAF, fcp3I, fcp3F, fcp2S, fcp2F]
theorem RTp_add {b t : Nat → Int32} (hT : T < 400) (R : RTp b (nI T) t (nI T)) : RTp (fupd b T x.toInt8.toInt32.toInt8.toInt32) (nI (T + 1)) (fupd t T (x &&& nI 255)) (nI (T + 1)) := by
  obtain ⟨T', hT', e1, e2, hb⟩ := R
  have : T = T' := (nI_eq (by omega) (by omega)).1 e1
  subst this
  refine ⟨T + 1, by omega, rfl, rfl, fun j hj => ?_⟩
  by_cases e : j = T
  · subst e
    simp (disch := omega) only [zupK, zupF, fupd3I, fupd3F, fupd2S, fupd2F, fupdE, fupdN, zupAK, zupAF, fcp3I, fcp3F, fcp2S, fcp2F]
    exact ybyte x
  · simp (disch := omega) only [zupK, zupF, fupd3I, fupd3F, fupd2S, fupd2F, fupdE, fupdN, zupAK, zupAF, fcp3I, fcp3F, fcp2S, fcp2F]
    exact hb j (by omega)
theorem RTp_4 {b t : Nat → Int32} (hT : T + 4 ≤ 400) (R : RTp (hc 7 0 1) (nI T) (hm 12 0 12) (nI T)) : RTp (yA hc T x 7 0 1) (nI (T + 4)) (yB hm T x 12 0 12) (nI (T + 4)) := by
  rw [yA_b, yB_b]
  exact RTp_add (by omega) (RTp_add (by omega) (RTp_add (by omega) (RTp_add (by omega) R)))
theorem o_feed (R : Rel hc hm) : zS2 (zev L (d + 20) 119 0 [some (.inr (.inl (11, 0, 0))), some (.inl x1), some (.inl x2), some (.inl x3), some (.inl x4), some (.inl x5)] [] hc) (zev L (d + 20) 178 0 [some (.inr (.inl (12, 0, 0))), some (.inl x1), some (.inl x2), some (.inl x3), some (.inl x4), some (.inl x5)] [] hm) Rel := by
  have R' := R
  obtain ⟨P, H, ⟨rM, rp, rb, rl, rf, rh, rk, r0, r1, r2, r3, r4⟩, ra, rt, re, ri, rs⟩ := R
  obtain ⟨T, hT, e1, e2, hb⟩ := id rt
  by_cases h1 : T ≤ 380
  · simp (disch := first | omega | simp (disch := omega) only [nI_add, pk_mul, pk_sub, pk_div, znmod, nI_clamp, nIleT, nIleF, nIltT, nIltF, nIeqT, nIeqF, nIm1, nIm1q, zupE, zupN, vpT, nI_01, nI_11, ↓reduceIte, Option.bind_some, Option.toList_some, Option.toList_none, List.cons_append, List.nil_append, Nat.reduceAdd, Nat.reduceMul, Nat.reduceSub, Nat.reduceDiv, Nat.reduceMod, and_true, true_and, and_false, false_and, not_true_eq_false, not_false_eq_true, or_true, true_or, or_false, false_or, Int32.lt_irrefl, Int32.le_refl, kAdd', mAdd', e1, e2, yA_l, yB_l]) only [nI_add, pk_mul, pk_sub, pk_div, znmod, nI_clamp, nIleT, nIleF, nIltT, nIltF, nIeqT, nIeqF, nIm1, nIm1q, zupE, zupN, vpT, nI_01, nI_11, ↓reduceIte, Option.bind_some, Option.toList_some, Option.toList_none, List.cons_append, List.nil_append, Nat.reduceAdd, Nat.reduceMul, Nat.reduceSub, Nat.reduceDiv, Nat.reduceMod, and_true, true_and, and_false, false_and, not_true_eq_false, not_false_eq_true, or_true, true_or, or_false, false_or, Int32.lt_irrefl, Int32.le_refl, kAdd', mAdd', e1, e2, yA_l, yB_l, b119_0, b119_16, b119_18, b119_26, b119_34, b119_42, b119_51, b119_60, b178_0, b178_5, b178_15, b178_17, b178_22, b178_27, b178_32, b178_38, b178_44]
    refine ⟨_, _, _, rfl, rfl, Rel_mk P H ?_ ?_ ?_ ?_ ?_ ?_ ?_ ?_ ?_ ?_ ?_ ?_ ?_ ?_ ?_ ?_ ?_⟩
    all_goals simp (disch := omega) only [zupK, zupF, fupd3I, fupd3F, fupd2S, fupd2F, fupdE, fupdN, zupAK, zupAF, fcp3I, fcp3F, fcp2S, fcp2F, yA_k, yB_s, yB_f, yA_l, yB_l]
    all_goals first | assumption | skip
    rw [e1, e2] at rt
    have q0 : RTp (hc 7 0 1) (nI T) ((zup hm 12 0 0 0 (nI 0)) 12 0 12) (nI T) := by simp (disch := omega) only [zupK, zupF, fupd3I, fupd3F, fupd2S, fupd2F, fupdE, fupdN, zupAK, zupAF, fcp3I, fcp3F, fcp2S, fcp2F]; exact rt
    exact RTp_4 (b := fun _ => 0) (t := fun _ => 0) (by omega) (RTp_4 (b := fun _ => 0) (t := fun _ => 0) (by omega) (RTp_4 (b := fun _ => 0) (t := fun _ => 0) (by omega) (RTp_4 (b := fun _ => 0) (t := fun _ => 0) (by omega) (RTp_4 (b := fun _ => 0) (t := fun _ => 0) (by omega) q0))))
  · simp (disch := first | omega | simp (disch := omega) only [nI_add, pk_mul, pk_sub, pk_div, znmod, nI_clamp, nIleT, nIleF, nIltT, nIltF, nIeqT, nIeqF, nIm1, nIm1q, zupE, zupN, vpT, nI_01, nI_11, ↓reduceIte, Option.bind_some, Option.toList_some, Option.toList_none, List.cons_append, List.nil_append, Nat.reduceAdd, Nat.reduceMul, Nat.reduceSub, Nat.reduceDiv, Nat.reduceMod, and_true, true_and, and_false, false_and, not_true_eq_false, not_false_eq_true, or_true, true_or, or_false, false_or, Int32.lt_irrefl, Int32.le_refl, e1, e2]) only [nI_add, pk_mul, pk_sub, pk_div, znmod, nI_clamp, nIleT, nIleF, nIltT, nIltF, nIeqT, nIeqF, nIm1, nIm1q, zupE, zupN, vpT, nI_01, nI_11, ↓reduceIte, Option.bind_some, Option.toList_some, Option.toList_none, List.cons_append, List.nil_append, Nat.reduceAdd, Nat.reduceMul, Nat.reduceSub, Nat.reduceDiv, Nat.reduceMod, and_true, true_and, and_false, false_and, not_true_eq_false, not_false_eq_true, or_true, true_or, or_false, false_or, Int32.lt_irrefl, Int32.le_refl, e1, e2, b119_0, b119_16, b119_18, b119_26, b119_34, b119_42, b119_51, b119_60, b178_0, b178_5, b178_15, b178_17, b178_22, b178_27, b178_32, b178_38, b178_44]
    exact zS2_no R'
end OG
