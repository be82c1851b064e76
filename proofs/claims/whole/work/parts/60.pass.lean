/-! traits pass -/
/-- what can be given back of the first t traits -/
def yPB (i a b t : Nat) (hc hm : zH) : Prop := ∀ u, u < t → ∃ o k A B A' B', o ≤ 1998 ∧ k ≤ 1998 ∧ A ≤ 999 ∧ B ≤ 999 ∧ A' ≤ 999 ∧ B' ≤ 999 ∧ hc 9 0 3 u = nI o ∧ hm 12 0 46 u = nI o ∧ hc 9 0 4 u = nI k ∧ hm 12 0 47 u = nI k ∧ hc 3 i 1 (a * 5 + u) = nI A' ∧ hc 3 i 1 (b * 5 + u) = nI B' ∧ A' + o = A + k ∧ B' + k = B + o
theorem ysb (x y z : Int32) : x - (y - z) = x - y + z := by simp only [Int32.sub_eq_add_neg, Int32.neg_add, Int32.neg_neg]; ac_rfl
theorem yab (x y z : Int32) : x + (y - z) = x - z + y := by simp only [Int32.sub_eq_add_neg]; ac_rfl
theorem ymin {A B n1 n2 : Nat} (hA : A ≤ 999) (hB : B ≤ 999) (h1 : n1 ≤ 1000) (h2 : n2 ≤ 1000) : A * n1 / 1000 ≤ A ∧ B * n2 / 1000 ≤ B ∧ A * n1 ≤ 999000 ∧ B * n2 ≤ 999000 := by
  have e1 : A * n1 ≤ A * 1000 := Nat.mul_le_mul_left A h1
  have e2 : B * n2 ≤ B * 1000 := Nat.mul_le_mul_left B h2
  omega
section PS
variable {L : Nat} {hc hm : zH} {i P H a b t : Nat}
theorem RMk_Tn {f : Nat → Nat → Int32} {r w s : Nat → Int32} (R : RMk f r w s P H) {j : Nat} (hj : j < 60) : ∃ n, n ≤ 999 ∧ f 1 j = nI n ∧ r (5 + j) = nI n := by
  obtain ⟨e, n, hn, en⟩ := R.2.2.2.1 j hj
  exact ⟨n, hn, en, e.trans en⟩
/-- one trait goes over and comes back -/
theorem yPass1 (ts : TS i P H hc hm) (mt : MT a b H hc hm) (ha : a < P) (hb : b < P) (hab : a ≠ b) (ht : t < 5) (pb : yPB i a b t hc hm) {S : Nat} {a3 a4 a5 a6 c5 c6 c7 c8 : Option zV} :
    ∃ (v : Nat) (hc' hm' : zH) (b3 b4 b5 b6 d5 d6 d7 d8 : Option zV), v ≤ 3996 ∧
      (∀ d, zev L (d + 4) 95 4 [some (.inr (.inl (9, 0, 0))), some (.inl (nI S)), some (.inl (nI t)), a3, a4, a5, a6] [] hc = zev L (d + 4) 95 4 [some (.inr (.inl (9, 0, 0))), some (.inl (nI (S + v))), some (.inl (nI (t + 1))), b3, b4, b5, b6] [] hc') ∧
      (∀ d, zev L (d + 5) 225 5 [some (.inr (.inl (12, 0, 0))), some (.inl (nI a)), some (.inl (nI b)), some (.inl (nI S)), some (.inl (nI t)), c5, c6, c7, c8] [] hm = zev L (d + 5) 225 5 [some (.inr (.inl (12, 0, 0))), some (.inl (nI a)), some (.inl (nI b)), some (.inl (nI (S + v))), some (.inl (nI (t + 1))), d5, d6, d7, d8] [] hm') ∧
      TS i P H hc' hm' ∧ MT a b H hc' hm' ∧ yPB i a b (t + 1) hc' hm' ∧ yTc i hc hc' ∧ yTm hm hm' ∧ (∀ s, s ≠ 1 → hc' 3 i s = hc 3 i s) ∧ (∀ j, ¬ (5 ≤ j ∧ j < 65) → hm' 12 0 2 j = hm 12 0 2 j) ∧ hm' 12 0 0 = hm 12 0 0 := by
  have hP := ts.1.1.2.2.1
  have hi := yTm_ni ts.2.2
  obtain ⟨A, hA, eA, eA2⟩ := RMk_Tn ts.1 (j := a * 5 + t) (by omega)
  obtain ⟨B, hB, eB, eB2⟩ := RMk_Tn ts.1 (j := b * 5 + t) (by omega)
  obtain ⟨n1, hc1, hm1, hn1, p1, p2, _, _, p5, p6⟩ := yAsk' (L := L) (w := 0) (t := t) ts.1 ts.2.2 mt ha hb ht (by omega) (fun h => absurd rfl h)
  have p2 := p2 rfl
  have ts1 := TS_ask ts p5 p6
  have mt1 := MT_ask mt p5 p6
  obtain ⟨n2, hc2, hm2, hn2, r1, r2, _, _, r5, r6⟩ := yAsk' (L := L) (w := 0) (t := t) ts1.1 ts1.2.2 mt1 hb ha ht (by omega) (fun h => absurd rfl h)
  have r2 := r2 rfl
  have ts2 := TS_ask ts1 r5 r6
  have mt2 := MT_ask mt1 r5 r6
  have hn1' : n1 ≤ 1000 := hn1
  have hn2' : n2 ≤ 1000 := hn2
  obtain ⟨y1, y2, y3, y4⟩ := ymin hA hB hn1' hn2'
  have g1 : ∀ k, k ≠ 1 → hc2 k = hc k := fun k hk => funext fun i => funext fun s => funext fun j => (r5 k i s j hk).trans (p5 k i s j hk)
  have g2 : ∀ s, s ≠ 41 → s ≠ 42 → hm2 12 0 s = hm 12 0 s := fun s h h' => funext fun j => (r6 s j h h').trans (p6 s j h h')
  have g11 : ∀ k, k ≠ 1 → hc1 k = hc k := fun k hk => funext fun i => funext fun s => funext fun j => p5 k i s j hk
  obtain ⟨m1, m2, _⟩ := id mt
  obtain ⟨_, ti, _⟩ := id ts.2.2
  have w1 : hc1 9 0 0 6 = nI a := mt1.1
  have w2 : hc1 9 0 0 7 = nI b := mt1.2.1
  have w3 : hc2 9 0 0 6 = nI a := mt2.1
  have w4 : hc2 9 0 0 7 = nI b := mt2.2.1
  have w5 : hc2 9 0 0 4 = nI i := ts2.2.2.2.1
  have w6 : hc2 3 i 1 (a * 5 + t) = nI A := by rw [g1 3 (by omega)]; exact eA
  have w7 : hc2 3 i 1 (b * 5 + t) = nI B := by rw [g1 3 (by omega)]; exact eB
  have eA3 : hm 12 0 2 (5 + 5 * a + t) = nI A := by rw [show 5 + 5 * a + t = 5 + (a * 5 + t) by omega]; exact eA2
  have eB3 : hm 12 0 2 (5 + 5 * b + t) = nI B := by rw [show 5 + 5 * b + t = 5 + (b * 5 + t) by omega]; exact eB2
  -- how much
  obtain ⟨o, eo⟩ : ∃ o, o = if 999 - B + B * n2 / 1000 < A * n1 / 1000 then 999 - B + B * n2 / 1000 else A * n1 / 1000 := ⟨_, rfl⟩
  obtain ⟨k, ek⟩ : ∃ k, k = if 999 - A + A * n1 / 1000 < B * n2 / 1000 then 999 - A + A * n1 / 1000 else B * n2 / 1000 := ⟨_, rfl⟩
  have hoA : o ≤ A := by rw [eo]; split <;> omega
  have hkB : k ≤ B := by rw [ek]; split <;> omega
  have hA' : A - o + k ≤ 999 := by rw [eo, ek]; split <;> split <;> omega
  have hB' : B - k + o ≤ 999 := by rw [eo, ek]; split <;> split <;> omega
  have ov : (if nI (999 - B + B * n2 / 1000) < nI (A * n1 / 1000) then nI (999 - B + B * n2 / 1000) else nI (A * n1 / 1000)) = nI o := by
    rw [eo]
    by_cases c : 999 - B + B * n2 / 1000 < A * n1 / 1000
    · rw [if_pos c, if_pos (nI_lt c (by omega))]
    · rw [if_neg c, if_neg (nI_nlt (by omega) (by omega))]
  have bk : (if nI (999 - A + A * n1 / 1000) < nI (B * n2 / 1000) then nI (999 - A + A * n1 / 1000) else nI (B * n2 / 1000)) = nI k := by
    rw [ek]
    by_cases c : 999 - A + A * n1 / 1000 < B * n2 / 1000
    · rw [if_pos c, if_pos (nI_lt c (by omega))]
    · rw [if_neg c, if_neg (nI_nlt (by omega) (by omega))]
  have ov2 : (if nI (999 - B + B * n2 / 1000) ≤ nI (A * n1 / 1000) then nI (999 - B + B * n2 / 1000) else nI (A * n1 / 1000)) = nI o := by
    rw [eo]
    by_cases c : 999 - B + B * n2 / 1000 < A * n1 / 1000
    · rw [if_pos c, if_pos (nI_le (by omega) (by omega))]
    · rw [if_neg c]
      by_cases c2 : 999 - B + B * n2 / 1000 = A * n1 / 1000
      · rw [c2, if_pos (nI_le (by omega) (by omega))]
      · rw [if_neg (nI_ge (by omega) (by omega))]
  have bk2 : (if nI (999 - A + A * n1 / 1000) ≤ nI (B * n2 / 1000) then nI (999 - A + A * n1 / 1000) else nI (B * n2 / 1000)) = nI k := by
    rw [ek]
    by_cases c : 999 - A + A * n1 / 1000 < B * n2 / 1000
    · rw [if_pos c, if_pos (nI_le (by omega) (by omega))]
    · rw [if_neg c]
      by_cases c2 : 999 - A + A * n1 / 1000 = B * n2 / 1000
      · rw [c2, if_pos (nI_le (by omega) (by omega))]
      · rw [if_neg (nI_ge (by omega) (by omega))]
  have ls1 := fun d (h : zH) => (mLess (L := L) (d := d) (h := h) (x := nI (A * n1 / 1000)) (y := nI (999 - B + B * n2 / 1000))).trans (by rw [ov2])
  have ls2 := fun d (h : zH) => (mLess (L := L) (d := d) (h := h) (x := nI (B * n2 / 1000)) (y := nI (999 - A + A * n1 / 1000))).trans (by rw [bk2])
  have vA : nI A - (nI o - nI k) = nI (A - o + k) := by rw [ysb, pk_sub hoA, nI_add]
  have vB : nI B + (nI o - nI k) = nI (B - k + o) := by rw [yab, pk_sub hkB, nI_add]
  clear eo ek ov2 bk2
  refine ⟨o + k, zup (zup (zup (zup hc2 9 0 3 t (nI o)) 9 0 4 t (nI k)) 3 i 1 (a * 5 + t) (nI (A - o + k))) 3 i 1 (b * 5 + t) (nI (B - k + o)), zup (zup (zup (zup hm2 12 0 46 t (nI o)) 12 0 47 t (nI k)) 12 0 2 (5 + 5 * a + t) (nI (A - o + k))) 12 0 2 (5 + 5 * b + t) (nI (B - k + o)),
    some (.inl (nI A)), some (.inl (nI B)), some (.inl (nI (A * n1 / 1000))), some (.inl (nI (B * n2 / 1000))), some (.inl (nI A)), some (.inl (nI B)), some (.inl (nI (A * n1 / 1000))), some (.inl (nI (B * n2 / 1000))), by omega, fun d => b95_4.trans ?_, fun d => b225_5.trans ?_, ⟨?_, ?_, TC_t ts2.2.2 ?_ ?_⟩, MT_f mt2 ?_ ?_, ?_, ?_, ?_, ?_, ?_, ?_⟩
  · have es : S + (o + k) = S + (o + k) := rfl
    simp (disch := first | omega | simp (disch := omega) only [nI_add, pk_mul, pk_sub, pk_div, znmod, nI_clamp, nIleT, nIleF, nIltT, nIltF, nIeqT, nIeqF, nIm1, nIm1q, zupE, zupN, vpT, nI_01, nI_11, ↓reduceIte, Option.bind_some, Option.toList_some, Option.toList_none, List.cons_append, List.nil_append, Nat.reduceAdd, Nat.reduceMul, Nat.reduceSub, Nat.reduceDiv, Nat.reduceMod, and_true, true_and, and_false, false_and, not_true_eq_false, not_false_eq_true, or_true, true_or, or_false, false_or, Int32.lt_irrefl, Int32.le_refl, m1, m2, ti, kTrait, eA, eB, p1, w1, w2, r1, w3, w4, w5, w6, w7, ↓ov, ↓bk, ↓vA, ↓vB]) only [nI_add, pk_mul, pk_sub, pk_div, znmod, nI_clamp, nIleT, nIleF, nIltT, nIltF, nIeqT, nIeqF, nIm1, nIm1q, zupE, zupN, vpT, nI_01, nI_11, ↓reduceIte, Option.bind_some, Option.toList_some, Option.toList_none, List.cons_append, List.nil_append, Nat.reduceAdd, Nat.reduceMul, Nat.reduceSub, Nat.reduceDiv, Nat.reduceMod, and_true, true_and, and_false, false_and, not_true_eq_false, not_false_eq_true, or_true, true_or, or_false, false_or, Int32.lt_irrefl, Int32.le_refl, m1, m2, ti, kTrait, eA, eB, p1, w1, w2, r1, w3, w4, w5, w6, w7, ↓ov, ↓bk, ↓vA, ↓vB, b95_9, b95_21, b95_34, b95_51, b95_74, b95_101, b95_120, b95_138, b95_160, b96_0, b96_20, b96_40]
  · have es : S + o + k = S + (o + k) := by omega
    simp (disch := first | omega | simp (disch := omega) only [nI_add, pk_mul, pk_sub, pk_div, znmod, nI_clamp, nIleT, nIleF, nIltT, nIltF, nIeqT, nIeqF, nIm1, nIm1q, zupE, zupN, vpT, nI_01, nI_11, ↓reduceIte, Option.bind_some, Option.toList_some, Option.toList_none, List.cons_append, List.nil_append, Nat.reduceAdd, Nat.reduceMul, Nat.reduceSub, Nat.reduceDiv, Nat.reduceMod, and_true, true_and, and_false, false_and, not_true_eq_false, not_false_eq_true, or_true, true_or, or_false, false_or, Int32.lt_irrefl, Int32.le_refl, mTrait, eA3, eB3, p2, r2, ls1, ls2, mHasT, es]) only [nI_add, pk_mul, pk_sub, pk_div, znmod, nI_clamp, nIleT, nIleF, nIltT, nIltF, nIeqT, nIeqF, nIm1, nIm1q, zupE, zupN, vpT, nI_01, nI_11, ↓reduceIte, Option.bind_some, Option.toList_some, Option.toList_none, List.cons_append, List.nil_append, Nat.reduceAdd, Nat.reduceMul, Nat.reduceSub, Nat.reduceDiv, Nat.reduceMod, and_true, true_and, and_false, false_and, not_true_eq_false, not_false_eq_true, or_true, true_or, or_false, false_or, Int32.lt_irrefl, Int32.le_refl, mTrait, eA3, eB3, p2, r2, ls1, ls2, mHasT, es, b225_11, b225_18, b225_27, b225_39, b225_56, b225_84, b225_85, b225_106, b225_107, b225_132, b225_157, b225_181, b225_195, b225_199, b225_206]
  · simp (disch := omega) only [zupK, zupF, fupd3I, fupd3F, fupd2S, fupd2F, fupdE, fupdN, zupAK, zupAF, fcp3I, fcp3F, fcp2S, fcp2F]
    rw [g1 3 (by omega), g2 2 (by omega) (by omega), g2 9 (by omega) (by omega), g2 10 (by omega) (by omega)]
    exact RMk_trait (by omega) hB' (RMk_trait (by omega) hA' ts.1)
  · simp (disch := omega) only [zupK, zupF, fupd3I, fupd3F, fupd2S, fupd2F, fupdE, fupdN, zupAK, zupAF, fcp3I, fcp3F, fcp2S, fcp2F]
    exact ts2.2.1
  · exact yTc_u (yTc_u (yTc_u (yTc_u yTc_r rfl) rfl) ytc3) ytc3
  · exact yTm_u (yTm_u (yTm_u (yTm_u yTm_r rfl) rfl) rfl) rfl
  · intro j _ _
    simp (disch := omega) only [zupK, zupF, fupd3I, fupd3F, fupd2S, fupd2F, fupdE, fupdN, zupAK, zupAF, fcp3I, fcp3F, fcp2S, fcp2F]
  · intro j _ _
    simp (disch := omega) only [zupK, zupF, fupd3I, fupd3F, fupd2S, fupd2F, fupdE, fupdN, zupAK, zupAF, fcp3I, fcp3F, fcp2S, fcp2F]
  · intro u hu
    by_cases c : u = t
    · subst c
      refine ⟨o, k, A, B, A - o + k, B - k + o, by omega, by omega, hA, hB, hA', hB', ?_, ?_, ?_, ?_, ?_, ?_, by omega, by omega⟩
      · simp (disch := omega) only [zupK, zupF, fupd3I, fupd3F, fupd2S, fupd2F, fupdE, fupdN, zupAK, zupAF, fcp3I, fcp3F, fcp2S, fcp2F]
      · simp (disch := omega) only [zupK, zupF, fupd3I, fupd3F, fupd2S, fupd2F, fupdE, fupdN, zupAK, zupAF, fcp3I, fcp3F, fcp2S, fcp2F]
      · simp (disch := omega) only [zupK, zupF, fupd3I, fupd3F, fupd2S, fupd2F, fupdE, fupdN, zupAK, zupAF, fcp3I, fcp3F, fcp2S, fcp2F]
      · simp (disch := omega) only [zupK, zupF, fupd3I, fupd3F, fupd2S, fupd2F, fupdE, fupdN, zupAK, zupAF, fcp3I, fcp3F, fcp2S, fcp2F]
      · simp (disch := omega) only [zupK, zupF, fupd3I, fupd3F, fupd2S, fupd2F, fupdE, fupdN, zupAK, zupAF, fcp3I, fcp3F, fcp2S, fcp2F]
      · simp (disch := omega) only [zupK, zupF, fupd3I, fupd3F, fupd2S, fupd2F, fupdE, fupdN, zupAK, zupAF, fcp3I, fcp3F, fcp2S, fcp2F]
    · obtain ⟨o', k', A1, B1, A2, B2, z1, z2, z3, z4, z5, z6, z7, z8, z9, z10, z11, z12, z13, z14⟩ := pb u (by omega)
      refine ⟨o', k', A1, B1, A2, B2, z1, z2, z3, z4, z5, z6, ?_, ?_, ?_, ?_, ?_, ?_, z13, z14⟩
      · simp (disch := omega) only [zupK, zupF, fupd3I, fupd3F, fupd2S, fupd2F, fupdE, fupdN, zupAK, zupAF, fcp3I, fcp3F, fcp2S, fcp2F]
        rw [g1 9 (by omega)]; exact z7
      · simp (disch := omega) only [zupK, zupF, fupd3I, fupd3F, fupd2S, fupd2F, fupdE, fupdN, zupAK, zupAF, fcp3I, fcp3F, fcp2S, fcp2F]
        rw [g2 46 (by omega) (by omega)]; exact z8
      · simp (disch := omega) only [zupK, zupF, fupd3I, fupd3F, fupd2S, fupd2F, fupdE, fupdN, zupAK, zupAF, fcp3I, fcp3F, fcp2S, fcp2F]
        rw [g1 9 (by omega)]; exact z9
      · simp (disch := omega) only [zupK, zupF, fupd3I, fupd3F, fupd2S, fupd2F, fupdE, fupdN, zupAK, zupAF, fcp3I, fcp3F, fcp2S, fcp2F]
        rw [g2 47 (by omega) (by omega)]; exact z10
      · simp (disch := omega) only [zupK, zupF, fupd3I, fupd3F, fupd2S, fupd2F, fupdE, fupdN, zupAK, zupAF, fcp3I, fcp3F, fcp2S, fcp2F]
        rw [g1 3 (by omega)]; exact z11
      · simp (disch := omega) only [zupK, zupF, fupd3I, fupd3F, fupd2S, fupd2F, fupdE, fupdN, zupAK, zupAF, fcp3I, fcp3F, fcp2S, fcp2F]
        rw [g1 3 (by omega)]; exact z12
  · exact yTc_t (yTc_t (yA1_c p5) (yA1_c r5)) (yTc_u (yTc_u (yTc_u (yTc_u yTc_r rfl) rfl) ytc3) ytc3)
  · exact yTm_t (yTm_t (yA2_m p6) (yA2_m r6)) (yTm_u (yTm_u (yTm_u (yTm_u yTm_r rfl) rfl) rfl) rfl)
  · intro s hs
    simp (disch := omega) only [zupK, zupF, fupd3I, fupd3F, fupd2S, fupd2F, fupdE, fupdN, zupAK, zupAF, fcp3I, fcp3F, fcp2S, fcp2F]
    rw [g1 3 (by omega)]
  · intro j hj
    simp (disch := omega) only [zupK, zupF, fupd3I, fupd3F, fupd2S, fupd2F, fupdE, fupdN, zupAK, zupAF, fcp3I, fcp3F, fcp2S, fcp2F]
    rw [g2 2 (by omega) (by omega)]
  · simp (disch := omega) only [zupK, zupF, fupd3I, fupd3F, fupd2S, fupd2F, fupdE, fupdN, zupAK, zupAF, fcp3I, fcp3F, fcp2S, fcp2F]
    exact g2 0 (by omega) (by omega)
/-- all traits -/
theorem yPassA (ts : TS i P H hc hm) (mt : MT a b H hc hm) (ha : a < P) (hb : b < P) (hab : a ≠ b) :
    ∃ (v : Nat) (hc' hm' : zH) (d5 d6 d7 d8 : Option zV), v < 100000 ∧ (∀ d, zev L (d + 4) 95 0 [some (.inr (.inl (9, 0, 0))), none, none, none, none, none, none] [] hc = some (some (.inl (nI v)), hc')) ∧
      (∀ d, zev L (d + 5) 225 0 [some (.inr (.inl (12, 0, 0))), some (.inl (nI a)), some (.inl (nI b)), none, none, none, none, none, none] [] hm = zev L (d + 5) 225 181 [some (.inr (.inl (12, 0, 0))), some (.inl (nI a)), some (.inl (nI b)), some (.inl (nI v)), some (.inl (nI 5)), d5, d6, d7, d8] [] hm') ∧
      TS i P H hc' hm' ∧ MT a b H hc' hm' ∧ yPB i a b 5 hc' hm' ∧ yTc i hc hc' ∧ yTm hm hm' ∧ (∀ s, s ≠ 1 → hc' 3 i s = hc 3 i s) ∧ (∀ j, ¬ (5 ≤ j ∧ j < 65) → hm' 12 0 2 j = hm 12 0 2 j) ∧ hm' 12 0 0 = hm 12 0 0 := by
  have run : ∀ n, n ≤ 5 → ∃ (v : Nat) (hc' hm' : zH) (b3 b4 b5 b6 d5 d6 d7 d8 : Option zV), v ≤ 3996 * n ∧
      (∀ d, zev L (d + 4) 95 4 [some (.inr (.inl (9, 0, 0))), some (.inl (nI 0)), some (.inl (nI 0)), none, none, none, none] [] hc = zev L (d + 4) 95 4 [some (.inr (.inl (9, 0, 0))), some (.inl (nI v)), some (.inl (nI n)), b3, b4, b5, b6] [] hc') ∧
      (∀ d, zev L (d + 5) 225 5 [some (.inr (.inl (12, 0, 0))), some (.inl (nI a)), some (.inl (nI b)), some (.inl (nI 0)), some (.inl (nI 0)), none, none, none, none] [] hm = zev L (d + 5) 225 5 [some (.inr (.inl (12, 0, 0))), some (.inl (nI a)), some (.inl (nI b)), some (.inl (nI v)), some (.inl (nI n)), d5, d6, d7, d8] [] hm') ∧
      TS i P H hc' hm' ∧ MT a b H hc' hm' ∧ yPB i a b n hc' hm' ∧ yTc i hc hc' ∧ yTm hm hm' ∧ (∀ s, s ≠ 1 → hc' 3 i s = hc 3 i s) ∧ (∀ j, ¬ (5 ≤ j ∧ j < 65) → hm' 12 0 2 j = hm 12 0 2 j) ∧ hm' 12 0 0 = hm 12 0 0 := by
    intro n
    induction n with
    | zero => intro _; exact ⟨0, hc, hm, none, none, none, none, none, none, none, none, by omega, fun _ => rfl, fun _ => rfl, ts, mt, fun u hu => absurd hu (Nat.not_lt_zero _), yTc_r, yTm_r, fun _ _ => rfl, fun _ _ => rfl, rfl⟩
    | succ n ih =>
      intro hn
      obtain ⟨v, hc1, hm1, b3, b4, b5, b6, d5, d6, d7, d8, q0, q1, q2, q3, q4, q5, q6, q7, q8, q9, q10⟩ := ih (by omega)
      obtain ⟨v2, hc2, hm2, e3, e4, e5, e6, f5, f6, f7, f8, r0, r1, r2, r3, r4, r5, r6, r7, r8, r9, r10⟩ := yPass1 (L := L) q3 q4 ha hb hab (show n < 5 by omega) q5 (S := v) (a3 := b3) (a4 := b4) (a5 := b5) (a6 := b6) (c5 := d5) (c6 := d6) (c7 := d7) (c8 := d8)
      exact ⟨v + v2, hc2, hm2, e3, e4, e5, e6, f5, f6, f7, f8, by omega, fun d => (q1 d).trans (r1 d), fun d => (q2 d).trans (r2 d), r3, r4, r5, yTc_t q6 r6, yTm_t q7 r7, fun s hs => (r8 s hs).trans (q8 s hs), fun j hj => (r9 j hj).trans (q9 j hj), r10.trans q10⟩
  obtain ⟨v, hc1, hm1, b3, b4, b5, b6, d5, d6, d7, d8, q0, q1, q2, q3, q4, q5, q6, q7, q8, q9, q10⟩ := run 5 (Nat.le_refl _)
  refine ⟨v, hc1, hm1, d5, d6, d7, d8, by omega, fun d => b95_0.trans ((q1 d).trans (b95_4.trans ?_)), fun d => b225_0.trans ((q2 d).trans (b225_5.trans ?_)), q3, q4, q5, q6, q7, q8, q9, q10⟩
  · simp (disch := first | omega | simp (disch := omega) only [nI_add, pk_mul, pk_sub, pk_div, znmod, nI_clamp, nIleT, nIleF, nIltT, nIltF, nIeqT, nIeqF, nIm1, nIm1q, zupE, zupN, vpT, nI_01, nI_11, ↓reduceIte, Option.bind_some, Option.toList_some, Option.toList_none, List.cons_append, List.nil_append, Nat.reduceAdd, Nat.reduceMul, Nat.reduceSub, Nat.reduceDiv, Nat.reduceMod, and_true, true_and, and_false, false_and, not_true_eq_false, not_false_eq_true, or_true, true_or, or_false, false_or, Int32.lt_irrefl, Int32.le_refl]) only [nI_add, pk_mul, pk_sub, pk_div, znmod, nI_clamp, nIleT, nIleF, nIltT, nIltF, nIeqT, nIeqF, nIm1, nIm1q, zupE, zupN, vpT, nI_01, nI_11, ↓reduceIte, Option.bind_some, Option.toList_some, Option.toList_none, List.cons_append, List.nil_append, Nat.reduceAdd, Nat.reduceMul, Nat.reduceSub, Nat.reduceDiv, Nat.reduceMod, and_true, true_and, and_false, false_and, not_true_eq_false, not_false_eq_true, or_true, true_or, or_false, false_or, Int32.lt_irrefl, Int32.le_refl, b95_160]
  · simp (disch := first | omega | simp (disch := omega) only [nI_add, pk_mul, pk_sub, pk_div, znmod, nI_clamp, nIleT, nIleF, nIltT, nIltF, nIeqT, nIeqF, nIm1, nIm1q, zupE, zupN, vpT, nI_01, nI_11, ↓reduceIte, Option.bind_some, Option.toList_some, Option.toList_none, List.cons_append, List.nil_append, Nat.reduceAdd, Nat.reduceMul, Nat.reduceSub, Nat.reduceDiv, Nat.reduceMod, and_true, true_and, and_false, false_and, not_true_eq_false, not_false_eq_true, or_true, true_or, or_false, false_or, Int32.lt_irrefl, Int32.le_refl]) only [nI_add, pk_mul, pk_sub, pk_div, znmod, nI_clamp, nIleT, nIleF, nIltT, nIltF, nIeqT, nIeqF, nIm1, nIm1q, zupE, zupN, vpT, nI_01, nI_11, ↓reduceIte, Option.bind_some, Option.toList_some, Option.toList_none, List.cons_append, List.nil_append, Nat.reduceAdd, Nat.reduceMul, Nat.reduceSub, Nat.reduceDiv, Nat.reduceMod, and_true, true_and, and_false, false_and, not_true_eq_false, not_false_eq_true, or_true, true_or, or_false, false_or, Int32.lt_irrefl, Int32.le_refl]
/-- all goes back -/
theorem yBackT (ts : TS i P H hc hm) (mt : MT a b H hc hm) (ha : a < P) (hb : b < P) (hab : a ≠ b) (pb : yPB i a b 5 hc hm) {x1 x2 x3 : Int32} :
    ∃ (hc' hm' : zH), (∀ d, zev L (d + 1) 99 2 [some (.inr (.inl (9, 0, 0))), some (.inl x1), some (.inl x2), some (.inl (nI 0))] [] hc = zev L (d + 1) 99 31 [some (.inr (.inl (9, 0, 0))), some (.inl x1), some (.inl x2), some (.inl (nI 5))] [] hc') ∧ (∀ d, zev L (d + 2) 226 3 [some (.inr (.inl (12, 0, 0))), some (.inl (nI a)), some (.inl (nI b)), some (.inl x3), some (.inl (nI 0))] [] hm = zev L (d + 2) 226 75 [some (.inr (.inl (12, 0, 0))), some (.inl (nI a)), some (.inl (nI b)), some (.inl x3), some (.inl (nI 5))] [] hm') ∧
      TS i P H hc' hm' ∧ MT a b H hc' hm' ∧ yTc i hc hc' ∧ yTm hm hm' ∧ (∀ s, s ≠ 1 → hc' 3 i s = hc 3 i s) ∧ (∀ j, ¬ (5 ≤ j ∧ j < 65) → hm' 12 0 2 j = hm 12 0 2 j) ∧ hm' 12 0 0 = hm 12 0 0 := by
  have hP := ts.1.1.2.2.1
  have hi := yTm_ni ts.2.2
  have run : ∀ n, n ≤ 5 → ∃ (hc' hm' : zH), (∀ d, zev L (d + 1) 99 2 [some (.inr (.inl (9, 0, 0))), some (.inl x1), some (.inl x2), some (.inl (nI 0))] [] hc = zev L (d + 1) 99 2 [some (.inr (.inl (9, 0, 0))), some (.inl x1), some (.inl x2), some (.inl (nI n))] [] hc') ∧ (∀ d, zev L (d + 2) 226 3 [some (.inr (.inl (12, 0, 0))), some (.inl (nI a)), some (.inl (nI b)), some (.inl x3), some (.inl (nI 0))] [] hm = zev L (d + 2) 226 3 [some (.inr (.inl (12, 0, 0))), some (.inl (nI a)), some (.inl (nI b)), some (.inl x3), some (.inl (nI n))] [] hm') ∧
      TS i P H hc' hm' ∧ MT a b H hc' hm' ∧ yTc i hc hc' ∧ yTm hm hm' ∧ (∀ s, s ≠ 1 → hc' 3 i s = hc 3 i s) ∧ (∀ j, ¬ (5 ≤ j ∧ j < 65) → hm' 12 0 2 j = hm 12 0 2 j) ∧
      hc' 9 = hc 9 ∧ (∀ s, s ≠ 2 → hm' 12 0 s = hm 12 0 s) ∧ (∀ u, n ≤ u → u < 5 → hc' 3 i 1 (a * 5 + u) = hc 3 i 1 (a * 5 + u) ∧ hc' 3 i 1 (b * 5 + u) = hc 3 i 1 (b * 5 + u)) := by
    intro n
    induction n with
    | zero => intro _; exact ⟨hc, hm, fun _ => rfl, fun _ => rfl, ts, mt, yTc_r, yTm_r, fun _ _ => rfl, fun _ _ => rfl, rfl, fun _ _ => rfl, fun _ _ _ => ⟨rfl, rfl⟩⟩
    | succ n ih =>
      intro hn
      obtain ⟨hc1, hm1, q1, q2, q3, q4, q5, q6, q7, q8, q9, q10, q11⟩ := ih (by omega)
      obtain ⟨o, k, A, B, A', B', z1, z2, z3, z4, z5, z6, z7, z8, z9, z10, z11, z12, z13, z14⟩ := pb n (by omega)
      obtain ⟨m1, m2, _⟩ := id q4
      have ti : hc1 9 0 0 4 = nI i := q3.2.2.2.1
      have u1 : hc1 9 0 3 n = nI o := by rw [q9]; exact z7
      have u2 : hc1 9 0 4 n = nI k := by rw [q9]; exact z9
      have u3 : hm1 12 0 46 n = nI o := by rw [q10 46 (by omega)]; exact z8
      have u4 : hm1 12 0 47 n = nI k := by rw [q10 47 (by omega)]; exact z10
      have u5 : hc1 3 i 1 (a * 5 + n) = nI A' := (q11 n (by omega) (by omega)).1.trans z11
      have u6 : hc1 3 i 1 (b * 5 + n) = nI B' := (q11 n (by omega) (by omega)).2.trans z12
      have u7 : hm1 12 0 2 (5 + 5 * a + n) = nI A' := by
        obtain ⟨x, _, e1, e2⟩ := RMk_Tn q3.1 (j := a * 5 + n) (by omega)
        rw [show 5 + 5 * a + n = 5 + (a * 5 + n) by omega, e2, ← e1, u5]
      have u8 : hm1 12 0 2 (5 + 5 * b + n) = nI B' := by
        obtain ⟨x, _, e1, e2⟩ := RMk_Tn q3.1 (j := b * 5 + n) (by omega)
        rw [show 5 + 5 * b + n = 5 + (b * 5 + n) by omega, e2, ← e1, u6]
      have vA : nI A' - (nI k - nI o) = nI A := by rw [ysb, yc2, nI_add, pk_sub (by omega)]; congr 1; omega
      have vB : nI B' + (nI k - nI o) = nI B := by rw [yab, yc2, nI_add, pk_sub (by omega)]; congr 1; omega
      have vA2 : A' + o - k = A := by omega
      have vB2 : B' + k - o = B := by omega
      refine ⟨zup (zup hc1 3 i 1 (a * 5 + n) (nI A)) 3 i 1 (b * 5 + n) (nI B), zup (zup hm1 12 0 2 (5 + 5 * a + n) (nI A)) 12 0 2 (5 + 5 * b + n) (nI B), fun d => (q1 d).trans (b99_2.trans ?_), fun d => (q2 d).trans (b226_3.trans ?_), ⟨?_, ?_, TC_t q3.2.2 (yTc_u (yTc_u yTc_r ytc3) ytc3) (yTm_u (yTm_u yTm_r rfl) rfl)⟩, MT_f q4 ?_ ?_, yTc_u (yTc_u q5 ytc3) ytc3, yTm_u (yTm_u q6 rfl) rfl, ?_, ?_, ?_, ?_, ?_⟩
      · simp (disch := first | omega | simp (disch := omega) only [nI_add, pk_mul, pk_sub, pk_div, znmod, nI_clamp, nIleT, nIleF, nIltT, nIltF, nIeqT, nIeqF, nIm1, nIm1q, zupE, zupN, vpT, nI_01, nI_11, ↓reduceIte, Option.bind_some, Option.toList_some, Option.toList_none, List.cons_append, List.nil_append, Nat.reduceAdd, Nat.reduceMul, Nat.reduceSub, Nat.reduceDiv, Nat.reduceMod, and_true, true_and, and_false, false_and, not_true_eq_false, not_false_eq_true, or_true, true_or, or_false, false_or, Int32.lt_irrefl, Int32.le_refl, m1, m2, ti, u1, u2, u5, u6, ↓vA, ↓vB]) only [nI_add, pk_mul, pk_sub, pk_div, znmod, nI_clamp, nIleT, nIleF, nIltT, nIltF, nIeqT, nIeqF, nIm1, nIm1q, zupE, zupN, vpT, nI_01, nI_11, ↓reduceIte, Option.bind_some, Option.toList_some, Option.toList_none, List.cons_append, List.nil_append, Nat.reduceAdd, Nat.reduceMul, Nat.reduceSub, Nat.reduceDiv, Nat.reduceMod, and_true, true_and, and_false, false_and, not_true_eq_false, not_false_eq_true, or_true, true_or, or_false, false_or, Int32.lt_irrefl, Int32.le_refl, m1, m2, ti, u1, u2, u5, u6, ↓vA, ↓vB, b99_7, b99_25, b96_0, b96_20, b96_40]
      · simp (disch := first | omega | simp (disch := omega) only [nI_add, pk_mul, pk_sub, pk_div, znmod, nI_clamp, nIleT, nIleF, nIltT, nIltF, nIeqT, nIeqF, nIm1, nIm1q, zupE, zupN, vpT, nI_01, nI_11, ↓reduceIte, Option.bind_some, Option.toList_some, Option.toList_none, List.cons_append, List.nil_append, Nat.reduceAdd, Nat.reduceMul, Nat.reduceSub, Nat.reduceDiv, Nat.reduceMod, and_true, true_and, and_false, false_and, not_true_eq_false, not_false_eq_true, or_true, true_or, or_false, false_or, Int32.lt_irrefl, Int32.le_refl, mTrait, u3, u4, u7, u8, vA2, vB2, mHasT]) only [nI_add, pk_mul, pk_sub, pk_div, znmod, nI_clamp, nIleT, nIleF, nIltT, nIltF, nIeqT, nIeqF, nIm1, nIm1q, zupE, zupN, vpT, nI_01, nI_11, ↓reduceIte, Option.bind_some, Option.toList_some, Option.toList_none, List.cons_append, List.nil_append, Nat.reduceAdd, Nat.reduceMul, Nat.reduceSub, Nat.reduceDiv, Nat.reduceMod, and_true, true_and, and_false, false_and, not_true_eq_false, not_false_eq_true, or_true, true_or, or_false, false_or, Int32.lt_irrefl, Int32.le_refl, mTrait, u3, u4, u7, u8, vA2, vB2, mHasT, b226_9, b226_20, b226_39, b226_50, b226_69]
      · simp (disch := omega) only [zupK, zupF, fupd3I, fupd3F, fupd2S, fupd2F, fupdE, fupdN, zupAK, zupAF, fcp3I, fcp3F, fcp2S, fcp2F]
        exact RMk_trait (by omega) z4 (RMk_trait (by omega) z3 q3.1)
      · simp (disch := omega) only [zupK, zupF, fupd3I, fupd3F, fupd2S, fupd2F, fupdE, fupdN, zupAK, zupAF, fcp3I, fcp3F, fcp2S, fcp2F]
        exact q3.2.1
      · intro j _ _; simp (disch := omega) only [zupK, zupF, fupd3I, fupd3F, fupd2S, fupd2F, fupdE, fupdN, zupAK, zupAF, fcp3I, fcp3F, fcp2S, fcp2F]
      · intro j _ _; simp (disch := omega) only [zupK, zupF, fupd3I, fupd3F, fupd2S, fupd2F, fupdE, fupdN, zupAK, zupAF, fcp3I, fcp3F, fcp2S, fcp2F]
      · intro s hs
        simp (disch := omega) only [zupK, zupF, fupd3I, fupd3F, fupd2S, fupd2F, fupdE, fupdN, zupAK, zupAF, fcp3I, fcp3F, fcp2S, fcp2F]
        exact q7 s hs
      · intro j hj
        simp (disch := omega) only [zupK, zupF, fupd3I, fupd3F, fupd2S, fupd2F, fupdE, fupdN, zupAK, zupAF, fcp3I, fcp3F, fcp2S, fcp2F]
        exact q8 j hj
      · simp (disch := omega) only [zupK, zupF, fupd3I, fupd3F, fupd2S, fupd2F, fupdE, fupdN, zupAK, zupAF, fcp3I, fcp3F, fcp2S, fcp2F]
        exact q9
      · intro s hs
        simp (disch := omega) only [zupK, zupF, fupd3I, fupd3F, fupd2S, fupd2F, fupdE, fupdN, zupAK, zupAF, fcp3I, fcp3F, fcp2S, fcp2F]
        exact q10 s hs
      · intro u hu1 hu2
        simp (disch := omega) only [zupK, zupF, fupd3I, fupd3F, fupd2S, fupd2F, fupdE, fupdN, zupAK, zupAF, fcp3I, fcp3F, fcp2S, fcp2F]
        exact q11 u (by omega) hu2
  obtain ⟨hc1, hm1, q1, q2, q3, q4, q5, q6, q7, q8, q9, q10, q11⟩ := run 5 (Nat.le_refl _)
  refine ⟨hc1, hm1, fun d => (q1 d).trans (b99_2.trans ?_), fun d => (q2 d).trans (b226_3.trans ?_), q3, q4, q5, q6, q7, q8, q10 0 (by omega)⟩
  · simp (disch := first | omega | simp (disch := omega) only [nI_add, pk_mul, pk_sub, pk_div, znmod, nI_clamp, nIleT, nIleF, nIltT, nIltF, nIeqT, nIeqF, nIm1, nIm1q, zupE, zupN, vpT, nI_01, nI_11, ↓reduceIte, Option.bind_some, Option.toList_some, Option.toList_none, List.cons_append, List.nil_append, Nat.reduceAdd, Nat.reduceMul, Nat.reduceSub, Nat.reduceDiv, Nat.reduceMod, and_true, true_and, and_false, false_and, not_true_eq_false, not_false_eq_true, or_true, true_or, or_false, false_or, Int32.lt_irrefl, Int32.le_refl]) only [nI_add, pk_mul, pk_sub, pk_div, znmod, nI_clamp, nIleT, nIleF, nIltT, nIltF, nIeqT, nIeqF, nIm1, nIm1q, zupE, zupN, vpT, nI_01, nI_11, ↓reduceIte, Option.bind_some, Option.toList_some, Option.toList_none, List.cons_append, List.nil_append, Nat.reduceAdd, Nat.reduceMul, Nat.reduceSub, Nat.reduceDiv, Nat.reduceMod, and_true, true_and, and_false, false_and, not_true_eq_false, not_false_eq_true, or_true, true_or, or_false, false_or, Int32.lt_irrefl, Int32.le_refl]
  · simp (disch := first | omega | simp (disch := omega) only [nI_add, pk_mul, pk_sub, pk_div, znmod, nI_clamp, nIleT, nIleF, nIltT, nIltF, nIeqT, nIeqF, nIm1, nIm1q, zupE, zupN, vpT, nI_01, nI_11, ↓reduceIte, Option.bind_some, Option.toList_some, Option.toList_none, List.cons_append, List.nil_append, Nat.reduceAdd, Nat.reduceMul, Nat.reduceSub, Nat.reduceDiv, Nat.reduceMod, and_true, true_and, and_false, false_and, not_true_eq_false, not_false_eq_true, or_true, true_or, or_false, false_or, Int32.lt_irrefl, Int32.le_refl]) only [nI_add, pk_mul, pk_sub, pk_div, znmod, nI_clamp, nIleT, nIleF, nIltT, nIltF, nIeqT, nIeqF, nIm1, nIm1q, zupE, zupN, vpT, nI_01, nI_11, ↓reduceIte, Option.bind_some, Option.toList_some, Option.toList_none, List.cons_append, List.nil_append, Nat.reduceAdd, Nat.reduceMul, Nat.reduceSub, Nat.reduceDiv, Nat.reduceMod, and_true, true_and, and_false, false_and, not_true_eq_false, not_false_eq_true, or_true, true_or, or_false, false_or, Int32.lt_irrefl, Int32.le_refl]
end PS
