/-! text: denied, in brackets, joined -/
section TR
variable {L : Nat} {T t P H : Nat} {B : Nat → Nat} {h0c h0m : zH}
theorem yEx_l {ts ts' : List Bool} {sc mc sc' mc' : Nat} {C M C' M' M0 : Nat → Nat → Int32} (h : yEx ts ts' sc mc sc' mc' C M C' M') (e : ∀ s j, s ≤ 24 → M s j = M0 s j) : yEx ts ts' sc mc sc' mc' C M0 C' M' := by
  obtain ⟨a1, a2, a3, a4, a5, a6, a7⟩ := h
  exact ⟨a1, a2, a3, fun j hj => ⟨(a4 j hj).1.trans (e _ _ (by omega)), (a4 j hj).2.trans (e _ _ (by omega))⟩, a5, fun s j q1 q2 => (a6 s j q1 q2).trans (e s j (by omega)), a7⟩
/-- one more is open, and waits -/
def yop (o len x : Nat) (hm : zH) : zH := zup (zup (zup hm 12 0 0 27 (nI (o + 1))) 12 0 29 len (nI x)) 12 0 0 29 (nI (len + 1))
theorem yop_S {i o len x : Nat} {hc hm : zH} (S : yYS T t B P H h0c h0m i hc hm) : yYS T t B P H h0c h0m i hc (yop o len x hm) := yYS_w (yYS_m S (Or.inl (by omega)))
theorem yop_r {o len x s j : Nat} {hm : zH} (h : s ≤ 24) : yRw (yop o len x hm) s j = yRw hm s j := by
  unfold yRw yop; rw [zupN (by omega), zupN (by omega), zupN (by omega)]
theorem yop_p {o x : Nat} {hm : zH} {l : List Nat} (p : yPk hm l) : yPk (yop o l.length x hm) (x :: l) := by
  unfold yop
  refine ⟨by rw [zupN (by omega), zupE (by omega)], yPk_c l (fun j hj => ?_) p⟩
  rw [zupN (by omega), zupN (by omega), zupN (by omega)]
theorem yLS_F {sc mc i : Nat} {hc hm hm' : zH} (l : yLS sc mc hc hm) (f : yyF hm hm') : yLS sc mc (yNx T B i hc) hm' := ⟨by rw [yNx_k (by omega)]; exact l.1, by rw [f 12 0 0 26 (by omega)]; exact l.2.1, l.2.2⟩
theorem yPk_F {hm hm' : zH} {l : List Nat} (p : yPk hm l) (f : yyF hm hm') : yPk hm' l := yPk_c l (fun j _ => f 12 0 29 j (by omega)) p
theorem ySin_s {n : Nat} (G : yGl T t B P H h0m) (hS : ∀ m, m + 1 = n → ySin L T t B P H h0c h0m m) (hC : ∀ m, m + 1 = n → yCon L T t B P H h0c h0m m) : ySin L T t B P H h0c h0m n := by
  intro i hi o k br r a3 ts sc mc hc hm S l ho hk pk e29 hl hr e27 hw ht hbr
  have b3 := S.2.2.1
  have ai := S.1
  have bK := yYS_b S
  have lr : (List.replicate k 9 ++ r).length = k + r.length := by rw [List.length_append, List.length_replicate]
  by_cases c273 : yykd T B i = 273
  · have mn := fun d => yTw (L := L) (c := 17) S (by omega) d
    rw [show yymc 17 = 6 from rfl] at mn
    simp only [if_pos (show yykd T B i = 256 + 17 from c273)] at mn
    rw [c273] at b3
    by_cases c8 : o = 8
    · subst c8
      obtain ⟨f1, f2, f3⟩ := yFail (L := L) (f := 3) G S
      refine Or.inr ⟨_, _, fun d hd => ?_, fun d => b197_9.trans ?_, f3⟩
      · simp (disch := first | omega | simp (disch := omega) only [nI_add, pk_mul, pk_sub, pk_div, znmod, nI_clamp, nIleT, nIleF, nIltT, nIltF, nIeqT, nIeqF, nIm1, nIm1q, zupE, zupN, vpT, nI_01, nI_11, ↓reduceIte, Option.bind_some, Option.toList_some, Option.toList_none, List.cons_append, List.nil_append, Nat.reduceAdd, Nat.reduceMul, Nat.reduceSub, Nat.reduceDiv, Nat.reduceMod, and_true, true_and, and_false, false_and, not_true_eq_false, not_false_eq_true, or_true, true_or, or_false, false_or, Int32.lt_irrefl, Int32.le_refl, b3, f1]) only [nI_add, pk_mul, pk_sub, pk_div, znmod, nI_clamp, nIleT, nIleF, nIltT, nIltF, nIeqT, nIeqF, nIm1, nIm1q, zupE, zupN, vpT, nI_01, nI_11, ↓reduceIte, Option.bind_some, Option.toList_some, Option.toList_none, List.cons_append, List.nil_append, Nat.reduceAdd, Nat.reduceMul, Nat.reduceSub, Nat.reduceDiv, Nat.reduceMod, and_true, true_and, and_false, false_and, not_true_eq_false, not_false_eq_true, or_true, true_or, or_false, false_or, Int32.lt_irrefl, Int32.le_refl, b3, f1, b69_0, b69_10, b69_15, b69_29, b69_35, b69_40]
      · simp (disch := first | omega | simp (disch := omega) only [nI_add, pk_mul, pk_sub, pk_div, znmod, nI_clamp, nIleT, nIleF, nIltT, nIltF, nIeqT, nIeqF, nIm1, nIm1q, zupE, zupN, vpT, nI_01, nI_11, ↓reduceIte, Option.bind_some, Option.toList_some, Option.toList_none, List.cons_append, List.nil_append, Nat.reduceAdd, Nat.reduceMul, Nat.reduceSub, Nat.reduceDiv, Nat.reduceMod, and_true, true_and, and_false, false_and, not_true_eq_false, not_false_eq_true, or_true, true_or, or_false, false_or, Int32.lt_irrefl, Int32.le_refl, mn, e27, f2]) only [nI_add, pk_mul, pk_sub, pk_div, znmod, nI_clamp, nIleT, nIleF, nIltT, nIltF, nIeqT, nIeqF, nIm1, nIm1q, zupE, zupN, vpT, nI_01, nI_11, ↓reduceIte, Option.bind_some, Option.toList_some, Option.toList_none, List.cons_append, List.nil_append, Nat.reduceAdd, Nat.reduceMul, Nat.reduceSub, Nat.reduceDiv, Nat.reduceMod, and_true, true_and, and_false, false_and, not_true_eq_false, not_false_eq_true, or_true, true_or, or_false, false_or, Int32.lt_irrefl, Int32.le_refl, mn, e27, f2, b197_13, b197_19, b197_33, b197_42, b197_47]
    · obtain ⟨m1, n1, n2, S1, F1, it⟩ := yNext (L := L) G (yop_S (o := o) (len := k + r.length) (x := 9) S) (by omega)
      have pk1 : yPk m1 (List.replicate (k + 1) 9 ++ r) := by
        rw [List.replicate_succ, List.cons_append]
        have := yop_p (o := o) (x := 9) pk
        rw [lr] at this
        exact yPk_F this F1
      have e29' : m1 12 0 0 29 = nI (k + 1 + r.length) := by
        rw [F1 12 0 0 29 (by omega)]; unfold yop; rw [zupE (by omega)]; congr 1; omega
      have e27' : m1 12 0 0 27 = nI (o + 1) := by
        rw [F1 12 0 0 27 (by omega)]; unfold yop; rw [zupN (by omega), zupN (by omega), zupE (by omega)]
      have l1 : yLS sc mc (yNx T B i hc) m1 := yLS_F (hm := yop o (k + r.length) 9 hm) ⟨l.1, by unfold yop; rw [zupN (by omega), zupN (by omega), zupN (by omega)]; exact l.2.1, l.2.2⟩ F1
      have mw := fun d => mWait (L := L) (d := d) (x := 9) (len := k + r.length) (hm := zup hm 12 0 0 27 (nI (o + 1))) (by rw [zupN (by omega)]; exact e29) (by omega)
      have n2' : ∀ d, zev L (d + 2) 185 0 [some (.inr (.inl (12, 0, 0))), none] [] (zup (zup (zup hm 12 0 0 27 (nI (o + 1))) 12 0 29 (k + r.length) (nI 9)) 12 0 0 29 (nI (k + r.length + 1))) = some (none, m1) := n2
      have ms : ∀ d, zev L (d + 7) 197 9 [some (.inr (.inl (12, 0, 0))), some (.inl (nI br)), some (.inl (nI 1)), a3] [] hm = zev L (d + 7) 197 9 [some (.inr (.inl (12, 0, 0))), some (.inl (nI br)), some (.inl (nI 1)), some (.inl (nI 1))] [] m1 := fun d => by
        refine b197_9.trans ?_
        simp (disch := first | omega | simp (disch := omega) only [nI_add, pk_mul, pk_sub, pk_div, znmod, nI_clamp, nIleT, nIleF, nIltT, nIltF, nIeqT, nIeqF, nIm1, nIm1q, zupE, zupN, vpT, nI_01, nI_11, ↓reduceIte, Option.bind_some, Option.toList_some, Option.toList_none, List.cons_append, List.nil_append, Nat.reduceAdd, Nat.reduceMul, Nat.reduceSub, Nat.reduceDiv, Nat.reduceMod, and_true, true_and, and_false, false_and, not_true_eq_false, not_false_eq_true, or_true, true_or, or_false, false_or, Int32.lt_irrefl, Int32.le_refl, mn, e27, mw, n2']) only [nI_add, pk_mul, pk_sub, pk_div, znmod, nI_clamp, nIleT, nIleF, nIltT, nIltF, nIeqT, nIeqF, nIm1, nIm1q, zupE, zupN, vpT, nI_01, nI_11, ↓reduceIte, Option.bind_some, Option.toList_some, Option.toList_none, List.cons_append, List.nil_append, Nat.reduceAdd, Nat.reduceMul, Nat.reduceSub, Nat.reduceDiv, Nat.reduceMod, and_true, true_and, and_false, false_and, not_true_eq_false, not_false_eq_true, or_true, true_or, or_false, false_or, Int32.lt_irrefl, Int32.le_refl, mn, e27, mw, n2', b197_13, b197_19, b197_33, b197_48, b197_58, b197_66, b197_71, b197_78, b197_81, b197_85]
      have rw1 : ∀ s j, s ≤ 24 → yRw m1 s j = yRw hm s j := fun s j q => by rw [yRw_F F1, yop_r q]
      cases n with
      | zero => omega
      | succ n =>
        rcases hS n rfl (i + 1) (by omega) (o + 1) (k + 1) br r (some (.inl (nI 1))) ts sc mc _ _ S1 l1 (by omega) (by omega) pk1 e29' (by omega) hr e27' (by omega) (by omega) (by omega) with ⟨i', sc', mc', hc', hm', a3', q1, q2, q3, q4, q5, q6, q7, q8, q9, q10, q11, q12, q13⟩ | ⟨hc', hm', q1, q2, q3⟩
        · have it' := q4.1
          have g1 := G.1
          have g2 := G.2.1
          have ka := fun d => kAdds (L := L) (d := d) (x := nI 19) q5 (by omega)
          have y0 := q8 0 (by omega)
          rw [Nat.add_zero] at y0
          have ex1 : yEx ts (true :: ts) sc mc sc' mc' (hc 2 8) (yRw hm) (hc' 2 8) (yRw hm') := by
            have := yEx_l q13 rw1
            rw [yNx_8] at this
            exact this
          have ex2 : yEx (true :: ts) (true :: ts) sc' mc' (sc' + 1) (mc' + 1) (hc' 2 8) (yRw hm') ((yac sc' (nI 19) hc') 2 8) (yRw hm') := yEx_v (fun _ _ => ⟨rfl, rfl⟩) (fun _ _ _ _ => rfl) (Or.inr (Or.inr (Or.inr (Or.inr (Or.inr (Or.inl ⟨ts, rfl, y0, rfl, rfl, rfl, by simp only [List.length_cons]; omega⟩))))))
          refine Or.inl ⟨i', sc' + 1, mc' + 1, yac sc' (nI 19) hc', hm', a3', by omega, fun d hd => ?_, fun d => (ms d).trans (q3 d), yYS_a q4 (by omega), yac_3, by rw [q6]; congr 1; omega, by omega, fun j hj => ?_, q9, q10, by rw [q11]; congr 1; omega, by omega, yEx_t ex1 ex2⟩
          · obtain ⟨e, rfl⟩ : ∃ e, d = e + 1 := ⟨d - 1, by omega⟩
            have q2' := q2 e (by omega)
            simp (disch := first | omega | simp (disch := omega) only [nI_add, pk_mul, pk_sub, pk_div, znmod, nI_clamp, nIleT, nIleF, nIltT, nIltF, nIeqT, nIeqF, nIm1, nIm1q, zupE, zupN, vpT, nI_01, nI_11, ↓reduceIte, Option.bind_some, Option.toList_some, Option.toList_none, List.cons_append, List.nil_append, Nat.reduceAdd, Nat.reduceMul, Nat.reduceSub, Nat.reduceDiv, Nat.reduceMod, and_true, true_and, and_false, false_and, not_true_eq_false, not_false_eq_true, or_true, true_or, or_false, false_or, Int32.lt_irrefl, Int32.le_refl, b3, n1, q2', ka]) only [nI_add, pk_mul, pk_sub, pk_div, znmod, nI_clamp, nIleT, nIleF, nIltT, nIltF, nIeqT, nIeqF, nIm1, nIm1q, zupE, zupN, vpT, nI_01, nI_11, ↓reduceIte, Option.bind_some, Option.toList_some, Option.toList_none, List.cons_append, List.nil_append, Nat.reduceAdd, Nat.reduceMul, Nat.reduceSub, Nat.reduceDiv, Nat.reduceMod, and_true, true_and, and_false, false_and, not_true_eq_false, not_false_eq_true, or_true, true_or, or_false, false_or, Int32.lt_irrefl, Int32.le_refl, b3, n1, q2', ka, b69_0, b69_10, b69_15, b69_29, b69_41, b69_45, b69_74, b69_81, b69_91]
          · have := q8 (j + 1) (by omega)
            rw [show mc' + (j + 1) = mc' + 1 + j by omega] at this
            exact this
        · obtain ⟨hc4, ka, F4⟩ := kAddF (L := L) (x := nI 19) q3
          refine Or.inr ⟨hc4, hm', fun d hd => ?_, fun d => (ms d).trans (q2 d), F4⟩
          obtain ⟨e, rfl⟩ : ∃ e, d = e + 1 := ⟨d - 1, by omega⟩
          have q1' := q1 e (by omega)
          simp (disch := first | omega | simp (disch := omega) only [nI_add, pk_mul, pk_sub, pk_div, znmod, nI_clamp, nIleT, nIleF, nIltT, nIltF, nIeqT, nIeqF, nIm1, nIm1q, zupE, zupN, vpT, nI_01, nI_11, ↓reduceIte, Option.bind_some, Option.toList_some, Option.toList_none, List.cons_append, List.nil_append, Nat.reduceAdd, Nat.reduceMul, Nat.reduceSub, Nat.reduceDiv, Nat.reduceMod, and_true, true_and, and_false, false_and, not_true_eq_false, not_false_eq_true, or_true, true_or, or_false, false_or, Int32.lt_irrefl, Int32.le_refl, b3, n1, q1', ka]) only [nI_add, pk_mul, pk_sub, pk_div, znmod, nI_clamp, nIleT, nIleF, nIltT, nIltF, nIeqT, nIeqF, nIm1, nIm1q, zupE, zupN, vpT, nI_01, nI_11, ↓reduceIte, Option.bind_some, Option.toList_some, Option.toList_none, List.cons_append, List.nil_append, Nat.reduceAdd, Nat.reduceMul, Nat.reduceSub, Nat.reduceDiv, Nat.reduceMod, and_true, true_and, and_false, false_and, not_true_eq_false, not_false_eq_true, or_true, true_or, or_false, false_or, Int32.lt_irrefl, Int32.le_refl, b3, n1, q1', ka, b69_0, b69_10, b69_15, b69_29, b69_41, b69_45, b69_74, b69_81, b69_91]
  · by_cases c40 : yykd T B i = 40
    · have mn := fun d => yTw (L := L) (c := 17) S (by omega) d
      rw [show yymc 17 = 6 from rfl] at mn
      simp only [if_neg (show ¬ yykd T B i = 256 + 17 from c273)] at mn
      have mo := fun d => yTs (L := L) (c := 40) S rfl d
      simp only [if_pos c40] at mo
      rw [c40] at b3
      by_cases c8 : o = 8
      · subst c8
        obtain ⟨f1, f2, f3⟩ := yFail (L := L) (f := 3) G S
        refine Or.inr ⟨_, _, fun d hd => ?_, fun d => b197_9.trans ?_, f3⟩
        · simp (disch := first | omega | simp (disch := omega) only [nI_add, pk_mul, pk_sub, pk_div, znmod, nI_clamp, nIleT, nIleF, nIltT, nIltF, nIeqT, nIeqF, nIm1, nIm1q, zupE, zupN, vpT, nI_01, nI_11, ↓reduceIte, Option.bind_some, Option.toList_some, Option.toList_none, List.cons_append, List.nil_append, Nat.reduceAdd, Nat.reduceMul, Nat.reduceSub, Nat.reduceDiv, Nat.reduceMod, and_true, true_and, and_false, false_and, not_true_eq_false, not_false_eq_true, or_true, true_or, or_false, false_or, Int32.lt_irrefl, Int32.le_refl, b3, f1]) only [nI_add, pk_mul, pk_sub, pk_div, znmod, nI_clamp, nIleT, nIleF, nIltT, nIltF, nIeqT, nIeqF, nIm1, nIm1q, zupE, zupN, vpT, nI_01, nI_11, ↓reduceIte, Option.bind_some, Option.toList_some, Option.toList_none, List.cons_append, List.nil_append, Nat.reduceAdd, Nat.reduceMul, Nat.reduceSub, Nat.reduceDiv, Nat.reduceMod, and_true, true_and, and_false, false_and, not_true_eq_false, not_false_eq_true, or_true, true_or, or_false, false_or, Int32.lt_irrefl, Int32.le_refl, b3, f1, b69_0, b69_14, b69_15, b69_20, b69_29, b69_35, b69_40]
        · simp (disch := first | omega | simp (disch := omega) only [nI_add, pk_mul, pk_sub, pk_div, znmod, nI_clamp, nIleT, nIleF, nIltT, nIltF, nIeqT, nIeqF, nIm1, nIm1q, zupE, zupN, vpT, nI_01, nI_11, ↓reduceIte, Option.bind_some, Option.toList_some, Option.toList_none, List.cons_append, List.nil_append, Nat.reduceAdd, Nat.reduceMul, Nat.reduceSub, Nat.reduceDiv, Nat.reduceMod, and_true, true_and, and_false, false_and, not_true_eq_false, not_false_eq_true, or_true, true_or, or_false, false_or, Int32.lt_irrefl, Int32.le_refl, mn, mo, e27, f2]) only [nI_add, pk_mul, pk_sub, pk_div, znmod, nI_clamp, nIleT, nIleF, nIltT, nIltF, nIeqT, nIeqF, nIm1, nIm1q, zupE, zupN, vpT, nI_01, nI_11, ↓reduceIte, Option.bind_some, Option.toList_some, Option.toList_none, List.cons_append, List.nil_append, Nat.reduceAdd, Nat.reduceMul, Nat.reduceSub, Nat.reduceDiv, Nat.reduceMod, and_true, true_and, and_false, false_and, not_true_eq_false, not_false_eq_true, or_true, true_or, or_false, false_or, Int32.lt_irrefl, Int32.le_refl, mn, mo, e27, f2, b197_13, b197_19, b197_24, b197_30, b197_33, b197_42, b197_47]
      · obtain ⟨m1, n1, n2, S1, F1, it⟩ := yNext (L := L) G (yop_S (o := o) (len := k + r.length) (x := 12) S) (by omega)
        have pk1 : yPk m1 (yao false false (12 :: (List.replicate k 9 ++ r))) := by
          have := yop_p (o := o) (x := 12) pk
          rw [lr] at this
          exact yPk_F this F1
        have ll : (12 :: (List.replicate k 9 ++ r)).length = k + r.length + 1 := by rw [List.length_cons, lr]
        have e29' : m1 12 0 0 29 = nI (yao false false (12 :: (List.replicate k 9 ++ r))).length := by
          rw [show yao false false (12 :: (List.replicate k 9 ++ r)) = 12 :: (List.replicate k 9 ++ r) from rfl, ll, F1 12 0 0 29 (by omega)]; unfold yop; rw [zupE (by omega)]
        have e27' : m1 12 0 0 27 = nI (o + 1) := by
          rw [F1 12 0 0 27 (by omega)]; unfold yop; rw [zupN (by omega), zupN (by omega), zupE (by omega)]
        have l1 : yLS sc mc (yNx T B i hc) m1 := yLS_F (hm := yop o (k + r.length) 12 hm) ⟨l.1, by unfold yop; rw [zupN (by omega), zupN (by omega), zupN (by omega)]; exact l.2.1, l.2.2⟩ F1
        have mw := fun d => mWait (L := L) (d := d) (x := 12) (len := k + r.length) (hm := zup hm 12 0 0 27 (nI (o + 1))) (by rw [zupN (by omega)]; exact e29) (by omega)
        have n2' : ∀ d, zev L (d + 2) 185 0 [some (.inr (.inl (12, 0, 0))), none] [] (zup (zup (zup hm 12 0 0 27 (nI (o + 1))) 12 0 29 (k + r.length) (nI 12)) 12 0 0 29 (nI (k + r.length + 1))) = some (none, m1) := n2
        have ms : ∀ d, zev L (d + 7) 197 9 [some (.inr (.inl (12, 0, 0))), some (.inl (nI br)), some (.inl (nI 1)), a3] [] hm = zev L (d + 7) 197 9 [some (.inr (.inl (12, 0, 0))), some (.inl (nI (br + 1))), some (.inl (nI 1)), some (.inl (nI 0))] [] m1 := fun d => by
          refine b197_9.trans ?_
          simp (disch := first | omega | simp (disch := omega) only [nI_add, pk_mul, pk_sub, pk_div, znmod, nI_clamp, nIleT, nIleF, nIltT, nIltF, nIeqT, nIeqF, nIm1, nIm1q, zupE, zupN, vpT, nI_01, nI_11, ↓reduceIte, Option.bind_some, Option.toList_some, Option.toList_none, List.cons_append, List.nil_append, Nat.reduceAdd, Nat.reduceMul, Nat.reduceSub, Nat.reduceDiv, Nat.reduceMod, and_true, true_and, and_false, false_and, not_true_eq_false, not_false_eq_true, or_true, true_or, or_false, false_or, Int32.lt_irrefl, Int32.le_refl, mn, mo, e27, mw, n2']) only [nI_add, pk_mul, pk_sub, pk_div, znmod, nI_clamp, nIleT, nIleF, nIltT, nIltF, nIeqT, nIeqF, nIm1, nIm1q, zupE, zupN, vpT, nI_01, nI_11, ↓reduceIte, Option.bind_some, Option.toList_some, Option.toList_none, List.cons_append, List.nil_append, Nat.reduceAdd, Nat.reduceMul, Nat.reduceSub, Nat.reduceDiv, Nat.reduceMod, and_true, true_and, and_false, false_and, not_true_eq_false, not_false_eq_true, or_true, true_or, or_false, false_or, Int32.lt_irrefl, Int32.le_refl, mn, mo, e27, mw, n2', b197_13, b197_19, b197_24, b197_30, b197_33, b197_48, b197_58, b197_62, b197_66, b197_76, b197_78, b197_81, b197_85]
        have rw1 : ∀ s j, s ≤ 24 → yRw m1 s j = yRw hm s j := fun s j q => by rw [yRw_F F1, yop_r q]
        have no : yNo (12 :: (List.replicate k 9 ++ r)) = yNo r + k := by rw [yNo, yNo_r (by omega), if_pos rfl, Nat.add_zero]
        cases n with
        | zero => omega
        | succ n =>
          rcases hC n rfl (i + 1) (by omega) (o + 1) (br + 1) 0 false false (12 :: (List.replicate k 9 ++ r)) (some (.inl (nI 0))) ts sc mc _ _ S1 l1 (by omega) pk1 e29' (by omega) (fun y l q => (List.cons.inj q).1.symm) e27' (by rw [show yao false false (12 :: (List.replicate k 9 ++ r)) = 12 :: (List.replicate k 9 ++ r) from rfl, no]; omega) (by omega) (by omega) (by omega) with ⟨i2, sc2, mc2, hc2, hm2, a32, q1, q2, q3, q4, q5, q6, q7, q8, q9, q10⟩ | ⟨hc', hm', q1, q2, q3⟩
          · have d3 := q4.2.2.1
            have bK2 := yYS_b q4
            have it2 := q4.1
            have g1 := G.1
            have g2 := G.2.1
            rw [ll] at q7
            rw [no] at q9
            have mk := fun d => yTs (L := L) (c := 41) q4 rfl d
            have kp := fun d => yPass (L := L) (K := 41) G q4 (by omega) (by omega) d
            have ex1 : yEx ts (true :: ts) sc mc sc2 mc2 (hc 2 8) (yRw hm) (hc2 2 8) (yRw hm2) := by
              have := yEx_l q10 rw1
              rw [yNx_8] at this
              exact this
            by_cases c41 : yykd T B i2 = 41
            · simp only [if_pos c41] at mk kp
              obtain ⟨hmB, s1, s2, s3, s4, s5, s6, s7, s8⟩ := mSet (L := L) (T := T) (t := t) (B := B) (P := P) (H := H) (h0c := h0c) (h0m := h0m) (x := 9) (o := o) (by omega) k r mc2 (zup (zup hm2 12 0 0 29 (nI (k + r.length))) 12 0 0 27 (nI o)) (yPk_c _ (fun j _ => by rw [zupN (by omega), zupN (by omega)]) q6.2) (by rw [zupN (by omega), zupE (by omega)]) (by omega) hr (by rw [zupN (by omega), zupN (by omega)]; exact q5.2.1) (by omega) (by rw [zupE (by omega)]) (fun _ => hk) (by omega)
              have SB := s8 _ _ (yYS_m (v := nI o) (yYS_m (v := nI (k + r.length)) q4 (s := 0) (j := 29) (Or.inl (by omega))) (s := 0) (j := 27) (Or.inl (by omega)))
              obtain ⟨m3, u1, u2, S3, F3, it3⟩ := yNext (L := L) G SB (by omega)
              have rB : ∀ s j, yRw (zup (zup hm2 12 0 0 29 (nI (k + r.length))) 12 0 0 27 (nI o)) s j = yRw hm2 s j := fun s j => by unfold yRw; rw [zupN (by omega), zupN (by omega)]
              refine Or.inl ⟨i2 + 1, sc2, mc2, yNx T B i2 hc2, m3, a32, by omega, fun d hd => ?_, fun d => ((ms d).trans (q3 d)).trans ?_, S3, by rw [yNx_k (by omega)]; exact q5.1, by rw [F3 12 0 0 26 (by omega)]; exact s2, q5.2.2, fun j hj => by rw [yRw_F F3]; exact s3 j hj, ?_, by rw [F3 12 0 0 29 (by omega)]; exact s6, by rw [F3 12 0 0 27 (by omega), s7, if_pos rfl], by omega, ?_⟩
              · obtain ⟨e, rfl⟩ : ∃ e, d = e + 2 := ⟨d - 2, by omega⟩
                have q2' := q2 e (by omega)
                rw [Bool.toNat_false] at q2'
                simp (disch := first | omega | simp (disch := omega) only [nI_add, pk_mul, pk_sub, pk_div, znmod, nI_clamp, nIleT, nIleF, nIltT, nIltF, nIeqT, nIeqF, nIm1, nIm1q, zupE, zupN, vpT, nI_01, nI_11, ↓reduceIte, Option.bind_some, Option.toList_some, Option.toList_none, List.cons_append, List.nil_append, Nat.reduceAdd, Nat.reduceMul, Nat.reduceSub, Nat.reduceDiv, Nat.reduceMod, and_true, true_and, and_false, false_and, not_true_eq_false, not_false_eq_true, or_true, true_or, or_false, false_or, Int32.lt_irrefl, Int32.le_refl, b3, n1, q2', kp]) only [nI_add, pk_mul, pk_sub, pk_div, znmod, nI_clamp, nIleT, nIleF, nIltT, nIltF, nIeqT, nIeqF, nIm1, nIm1q, zupE, zupN, vpT, nI_01, nI_11, ↓reduceIte, Option.bind_some, Option.toList_some, Option.toList_none, List.cons_append, List.nil_append, Nat.reduceAdd, Nat.reduceMul, Nat.reduceSub, Nat.reduceDiv, Nat.reduceMod, and_true, true_and, and_false, false_and, not_true_eq_false, not_false_eq_true, or_true, true_or, or_false, false_or, Int32.lt_irrefl, Int32.le_refl, b3, n1, q2', kp, b69_0, b69_14, b69_15, b69_20, b69_29, b69_41, b69_45, b69_49, b69_56, b69_59, b69_65, b69_68, b69_73, b68_0]
              · have x29 : k + r.length + 1 - 1 = k + r.length := by omega
                have xb : br + 1 - 1 = br := by omega
                have xo : o + 1 - 1 = o := by omega
                refine b197_185.trans ?_
                simp (disch := first | omega | simp (disch := omega) only [nI_add, pk_mul, pk_sub, pk_div, znmod, nI_clamp, nIleT, nIleF, nIltT, nIltF, nIeqT, nIeqF, nIm1, nIm1q, zupE, zupN, vpT, nI_01, nI_11, ↓reduceIte, Option.bind_some, Option.toList_some, Option.toList_none, List.cons_append, List.nil_append, Nat.reduceAdd, Nat.reduceMul, Nat.reduceSub, Nat.reduceDiv, Nat.reduceMod, and_true, true_and, and_false, false_and, not_true_eq_false, not_false_eq_true, or_true, true_or, or_false, false_or, Int32.lt_irrefl, Int32.le_refl, mk, q7, q8, x29, xb, xo, s1, u2]) only [nI_add, pk_mul, pk_sub, pk_div, znmod, nI_clamp, nIleT, nIleF, nIltT, nIltF, nIeqT, nIeqF, nIm1, nIm1q, zupE, zupN, vpT, nI_01, nI_11, ↓reduceIte, Option.bind_some, Option.toList_some, Option.toList_none, List.cons_append, List.nil_append, Nat.reduceAdd, Nat.reduceMul, Nat.reduceSub, Nat.reduceDiv, Nat.reduceMod, and_true, true_and, and_false, false_and, not_true_eq_false, not_false_eq_true, or_true, true_or, or_false, false_or, Int32.lt_irrefl, Int32.le_refl, mk, q7, q8, x29, xb, xo, s1, u2, b197_191, b197_197, b197_206, b197_216, b197_230, b197_236, b197_240]
              · refine yPk_F (yPk_c r (fun j _ => ?_) (yPk_s q6.2)) F3
                have := s5 28 j (by omega) (by omega)
                exact this.trans (rB 28 j)
              · rw [yNx_8, yRw_F F3]
                exact yEx_k ex1 (fun j hj => by have := s4 j hj; rw [rB, rB] at this; exact this) (fun s j p1 p2 => (s5 s j (by omega) (by omega)).trans (rB s j))
            · simp only [if_neg c41] at mk kp
              obtain ⟨f1, f2, f3⟩ := yFail (L := L) (f := 1) G q4
              refine Or.inr ⟨_, _, fun d hd => ?_, fun d => ((ms d).trans (q3 d)).trans ?_, f3⟩
              · obtain ⟨e, rfl⟩ : ∃ e, d = e + 2 := ⟨d - 2, by omega⟩
                have q2' := q2 e (by omega)
                rw [Bool.toNat_false] at q2'
                simp (disch := first | omega | simp (disch := omega) only [nI_add, pk_mul, pk_sub, pk_div, znmod, nI_clamp, nIleT, nIleF, nIltT, nIltF, nIeqT, nIeqF, nIm1, nIm1q, zupE, zupN, vpT, nI_01, nI_11, ↓reduceIte, Option.bind_some, Option.toList_some, Option.toList_none, List.cons_append, List.nil_append, Nat.reduceAdd, Nat.reduceMul, Nat.reduceSub, Nat.reduceDiv, Nat.reduceMod, and_true, true_and, and_false, false_and, not_true_eq_false, not_false_eq_true, or_true, true_or, or_false, false_or, Int32.lt_irrefl, Int32.le_refl, b3, n1, q2', kp]) only [nI_add, pk_mul, pk_sub, pk_div, znmod, nI_clamp, nIleT, nIleF, nIltT, nIltF, nIeqT, nIeqF, nIm1, nIm1q, zupE, zupN, vpT, nI_01, nI_11, ↓reduceIte, Option.bind_some, Option.toList_some, Option.toList_none, List.cons_append, List.nil_append, Nat.reduceAdd, Nat.reduceMul, Nat.reduceSub, Nat.reduceDiv, Nat.reduceMod, and_true, true_and, and_false, false_and, not_true_eq_false, not_false_eq_true, or_true, true_or, or_false, false_or, Int32.lt_irrefl, Int32.le_refl, b3, n1, q2', kp, b69_0, b69_14, b69_15, b69_20, b69_29, b69_41, b69_45, b69_49, b69_56, b69_59, b69_65, b69_72, b69_73, b68_0]
              · refine b197_185.trans ?_
                simp (disch := first | omega | simp (disch := omega) only [nI_add, pk_mul, pk_sub, pk_div, znmod, nI_clamp, nIleT, nIleF, nIltT, nIltF, nIeqT, nIeqF, nIm1, nIm1q, zupE, zupN, vpT, nI_01, nI_11, ↓reduceIte, Option.bind_some, Option.toList_some, Option.toList_none, List.cons_append, List.nil_append, Nat.reduceAdd, Nat.reduceMul, Nat.reduceSub, Nat.reduceDiv, Nat.reduceMod, and_true, true_and, and_false, false_and, not_true_eq_false, not_false_eq_true, or_true, true_or, or_false, false_or, Int32.lt_irrefl, Int32.le_refl, mk, f2]) only [nI_add, pk_mul, pk_sub, pk_div, znmod, nI_clamp, nIleT, nIleF, nIltT, nIltF, nIeqT, nIeqF, nIm1, nIm1q, zupE, zupN, vpT, nI_01, nI_11, ↓reduceIte, Option.bind_some, Option.toList_some, Option.toList_none, List.cons_append, List.nil_append, Nat.reduceAdd, Nat.reduceMul, Nat.reduceSub, Nat.reduceDiv, Nat.reduceMod, and_true, true_and, and_false, false_and, not_true_eq_false, not_false_eq_true, or_true, true_or, or_false, false_or, Int32.lt_irrefl, Int32.le_refl, mk, f2, b197_191, b197_197, b197_200, b197_205]
          · refine Or.inr ⟨_, _, fun d hd => ?_, fun d => (ms d).trans (q2 d), q3⟩
            obtain ⟨e, rfl⟩ : ∃ e, d = e + 2 := ⟨d - 2, by omega⟩
            have q1' := q1 e (by omega)
            rw [Bool.toNat_false] at q1'
            simp (disch := first | omega | simp (disch := omega) only [nI_add, pk_mul, pk_sub, pk_div, znmod, nI_clamp, nIleT, nIleF, nIltT, nIltF, nIeqT, nIeqF, nIm1, nIm1q, zupE, zupN, vpT, nI_01, nI_11, ↓reduceIte, Option.bind_some, Option.toList_some, Option.toList_none, List.cons_append, List.nil_append, Nat.reduceAdd, Nat.reduceMul, Nat.reduceSub, Nat.reduceDiv, Nat.reduceMod, and_true, true_and, and_false, false_and, not_true_eq_false, not_false_eq_true, or_true, true_or, or_false, false_or, Int32.lt_irrefl, Int32.le_refl, b3, n1, q1']) only [nI_add, pk_mul, pk_sub, pk_div, znmod, nI_clamp, nIleT, nIleF, nIltT, nIltF, nIeqT, nIeqF, nIm1, nIm1q, zupE, zupN, vpT, nI_01, nI_11, ↓reduceIte, Option.bind_some, Option.toList_some, Option.toList_none, List.cons_append, List.nil_append, Nat.reduceAdd, Nat.reduceMul, Nat.reduceSub, Nat.reduceDiv, Nat.reduceMod, and_true, true_and, and_false, false_and, not_true_eq_false, not_false_eq_true, or_true, true_or, or_false, false_or, Int32.lt_irrefl, Int32.le_refl, b3, n1, q1', b69_0, b69_14, b69_15, b69_20, b69_29, b69_41, b69_45, b69_49, b69_56, b69_72, b69_73, b68_0]
    · exact yComp G S l ho hk pk e29 hl hr e27 hw ht c273 c40
end TR
