/-! text: what waits in the reference's reading of a condition -/
section TP
variable {L : Nat} {T t P H : Nat} {B : Nat → Nat} {h0c h0m : zH}
/-- what waits, the top first -/
def yPk (hm : zH) : List Nat → Prop
  | [] => True
  | x :: r => hm 12 0 29 r.length = nI x ∧ yPk hm r
theorem yPk_c {hm hm' : zH} : ∀ l : List Nat, (∀ j, j < l.length → hm' 12 0 29 j = hm 12 0 29 j) → yPk hm l → yPk hm' l
  | [], _, _ => trivial
  | x :: r, h, q => ⟨by rw [h _ (by simp only [List.length_cons]; omega)]; exact q.1, yPk_c r (fun j hj => h j (by simp only [List.length_cons]; omega)) q.2⟩
/-- how many of them are operators -/
def yNo : List Nat → Nat
  | [] => 0
  | x :: r => yNo r + if x = 12 then 0 else 1
theorem yNo_r {k x : Nat} (hx : x ≠ 12) {r : List Nat} : yNo (List.replicate k x ++ r) = yNo r + k := by
  induction k with
  | zero => rfl
  | succ k ih =>
    rw [List.replicate_succ, List.cons_append, yNo, ih, if_neg hx]
    omega
theorem mWait {d x len : Nat} {hm : zH} (e : hm 12 0 0 29 = nI len) (hl : len < 40) : zev L d 195 0 [some (.inr (.inl (12, 0, 0))), some (.inl (nI x))] [] hm = some (none, zup (zup hm 12 0 29 len (nI x)) 12 0 0 29 (nI (len + 1))) := by
  simp (disch := first | omega | simp (disch := omega) only [nI_add, pk_mul, pk_sub, pk_div, znmod, nI_clamp, nIleT, nIleF, nIltT, nIltF, nIeqT, nIeqF, nIm1, nIm1q, zupE, zupN, vpT, nI_01, nI_11, ↓reduceIte, Option.bind_some, Option.toList_some, Option.toList_none, List.cons_append, List.nil_append, Nat.reduceAdd, Nat.reduceMul, Nat.reduceSub, Nat.reduceDiv, Nat.reduceMod, and_true, true_and, and_false, false_and, not_true_eq_false, not_false_eq_true, or_true, true_or, or_false, false_or, Int32.lt_irrefl, Int32.le_refl, e]) only [nI_add, pk_mul, pk_sub, pk_div, znmod, nI_clamp, nIleT, nIleF, nIltT, nIltF, nIeqT, nIeqF, nIm1, nIm1q, zupE, zupN, vpT, nI_01, nI_11, ↓reduceIte, Option.bind_some, Option.toList_some, Option.toList_none, List.cons_append, List.nil_append, Nat.reduceAdd, Nat.reduceMul, Nat.reduceSub, Nat.reduceDiv, Nat.reduceMod, and_true, true_and, and_false, false_and, not_true_eq_false, not_false_eq_true, or_true, true_or, or_false, false_or, Int32.lt_irrefl, Int32.le_refl, e, b195_0, b195_10, b195_20]
theorem yYS_w {i x len : Nat} {v : Int32} {hc hm : zH} (S : yYS T t B P H h0c h0m i hc hm) : yYS T t B P H h0c h0m i hc (zup (zup hm 12 0 29 len (nI x)) 12 0 0 29 v) :=
  yYS_m (yYS_m S (Or.inr (Or.inr (Or.inr (Or.inr (Or.inr rfl)))))) (Or.inl (by omega))
/-- what is settled -/
theorem mSet {x o : Nat} (hx : x < 12) : ∀ (k : Nat) (r : List Nat) (mc : Nat) (hm : zH), yPk hm (List.replicate k x ++ r) → hm 12 0 0 29 = nI (k + r.length) → k + r.length ≤ 40 → (∀ y l, r = y :: l → y ≠ x ∧ y < 13) → hm 12 0 0 26 = nI mc → mc + k ≤ 400 → hm 12 0 0 27 = nI o → (x = 9 → k ≤ o) → o ≤ 100 →
    ∃ hm', (∀ d, zev L (d + 1) 196 0 [some (.inr (.inl (12, 0, 0))), some (.inl (nI x))] [] hm = some (none, hm')) ∧ hm' 12 0 0 26 = nI (mc + k) ∧ (∀ j, j < k → yRw hm' 23 (800 + (mc + j)) = nI x) ∧ (∀ j, j < mc → yRw hm' 23 (800 + j) = yRw hm 23 (800 + j) ∧ yRw hm' 24 (800 + j) = yRw hm 24 (800 + j)) ∧ (∀ s j, s ≠ 23 → s ≠ 24 → yRw hm' s j = yRw hm s j) ∧ hm' 12 0 0 29 = nI r.length ∧ hm' 12 0 0 27 = nI (if x = 9 then o - k else o) ∧ ∀ i hc, yYS T t B P H h0c h0m i hc hm → yYS T t B P H h0c h0m i hc hm'
  | 0, r, mc, hm, p, e29, hl, hr, e26, hmc, e27, hk, ho => by
    refine ⟨hm, fun d => ?_, e26, fun j hj => absurd hj (by omega), fun _ _ => ⟨rfl, rfl⟩, fun _ _ _ _ => rfl, by rw [e29, Nat.zero_add], by rw [e27]; split <;> rfl, fun _ _ h => h⟩
    rw [Nat.zero_add] at e29
    cases r with
    | nil =>
      rw [show ([] : List Nat).length = 0 from rfl] at e29
      refine b196_0.trans ?_
      simp (disch := first | omega | simp (disch := omega) only [nI_add, pk_mul, pk_sub, pk_div, znmod, nI_clamp, nIleT, nIleF, nIltT, nIltF, nIeqT, nIeqF, nIm1, nIm1q, zupE, zupN, vpT, nI_01, nI_11, ↓reduceIte, Option.bind_some, Option.toList_some, Option.toList_none, List.cons_append, List.nil_append, Nat.reduceAdd, Nat.reduceMul, Nat.reduceSub, Nat.reduceDiv, Nat.reduceMod, and_true, true_and, and_false, false_and, not_true_eq_false, not_false_eq_true, or_true, true_or, or_false, false_or, Int32.lt_irrefl, Int32.le_refl, e29]) only [nI_add, pk_mul, pk_sub, pk_div, znmod, nI_clamp, nIleT, nIleF, nIltT, nIltF, nIeqT, nIeqF, nIm1, nIm1q, zupE, zupN, vpT, nI_01, nI_11, ↓reduceIte, Option.bind_some, Option.toList_some, Option.toList_none, List.cons_append, List.nil_append, Nat.reduceAdd, Nat.reduceMul, Nat.reduceSub, Nat.reduceDiv, Nat.reduceMod, and_true, true_and, and_false, false_and, not_true_eq_false, not_false_eq_true, or_true, true_or, or_false, false_or, Int32.lt_irrefl, Int32.le_refl, e29, b196_57]
    | cons y l =>
      obtain ⟨q1, q2⟩ := hr y l rfl
      have p1 : hm 12 0 29 l.length = nI y := p.1
      rw [List.length_cons] at e29 hl
      refine b196_0.trans ?_
      simp (disch := first | omega | simp (disch := omega) only [nI_add, pk_mul, pk_sub, pk_div, znmod, nI_clamp, nIleT, nIleF, nIltT, nIltF, nIeqT, nIeqF, nIm1, nIm1q, zupE, zupN, vpT, nI_01, nI_11, ↓reduceIte, Option.bind_some, Option.toList_some, Option.toList_none, List.cons_append, List.nil_append, Nat.reduceAdd, Nat.reduceMul, Nat.reduceSub, Nat.reduceDiv, Nat.reduceMod, and_true, true_and, and_false, false_and, not_true_eq_false, not_false_eq_true, or_true, true_or, or_false, false_or, Int32.lt_irrefl, Int32.le_refl, e29, Nat.add_sub_cancel, p1]) only [nI_add, pk_mul, pk_sub, pk_div, znmod, nI_clamp, nIleT, nIleF, nIltT, nIltF, nIeqT, nIeqF, nIm1, nIm1q, zupE, zupN, vpT, nI_01, nI_11, ↓reduceIte, Option.bind_some, Option.toList_some, Option.toList_none, List.cons_append, List.nil_append, Nat.reduceAdd, Nat.reduceMul, Nat.reduceSub, Nat.reduceDiv, Nat.reduceMod, and_true, true_and, and_false, false_and, not_true_eq_false, not_false_eq_true, or_true, true_or, or_false, false_or, Int32.lt_irrefl, Int32.le_refl, e29, Nat.add_sub_cancel, p1, b196_7, b196_57]
  | k + 1, r, mc, hm, p, e29, hl, hr, e26, hmc, e27, hk, ho => by
    rw [List.replicate_succ, List.cons_append] at p
    have p1 : hm 12 0 29 (List.replicate k x ++ r).length = nI x := p.1
    have ll : (List.replicate k x ++ r).length = k + r.length := by rw [List.length_append, List.length_replicate]
    rw [ll] at p1
    rw [show k + 1 + r.length = k + r.length + 1 by omega] at e29
    -- one is taken off
    by_cases c9 : x = 9
    · have hk := hk c9
      subst c9
      obtain ⟨hm', i1, i2, i3, i4, i5, i6, i7, i8⟩ := mSet (o := o - 1) hx k r (mc + 1) (zup (yam mc (nI 9) (nI 0) (zup hm 12 0 0 29 (nI (k + r.length)))) 12 0 0 27 (nI (o - 1)))
        (yPk_c _ (fun j hj => by unfold yam; rw [zupN (by omega), zupN (by omega), zupN (by omega), zupN (by omega), zupN (by omega)]) p.2)
        (by unfold yam; rw [zupN (by omega), zupN (by omega), zupN (by omega), zupN (by omega), zupE (by omega)]) (by omega) hr (by rw [zupN (by omega)]; exact yam_26) (by omega) (by rw [zupE (by omega)]) (fun _ => by omega) (by omega)
      have me := fun d => mEmit (L := L) (d := d) (hm := zup hm 12 0 0 29 (nI (k + r.length))) (o := nI 9) (a := nI 0) (mc := mc) (by rw [zupN (by omega)]; exact e26) (by omega)
      have e27' : (yam mc (nI 9) (nI 0) (zup hm 12 0 0 29 (nI (k + r.length)))) 12 0 0 27 = nI o := by unfold yam; rw [zupN (by omega), zupN (by omega), zupN (by omega), zupN (by omega)]; exact e27
      have ro : ∀ s j, yRw (zup (yam mc (nI 9) (nI 0) (zup hm 12 0 0 29 (nI (k + r.length)))) 12 0 0 27 (nI (o - 1))) s j = yRw (yam mc (nI 9) (nI 0) (zup hm 12 0 0 29 (nI (k + r.length)))) s j := fun s j => by unfold yRw; rw [zupN (by omega)]
      have rz : ∀ s j, yRw (zup hm 12 0 0 29 (nI (k + r.length))) s j = yRw hm s j := fun s j => by unfold yRw; rw [zupN (by omega)]
      refine ⟨hm', fun d => ?_, by rw [i2]; congr 1; omega, fun j hj => ?_, fun j hj => ?_, fun s j h1 h2 => ?_, i6, ?_, fun i hc S => i8 i hc (yYS_m (yYS_e (yYS_m S (Or.inl (by omega)))) (Or.inl (by omega)))⟩
      · refine Eq.trans (b196_0.trans ?_) (i1 d)
        simp (disch := first | omega | simp (disch := omega) only [nI_add, pk_mul, pk_sub, pk_div, znmod, nI_clamp, nIleT, nIleF, nIltT, nIltF, nIeqT, nIeqF, nIm1, nIm1q, zupE, zupN, vpT, nI_01, nI_11, ↓reduceIte, Option.bind_some, Option.toList_some, Option.toList_none, List.cons_append, List.nil_append, Nat.reduceAdd, Nat.reduceMul, Nat.reduceSub, Nat.reduceDiv, Nat.reduceMod, and_true, true_and, and_false, false_and, not_true_eq_false, not_false_eq_true, or_true, true_or, or_false, false_or, Int32.lt_irrefl, Int32.le_refl, e29, Nat.add_sub_cancel, p1, me, e27']) only [nI_add, pk_mul, pk_sub, pk_div, znmod, nI_clamp, nIleT, nIleF, nIltT, nIltF, nIeqT, nIeqF, nIm1, nIm1q, zupE, zupN, vpT, nI_01, nI_11, ↓reduceIte, Option.bind_some, Option.toList_some, Option.toList_none, List.cons_append, List.nil_append, Nat.reduceAdd, Nat.reduceMul, Nat.reduceSub, Nat.reduceDiv, Nat.reduceMod, and_true, true_and, and_false, false_and, not_true_eq_false, not_false_eq_true, or_true, true_or, or_false, false_or, Int32.lt_irrefl, Int32.le_refl, e29, Nat.add_sub_cancel, p1, me, e27', b196_7, b196_22, b196_32, b196_38, b196_44, b196_54]
      · cases j with
        | zero =>
          rw [Nat.add_zero, (i4 mc (by omega)).1, ro, yam_23, if_pos rfl]
        | succ j =>
          have := i3 j (by omega)
          rw [show mc + 1 + j = mc + (j + 1) by omega] at this
          exact this
      · rw [(i4 j (by omega)).1, (i4 j (by omega)).2, ro, ro, yam_23, yam_24, if_neg (by omega), if_neg (by omega), rz, rz]
        exact ⟨rfl, rfl⟩
      · rw [i5 s j h1 h2, ro, yam_o h1 h2, rz]
      · rw [i7, if_pos rfl, if_pos rfl]
        congr 1
        omega
    · obtain ⟨hm', i1, i2, i3, i4, i5, i6, i7, i8⟩ := mSet (o := o) hx k r (mc + 1) (yam mc (nI x) (nI 0) (zup hm 12 0 0 29 (nI (k + r.length))))
        (yPk_c _ (fun j hj => by unfold yam; rw [zupN (by omega), zupN (by omega), zupN (by omega), zupN (by omega)]) p.2)
        (by unfold yam; rw [zupN (by omega), zupN (by omega), zupN (by omega), zupE (by omega)]) (by omega) hr yam_26 (by omega) (by unfold yam; rw [zupN (by omega), zupN (by omega), zupN (by omega), zupN (by omega)]; exact e27) (fun q => absurd q c9) ho
      have me := fun d => mEmit (L := L) (d := d) (hm := zup hm 12 0 0 29 (nI (k + r.length))) (o := nI x) (a := nI 0) (mc := mc) (by rw [zupN (by omega)]; exact e26) (by omega)
      have rz : ∀ s j, yRw (zup hm 12 0 0 29 (nI (k + r.length))) s j = yRw hm s j := fun s j => by unfold yRw; rw [zupN (by omega)]
      refine ⟨hm', fun d => ?_, by rw [i2]; congr 1; omega, fun j hj => ?_, fun j hj => ?_, fun s j h1 h2 => ?_, i6, ?_, fun i hc S => i8 i hc (yYS_e (yYS_m S (Or.inl (by omega))))⟩
      · refine Eq.trans (b196_0.trans ?_) (i1 d)
        simp (disch := first | omega | simp (disch := omega) only [nI_add, pk_mul, pk_sub, pk_div, znmod, nI_clamp, nIleT, nIleF, nIltT, nIltF, nIeqT, nIeqF, nIm1, nIm1q, zupE, zupN, vpT, nI_01, nI_11, ↓reduceIte, Option.bind_some, Option.toList_some, Option.toList_none, List.cons_append, List.nil_append, Nat.reduceAdd, Nat.reduceMul, Nat.reduceSub, Nat.reduceDiv, Nat.reduceMod, and_true, true_and, and_false, false_and, not_true_eq_false, not_false_eq_true, or_true, true_or, or_false, false_or, Int32.lt_irrefl, Int32.le_refl, e29, Nat.add_sub_cancel, p1, me]) only [nI_add, pk_mul, pk_sub, pk_div, znmod, nI_clamp, nIleT, nIleF, nIltT, nIltF, nIeqT, nIeqF, nIm1, nIm1q, zupE, zupN, vpT, nI_01, nI_11, ↓reduceIte, Option.bind_some, Option.toList_some, Option.toList_none, List.cons_append, List.nil_append, Nat.reduceAdd, Nat.reduceMul, Nat.reduceSub, Nat.reduceDiv, Nat.reduceMod, and_true, true_and, and_false, false_and, not_true_eq_false, not_false_eq_true, or_true, true_or, or_false, false_or, Int32.lt_irrefl, Int32.le_refl, e29, Nat.add_sub_cancel, p1, me, b196_7, b196_22, b196_32, b196_38]
      · cases j with
        | zero =>
          rw [Nat.add_zero, (i4 mc (by omega)).1, yam_23, if_pos rfl]
        | succ j =>
          have := i3 j (by omega)
          rw [show mc + 1 + j = mc + (j + 1) by omega] at this
          exact this
      · rw [(i4 j (by omega)).1, (i4 j (by omega)).2, yam_23, yam_24, if_neg (by omega), if_neg (by omega), rz, rz]
        exact ⟨rfl, rfl⟩
      · rw [i5 s j h1 h2, yam_o h1 h2, rz]
      · rw [i7, if_neg c9, if_neg c9]
/-- a step after a fault -/
theorem kAddF {x : Int32} {hc hm : zH} (F : yYF h0c h0m hc hm) : ∃ hc', (∀ d, zev L d 21 0 [some (.inr (.inl (2, 8, 0))), some (.inl x)] [] hc = some (none, hc')) ∧ yYF h0c h0m hc' hm := by
  have F' := F
  obtain ⟨a1, a2, a3, a4, sc, a5, a6⟩ := F
  by_cases c : sc < 400
  · refine ⟨yac sc x hc, fun d => kAdds a6 c, ?_⟩
    unfold yac
    exact ⟨yFC_u (yFC_u a1 (Or.inr (Or.inl ⟨rfl, rfl⟩))) (Or.inr (Or.inl ⟨rfl, rfl⟩)), a2, by rw [zupN (by omega), zupN (by omega)]; exact a3, by rw [zupN (by omega), zupN (by omega)]; exact a4, sc + 1, by omega, by rw [zupE (by omega)]⟩
  · have ez : zaln L 2 8 2 = 400 := rfl
    have : sc = 400 := by omega
    subst this
    refine ⟨hc, fun d => ?_, F'⟩
    simp (disch := first | omega | simp (disch := omega) only [nI_add, pk_mul, pk_sub, pk_div, znmod, nI_clamp, nIleT, nIleF, nIltT, nIltF, nIeqT, nIeqF, nIm1, nIm1q, zupE, zupN, vpT, nI_01, nI_11, ↓reduceIte, Option.bind_some, Option.toList_some, Option.toList_none, List.cons_append, List.nil_append, Nat.reduceAdd, Nat.reduceMul, Nat.reduceSub, Nat.reduceDiv, Nat.reduceMod, and_true, true_and, and_false, false_and, not_true_eq_false, not_false_eq_true, or_true, true_or, or_false, false_or, Int32.lt_irrefl, Int32.le_refl, ez, a6]) only [nI_add, pk_mul, pk_sub, pk_div, znmod, nI_clamp, nIleT, nIleF, nIltT, nIltF, nIeqT, nIeqF, nIm1, nIm1q, zupE, zupN, vpT, nI_01, nI_11, ↓reduceIte, Option.bind_some, Option.toList_some, Option.toList_none, List.cons_append, List.nil_append, Nat.reduceAdd, Nat.reduceMul, Nat.reduceSub, Nat.reduceDiv, Nat.reduceMod, and_true, true_and, and_false, false_and, not_true_eq_false, not_false_eq_true, or_true, true_or, or_false, false_or, Int32.lt_irrefl, Int32.le_refl, ez, a6, b21_0, b21_12, b21_22, b21_32]
/-- one step of the class's for a code that stands -/
theorem yEx_v {x : Int32} {ts ts' : List Bool} {sc mc : Nat} {hc hm hm' : zH} (r1 : ∀ j, j < mc → yRw hm' 23 (800 + j) = yRw hm 23 (800 + j) ∧ yRw hm' 24 (800 + j) = yRw hm 24 (800 + j)) (r2 : ∀ s j, 19 ≤ s → s ≤ 22 → yRw hm' s j = yRw hm s j) (sg : sgR x (fun j => yRw hm' 23 (800 + j)) (fun j => yRw hm' 24 (800 + j)) mc ts (mc + 1) ts') : yEx ts ts' sc mc (sc + 1) (mc + 1) (hc 2 8) (yRw hm) ((yac sc x hc) 2 8) (yRw hm') :=
  yEx_g (fun j hj => by rw [yac_2, if_neg (by omega)]) (by rw [yac_2, if_pos rfl]) r1 (fun s j h1 h2 => yac_o h1 h2) r2 (by omega) sg
/-- more codes behind change nothing -/
theorem yEx_k {ts ts' : List Bool} {sc mc sc' mc' : Nat} {C M C' M' M2 : Nat → Nat → Int32} (h : yEx ts ts' sc mc sc' mc' C M C' M') (r1 : ∀ j, j < mc' → M2 23 (800 + j) = M' 23 (800 + j) ∧ M2 24 (800 + j) = M' 24 (800 + j)) (r2 : ∀ s j, 19 ≤ s → s ≤ 22 → M2 s j = M' s j) : yEx ts ts' sc mc sc' mc' C M C' M2 := by
  obtain ⟨a1, a2, a3, a4, a5, a6, a7⟩ := h
  refine ⟨a1, a2, a3, fun j hj => ?_, a5, fun s j q1 q2 => (r2 s j q1 q2).trans (a6 s j q1 q2), ?_⟩
  · obtain ⟨x1, x2⟩ := r1 j (by omega)
    obtain ⟨y1, y2⟩ := a4 j hj
    exact ⟨x1.trans y1, x2.trans y2⟩
  · exact Seg_c (M := sc') (K := mc') (fun _ _ => rfl) (fun j hj => (r1 j hj).1) (fun j hj => (r1 j hj).2) (Nat.le_refl mc') (sc' - sc) sc mc ts a7 (by omega)
end TP
