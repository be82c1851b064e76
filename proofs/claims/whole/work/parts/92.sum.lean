/-! text: a sum of the law's -/
section TS
variable {L : Nat} {T t P H : Nat} {B : Nat → Nat} {h0c h0m hc hm : zH} {ts ts' ts2 : List Bool} {sc mc sc' mc' sc2 mc2 : Nat} {C C' C2 M M' M2 : Nat → Nat → Int32}
/-- the reference's rows -/
def yRw (hm : zH) : Nat → Nat → Int32 := fun s j => hm 12 0 (s + 1) j
/-- more of the law was read: the class's steps, the reference's codes -/
def yEx (ts ts' : List Bool) (sc mc sc' mc' : Nat) (C M C' M' : Nat → Nat → Int32) : Prop :=
  sc ≤ sc' ∧ mc ≤ mc' ∧ (∀ j, j < sc → C' 2 j = C 2 j) ∧ (∀ j, j < mc → M' 23 (800 + j) = M 23 (800 + j) ∧ M' 24 (800 + j) = M 24 (800 + j)) ∧
  (∀ s j, s ≠ 2 → ¬ (s = 0 ∧ j = 3) → C' s j = C s j) ∧ (∀ s j, 19 ≤ s → s ≤ 22 → M' s j = M s j) ∧ Seg (C' 2) (fun j => M' 23 (800 + j)) (fun j => M' 24 (800 + j)) (sc' - sc) sc mc ts mc' ts'
theorem Seg_ap {S O A : Nat → Int32} {j' k : Nat} : ∀ {n m i i' : Nat} {ts ts' ts2 : List Bool}, Seg S O A n i i' ts j' ts' → Seg S O A m (i + n) j' ts' k ts2 → Seg S O A (n + m) i i' ts k ts2
  | 0, m, i, i', ts, ts', ts2, h1, h2 => by
    obtain ⟨e1, e2⟩ := h1
    subst e1; subst e2
    rw [Nat.zero_add]; exact h2
  | n + 1, m, i, i', ts, ts', ts2, h1, h2 => by
    obtain ⟨i1, ts1, q1, q2⟩ := h1
    rw [show n + 1 + m = (n + m) + 1 by omega]
    exact ⟨i1, ts1, q1, Seg_ap q2 (by rw [show i + 1 + n = i + (n + 1) by omega]; exact h2)⟩
theorem yEx_r : yEx ts ts sc mc sc mc C M C M := ⟨Nat.le_refl _, Nat.le_refl _, fun _ _ => rfl, fun _ _ => ⟨rfl, rfl⟩, fun _ _ _ _ => rfl, fun _ _ _ _ => rfl, by rw [Nat.sub_self]; exact ⟨rfl, rfl⟩⟩
theorem yEx_t (h1 : yEx ts ts' sc mc sc' mc' C M C' M') (h2 : yEx ts' ts2 sc' mc' sc2 mc2 C' M' C2 M2) : yEx ts ts2 sc mc sc2 mc2 C M C2 M2 := by
  obtain ⟨a1, a2, a3, a4, a5, a6, a7⟩ := h1
  obtain ⟨b1, b2, b3, b4, b5, b6, b7⟩ := h2
  refine ⟨by omega, by omega, fun j hj => (b3 j (by omega)).trans (a3 j hj), fun j hj => ?_, fun s j q1 q2 => (b5 s j q1 q2).trans (a5 s j q1 q2), fun s j q1 q2 => (b6 s j q1 q2).trans (a6 s j q1 q2), ?_⟩
  · obtain ⟨x1, x2⟩ := b4 j (by omega)
    obtain ⟨y1, y2⟩ := a4 j hj
    exact ⟨x1.trans y1, x2.trans y2⟩
  · have s1 := Seg_c (M := sc') (K := mc') b3 (fun j hj => (b4 j hj).1) (fun j hj => (b4 j hj).2) (Nat.le_refl mc') (sc' - sc) sc mc ts a7 (by omega)
    rw [show sc2 - sc = (sc' - sc) + (sc2 - sc') by omega]
    exact Seg_ap s1 (by rw [show sc + (sc' - sc) = sc' by omega]; exact b7)
/-- one step more -/
theorem yEx_g {x : Int32} (e1 : ∀ j, j < sc → C' 2 j = C 2 j) (e2 : C' 2 sc = x) (e3 : ∀ j, j < mc → M' 23 (800 + j) = M 23 (800 + j) ∧ M' 24 (800 + j) = M 24 (800 + j)) (e4 : ∀ s j, s ≠ 2 → ¬ (s = 0 ∧ j = 3) → C' s j = C s j) (e5 : ∀ s j, 19 ≤ s → s ≤ 22 → M' s j = M s j) (hl : mc ≤ mc')
    (sg : sgR x (fun j => M' 23 (800 + j)) (fun j => M' 24 (800 + j)) mc ts mc' ts') : yEx ts ts' sc mc (sc + 1) mc' C M C' M' := by
  refine ⟨by omega, hl, e1, e3, e4, e5, ?_⟩
  rw [show sc + 1 - sc = 0 + 1 by omega]
  exact ⟨mc', ts', by rw [e2]; exact sg, rfl, rfl⟩
theorem yNx_8 {i : Nat} : (yNx T B i hc) 2 8 = hc 2 8 := funext fun s => funext fun j => yNx_k (by omega)
theorem yRw_F {hm' : zH} (f : yyF hm hm') : yRw hm' = yRw hm := funext fun s => funext fun j => f 12 0 (s + 1) j (by omega)
/-- a step written, a code written -/
def yac (sc : Nat) (x : Int32) (hc : zH) : zH := zup (zup hc 2 8 2 sc x) 2 8 0 3 (nI (sc + 1))
def yam (mc : Nat) (o a : Int32) (hm : zH) : zH := zup (zup (zup hm 12 0 24 (800 + mc) o) 12 0 25 (800 + mc) a) 12 0 0 26 (nI (mc + 1))
theorem kAdds {d : Nat} {x : Int32} (e : hc 2 8 0 3 = nI sc) (hs : sc < 400) : zev L d 21 0 [some (.inr (.inl (2, 8, 0))), some (.inl x)] [] hc = some (none, yac sc x hc) := by
  have ez : zaln L 2 8 2 = 400 := rfl
  unfold yac
  simp (disch := first | omega | simp (disch := omega) only [nI_add, pk_mul, pk_sub, pk_div, znmod, nI_clamp, nIleT, nIleF, nIltT, nIltF, nIeqT, nIeqF, nIm1, nIm1q, zupE, zupN, vpT, nI_01, nI_11, ↓reduceIte, Option.bind_some, Option.toList_some, Option.toList_none, List.cons_append, List.nil_append, Nat.reduceAdd, Nat.reduceMul, Nat.reduceSub, Nat.reduceDiv, Nat.reduceMod, and_true, true_and, and_false, false_and, not_true_eq_false, not_false_eq_true, or_true, true_or, or_false, false_or, Int32.lt_irrefl, Int32.le_refl, ez, e]) only [nI_add, pk_mul, pk_sub, pk_div, znmod, nI_clamp, nIleT, nIleF, nIltT, nIltF, nIeqT, nIeqF, nIm1, nIm1q, zupE, zupN, vpT, nI_01, nI_11, ↓reduceIte, Option.bind_some, Option.toList_some, Option.toList_none, List.cons_append, List.nil_append, Nat.reduceAdd, Nat.reduceMul, Nat.reduceSub, Nat.reduceDiv, Nat.reduceMod, and_true, true_and, and_false, false_and, not_true_eq_false, not_false_eq_true, or_true, true_or, or_false, false_or, Int32.lt_irrefl, Int32.le_refl, ez, e, b21_0, b21_12, b21_22, b21_32]
theorem mEmit {d : Nat} {o a : Int32} (e : hm 12 0 0 26 = nI mc) (hs : mc < 400) : zev L d 189 0 [some (.inr (.inl (12, 0, 0))), some (.inl o), some (.inl a)] [] hm = some (none, yam mc o a hm) := by
  unfold yam
  simp (disch := first | omega | simp (disch := omega) only [nI_add, pk_mul, pk_sub, pk_div, znmod, nI_clamp, nIleT, nIleF, nIltT, nIltF, nIeqT, nIeqF, nIm1, nIm1q, zupE, zupN, vpT, nI_01, nI_11, ↓reduceIte, Option.bind_some, Option.toList_some, Option.toList_none, List.cons_append, List.nil_append, Nat.reduceAdd, Nat.reduceMul, Nat.reduceSub, Nat.reduceDiv, Nat.reduceMod, and_true, true_and, and_false, false_and, not_true_eq_false, not_false_eq_true, or_true, true_or, or_false, false_or, Int32.lt_irrefl, Int32.le_refl, e]) only [nI_add, pk_mul, pk_sub, pk_div, znmod, nI_clamp, nIleT, nIleF, nIltT, nIltF, nIeqT, nIeqF, nIm1, nIm1q, zupE, zupN, vpT, nI_01, nI_11, ↓reduceIte, Option.bind_some, Option.toList_some, Option.toList_none, List.cons_append, List.nil_append, Nat.reduceAdd, Nat.reduceMul, Nat.reduceSub, Nat.reduceDiv, Nat.reduceMod, and_true, true_and, and_false, false_and, not_true_eq_false, not_false_eq_true, or_true, true_or, or_false, false_or, Int32.lt_irrefl, Int32.le_refl, e, b189_0, b189_14, b189_28, b189_38]
theorem yac_2 {x : Int32} {j : Nat} : (yac sc x hc) 2 8 2 j = if j = sc then x else hc 2 8 2 j := by
  unfold yac
  by_cases c : j = sc
  · rw [if_pos c, zupN (by omega), zupE (by omega)]
  · rw [if_neg c, zupN (by omega), zupN (by omega)]
theorem yac_o {x : Int32} {s j : Nat} (h1 : s ≠ 2) (h2 : ¬ (s = 0 ∧ j = 3)) : (yac sc x hc) 2 8 s j = hc 2 8 s j := by
  unfold yac; rw [zupN (by omega), zupN (by omega)]
theorem yac_3 {x : Int32} : (yac sc x hc) 2 8 0 3 = nI (sc + 1) := by unfold yac; rw [zupE (by omega)]
theorem yam_23 {o a : Int32} {j : Nat} : yRw (yam mc o a hm) 23 (800 + j) = if j = mc then o else yRw hm 23 (800 + j) := by
  unfold yRw yam
  by_cases c : j = mc
  · rw [if_pos c, zupN (by omega), zupN (by omega), zupE (by omega)]
  · rw [if_neg c, zupN (by omega), zupN (by omega), zupN (by omega)]
theorem yam_24 {o a : Int32} {j : Nat} : yRw (yam mc o a hm) 24 (800 + j) = if j = mc then a else yRw hm 24 (800 + j) := by
  unfold yRw yam
  by_cases c : j = mc
  · rw [if_pos c, zupN (by omega), zupE (by omega)]
  · rw [if_neg c, zupN (by omega), zupN (by omega), zupN (by omega)]
theorem yam_o {o a : Int32} {s j : Nat} (h : s ≠ 23) (h2 : s ≠ 24) : yRw (yam mc o a hm) s j = yRw hm s j := by
  unfold yRw yam; rw [zupN (by omega), zupN (by omega), zupN (by omega)]
theorem yam_26 {o a : Int32} : (yam mc o a hm) 12 0 0 26 = nI (mc + 1) := by unfold yam; rw [zupE (by omega)]
/-- both write one -/
theorem yEx_1 {x o a : Int32} (sg : ∀ O A : Nat → Int32, O mc = o → A mc = a → sgR x O A mc ts (mc + 1) ts') : yEx ts ts' sc mc (sc + 1) (mc + 1) (hc 2 8) (yRw hm) ((yac sc x hc) 2 8) (yRw (yam mc o a hm)) := by
  refine yEx_g (fun j hj => by rw [yac_2, if_neg (by omega)]) (by rw [yac_2, if_pos rfl]) (fun j hj => ⟨by rw [yam_23, if_neg (by omega)], by rw [yam_24, if_neg (by omega)]⟩) (fun s j h1 h2 => yac_o h1 h2) (fun s j h1 h2 => yam_o (by omega) (by omega)) (by omega) (sg _ _ ?_ ?_)
  · show yRw _ 23 (800 + mc) = o
    rw [yam_23, if_pos rfl]
  · show yRw _ 24 (800 + mc) = a
    rw [yam_24, if_pos rfl]
theorem yYS_a {i : Nat} {x : Int32} (S : yYS T t B P H h0c h0m i hc hm) (h : sc < 400) : yYS T t B P H h0c h0m i (yac sc x hc) hm := by
  unfold yac
  exact yYS_3 (yYS_c S (by omega)) (by omega)
theorem yYS_e {i : Nat} {o a : Int32} (S : yYS T t B P H h0c h0m i hc hm) : yYS T t B P H h0c h0m i hc (yam mc o a hm) := by
  unfold yam
  exact yYS_m (yYS_m (yYS_m S (Or.inr (Or.inr (Or.inl (by omega))))) (Or.inr (Or.inr (Or.inl (by omega))))) (Or.inl (by omega))
/-- what waits, and what is open, is as it was -/
def yPf (hm hm' : zH) : Prop := (∀ j, hm' 12 0 29 j = hm 12 0 29 j) ∧ hm' 12 0 0 27 = hm 12 0 0 27 ∧ hm' 12 0 0 29 = hm 12 0 0 29
theorem yPf_r : yPf hm hm := ⟨fun _ => rfl, rfl, rfl⟩
theorem yPf_t {a b c : zH} (h1 : yPf a b) (h2 : yPf b c) : yPf a c := ⟨fun j => (h2.1 j).trans (h1.1 j), h2.2.1.trans h1.2.1, h2.2.2.trans h1.2.2⟩
theorem yPf_F {hm' : zH} (f : yyF hm hm') : yPf hm hm' := ⟨fun j => f 12 0 29 j (by omega), f 12 0 0 27 (by omega), f 12 0 0 29 (by omega)⟩
theorem yPf_e {o a : Int32} : yPf hm (yam mc o a hm) := by
  unfold yam
  exact ⟨fun j => by rw [zupN (by omega), zupN (by omega), zupN (by omega)], by rw [zupN (by omega), zupN (by omega), zupN (by omega)], by rw [zupN (by omega), zupN (by omega), zupN (by omega)]⟩
/-- where both stand, with so many steps and codes -/
def yLS (sc mc : Nat) (hc hm : zH) : Prop := hc 2 8 0 3 = nI sc ∧ hm 12 0 0 26 = nI mc ∧ sc ≤ mc
theorem yUnit {i : Nat} (G : yGl T t B P H h0m) (S : yYS T t B P H h0c h0m i hc hm) (l : yLS sc mc hc hm) (hw : mc ≤ i) (ht : ts.length < 40) :
    (∃ hc' hm', (∀ d, zev L (d + 2) 71 0 [some (.inr (.inl (6, 0, 0)))] [] hc = some (some (.inl (nI 1)), hc')) ∧ (∀ d, zev L (d + 3) 191 0 [some (.inr (.inl (12, 0, 0))), none] [] hm = some (some (.inl (nI 0)), hm')) ∧ yYS T t B P H h0c h0m (i + 1) hc' hm' ∧ yLS (sc + 1) (mc + 1) hc' hm' ∧ yEx ts (false :: ts) sc mc (sc + 1) (mc + 1) (hc 2 8) (yRw hm) (hc' 2 8) (yRw hm') ∧ yPf hm hm') ∨
    (∃ hc' hm', (∀ d, zev L (d + 2) 71 0 [some (.inr (.inl (6, 0, 0)))] [] hc = some (some (.inl (nI 0)), hc')) ∧ (∀ d, zev L (d + 3) 191 0 [some (.inr (.inl (12, 0, 0))), none] [] hm = some (some (.inl (-1)), hm')) ∧ yYF h0c h0m hc' hm') := by
  obtain ⟨l1, l2, l3⟩ := l
  have a3 := S.2.2.1
  have ai := S.1
  have bK := yYS_b S
  obtain ⟨g1, g2, g3, g4, _⟩ := G
  have G : yGl T t B P H h0m := ⟨g1, g2, g3, g4, by assumption⟩
  have tk := S
  obtain ⟨_, _, _, _, _, _, _, _, _, ⟨_, _, c3⟩, _⟩ := tk
  have it : yykd T B i ≠ 0 → i < 400 := fun h => by
    have : i ≠ t := fun q => by rw [q] at h; exact h g3
    omega
  -- what both do where a unit stands
  have go : ∀ (x o a : Int32), yykd T B i ≠ 0 → (∀ O A : Nat → Int32, O mc = o → A mc = a → sgR x O A mc ts (mc + 1) (false :: ts)) →
      ∃ hm', (∀ d, zev L d 59 0 [some (.inr (.inl (6, 0, 0)))] [] (yac sc x hc) = some (none, yNx T B i (yac sc x hc))) ∧ (∀ d, zev L (d + 2) 185 0 [some (.inr (.inl (12, 0, 0))), none] [] (yam mc o a hm) = some (none, hm')) ∧ yYS T t B P H h0c h0m (i + 1) (yNx T B i (yac sc x hc)) hm' ∧ yLS (sc + 1) (mc + 1) (yNx T B i (yac sc x hc)) hm' ∧ yEx ts (false :: ts) sc mc (sc + 1) (mc + 1) (hc 2 8) (yRw hm) ((yNx T B i (yac sc x hc)) 2 8) (yRw hm') ∧ yPf hm hm' := fun x o a h0 sg => by
    have h4 := it h0
    obtain ⟨hm', n1, n2, n3, n4, _⟩ := yNext (L := L) G (yYS_e (mc := mc) (o := o) (a := a) (yYS_a (sc := sc) (x := x) S (by omega))) h0
    refine ⟨hm', n1, n2, n3, ⟨by rw [yNx_8]; exact yac_3, ?_, by omega⟩, ?_, yPf_t yPf_e (yPf_F n4)⟩
    · rw [n4 12 0 0 26 (by omega)]; exact yam_26
    · rw [yNx_8, yRw_F n4]
      exact yEx_1 sg
  rcases c3 with ⟨q, e1⟩ | ⟨q, e1⟩ | ⟨q, e1, e2⟩ | ⟨c, hc27, q, e1, e2⟩ | ⟨v, hv, q, e1, e2⟩
  · obtain ⟨f1, f2, f3⟩ := yFail (L := L) (f := 1) G S
    refine Or.inr ⟨_, _, fun d => ?_, fun d => ?_, f3⟩
    · simp (disch := first | omega | simp (disch := omega) only [nI_add, pk_mul, pk_sub, pk_div, znmod, nI_clamp, nIleT, nIleF, nIltT, nIltF, nIeqT, nIeqF, nIm1, nIm1q, zupE, zupN, vpT, nI_01, nI_11, ↓reduceIte, Option.bind_some, Option.toList_some, Option.toList_none, List.cons_append, List.nil_append, Nat.reduceAdd, Nat.reduceMul, Nat.reduceSub, Nat.reduceDiv, Nat.reduceMod, and_true, true_and, and_false, false_and, not_true_eq_false, not_false_eq_true, or_true, true_or, or_false, false_or, Int32.lt_irrefl, Int32.le_refl, a3, q, f1]) only [nI_add, pk_mul, pk_sub, pk_div, znmod, nI_clamp, nIleT, nIleF, nIltT, nIltF, nIeqT, nIeqF, nIm1, nIm1q, zupE, zupN, vpT, nI_01, nI_11, ↓reduceIte, Option.bind_some, Option.toList_some, Option.toList_none, List.cons_append, List.nil_append, Nat.reduceAdd, Nat.reduceMul, Nat.reduceSub, Nat.reduceDiv, Nat.reduceMod, and_true, true_and, and_false, false_and, not_true_eq_false, not_false_eq_true, or_true, true_or, or_false, false_or, Int32.lt_irrefl, Int32.le_refl, a3, q, f1, b71_0, b71_10, b71_31, b71_34, b71_44, b71_54, b71_69, b71_72, b71_77, b71_78, b71_82]
    · simp (disch := first | omega | simp (disch := omega) only [nI_add, pk_mul, pk_sub, pk_div, znmod, nI_clamp, nIleT, nIleF, nIltT, nIltF, nIeqT, nIeqF, nIm1, nIm1q, zupE, zupN, vpT, nI_01, nI_11, ↓reduceIte, Option.bind_some, Option.toList_some, Option.toList_none, List.cons_append, List.nil_append, Nat.reduceAdd, Nat.reduceMul, Nat.reduceSub, Nat.reduceDiv, Nat.reduceMod, and_true, true_and, and_false, false_and, not_true_eq_false, not_false_eq_true, or_true, true_or, or_false, false_or, Int32.lt_irrefl, Int32.le_refl, e1, f2]) only [nI_add, pk_mul, pk_sub, pk_div, znmod, nI_clamp, nIleT, nIleF, nIltT, nIltF, nIeqT, nIeqF, nIm1, nIm1q, zupE, zupN, vpT, nI_01, nI_11, ↓reduceIte, Option.bind_some, Option.toList_some, Option.toList_none, List.cons_append, List.nil_append, Nat.reduceAdd, Nat.reduceMul, Nat.reduceSub, Nat.reduceDiv, Nat.reduceMod, and_true, true_and, and_false, false_and, not_true_eq_false, not_false_eq_true, or_true, true_or, or_false, false_or, Int32.lt_irrefl, Int32.le_refl, e1, f2, b191_0, b191_8, b191_16, b191_19, b191_23, b191_24, b191_29, b191_37, b191_42, b191_43, b191_48, b191_52, b191_53, b191_57, b191_67, b191_71, b191_74, b191_78]
  · obtain ⟨f1, f2, f3⟩ := yFail (L := L) (f := 1) G S
    refine Or.inr ⟨_, _, fun d => ?_, fun d => ?_, f3⟩
    · simp (disch := first | omega | simp (disch := omega) only [nI_add, pk_mul, pk_sub, pk_div, znmod, nI_clamp, nIleT, nIleF, nIltT, nIltF, nIeqT, nIeqF, nIm1, nIm1q, zupE, zupN, vpT, nI_01, nI_11, ↓reduceIte, Option.bind_some, Option.toList_some, Option.toList_none, List.cons_append, List.nil_append, Nat.reduceAdd, Nat.reduceMul, Nat.reduceSub, Nat.reduceDiv, Nat.reduceMod, and_true, true_and, and_false, false_and, not_true_eq_false, not_false_eq_true, or_true, true_or, or_false, false_or, Int32.lt_irrefl, Int32.le_refl, a3, q, f1]) only [nI_add, pk_mul, pk_sub, pk_div, znmod, nI_clamp, nIleT, nIleF, nIltT, nIltF, nIeqT, nIeqF, nIm1, nIm1q, zupE, zupN, vpT, nI_01, nI_11, ↓reduceIte, Option.bind_some, Option.toList_some, Option.toList_none, List.cons_append, List.nil_append, Nat.reduceAdd, Nat.reduceMul, Nat.reduceSub, Nat.reduceDiv, Nat.reduceMod, and_true, true_and, and_false, false_and, not_true_eq_false, not_false_eq_true, or_true, true_or, or_false, false_or, Int32.lt_irrefl, Int32.le_refl, a3, q, f1, b71_0, b71_10, b71_31, b71_34, b71_44, b71_54, b71_69, b71_72, b71_77, b71_78, b71_82]
    · simp (disch := first | omega | simp (disch := omega) only [nI_add, pk_mul, pk_sub, pk_div, znmod, nI_clamp, nIleT, nIleF, nIltT, nIltF, nIeqT, nIeqF, nIm1, nIm1q, zupE, zupN, vpT, nI_01, nI_11, ↓reduceIte, Option.bind_some, Option.toList_some, Option.toList_none, List.cons_append, List.nil_append, Nat.reduceAdd, Nat.reduceMul, Nat.reduceSub, Nat.reduceDiv, Nat.reduceMod, and_true, true_and, and_false, false_and, not_true_eq_false, not_false_eq_true, or_true, true_or, or_false, false_or, Int32.lt_irrefl, Int32.le_refl, e1, f2]) only [nI_add, pk_mul, pk_sub, pk_div, znmod, nI_clamp, nIleT, nIleF, nIltT, nIltF, nIeqT, nIeqF, nIm1, nIm1q, zupE, zupN, vpT, nI_01, nI_11, ↓reduceIte, Option.bind_some, Option.toList_some, Option.toList_none, List.cons_append, List.nil_append, Nat.reduceAdd, Nat.reduceMul, Nat.reduceSub, Nat.reduceDiv, Nat.reduceMod, and_true, true_and, and_false, false_and, not_true_eq_false, not_false_eq_true, or_true, true_or, or_false, false_or, Int32.lt_irrefl, Int32.le_refl, e1, f2, b191_0, b191_8, b191_16, b191_19, b191_23, b191_24, b191_29, b191_37, b191_42, b191_43, b191_48, b191_52, b191_53, b191_57, b191_67, b191_71, b191_74, b191_78]
  · obtain ⟨f1, f2, f3⟩ := yFail (L := L) (f := 1) G S
    have q' := q
    simp only [yyS, List.contains_cons, List.contains_nil, Bool.or_false, Bool.or_eq_true, beq_iff_eq] at q'
    refine Or.inr ⟨_, _, fun d => ?_, fun d => ?_, f3⟩
    · simp (disch := first | omega | simp (disch := omega) only [nI_add, pk_mul, pk_sub, pk_div, znmod, nI_clamp, nIleT, nIleF, nIltT, nIltF, nIeqT, nIeqF, nIm1, nIm1q, zupE, zupN, vpT, nI_01, nI_11, ↓reduceIte, Option.bind_some, Option.toList_some, Option.toList_none, List.cons_append, List.nil_append, Nat.reduceAdd, Nat.reduceMul, Nat.reduceSub, Nat.reduceDiv, Nat.reduceMod, and_true, true_and, and_false, false_and, not_true_eq_false, not_false_eq_true, or_true, true_or, or_false, false_or, Int32.lt_irrefl, Int32.le_refl, a3, f1]) only [nI_add, pk_mul, pk_sub, pk_div, znmod, nI_clamp, nIleT, nIleF, nIltT, nIltF, nIeqT, nIeqF, nIm1, nIm1q, zupE, zupN, vpT, nI_01, nI_11, ↓reduceIte, Option.bind_some, Option.toList_some, Option.toList_none, List.cons_append, List.nil_append, Nat.reduceAdd, Nat.reduceMul, Nat.reduceSub, Nat.reduceDiv, Nat.reduceMod, and_true, true_and, and_false, false_and, not_true_eq_false, not_false_eq_true, or_true, true_or, or_false, false_or, Int32.lt_irrefl, Int32.le_refl, a3, f1, b71_0, b71_10, b71_31, b71_34, b71_44, b71_54, b71_69, b71_72, b71_77, b71_78, b71_82]
    · simp (disch := first | omega | simp (disch := omega) only [nI_add, pk_mul, pk_sub, pk_div, znmod, nI_clamp, nIleT, nIleF, nIltT, nIltF, nIeqT, nIeqF, nIm1, nIm1q, zupE, zupN, vpT, nI_01, nI_11, ↓reduceIte, Option.bind_some, Option.toList_some, Option.toList_none, List.cons_append, List.nil_append, Nat.reduceAdd, Nat.reduceMul, Nat.reduceSub, Nat.reduceDiv, Nat.reduceMod, and_true, true_and, and_false, false_and, not_true_eq_false, not_false_eq_true, or_true, true_or, or_false, false_or, Int32.lt_irrefl, Int32.le_refl, e1, f2]) only [nI_add, pk_mul, pk_sub, pk_div, znmod, nI_clamp, nIleT, nIleF, nIltT, nIltF, nIeqT, nIeqF, nIm1, nIm1q, zupE, zupN, vpT, nI_01, nI_11, ↓reduceIte, Option.bind_some, Option.toList_some, Option.toList_none, List.cons_append, List.nil_append, Nat.reduceAdd, Nat.reduceMul, Nat.reduceSub, Nat.reduceDiv, Nat.reduceMod, and_true, true_and, and_false, false_and, not_true_eq_false, not_false_eq_true, or_true, true_or, or_false, false_or, Int32.lt_irrefl, Int32.le_refl, e1, f2, b191_0, b191_8, b191_16, b191_19, b191_23, b191_24, b191_29, b191_37, b191_42, b191_43, b191_48, b191_52, b191_53, b191_57, b191_67, b191_71, b191_74, b191_78]
  · by_cases c11 : c < 11
    · obtain ⟨hm', n1, n2, n3, n4, n5, n6⟩ := go (nI c) (nI 1) (nI c) (by omega) (fun O A eo ea => Or.inl ⟨c, c11, rfl, eo, ea, rfl, rfl, ht⟩)
      have h4 := it (by omega)
      have ka := fun d => kAdds (L := L) (d := d) (x := nI c) l1 (by omega)
      have me := fun d => mEmit (L := L) (d := d) (o := nI 1) (a := nI c) l2 (by omega)
      have ec : yymc c = c + 7 := by unfold yymc; rw [if_pos c11]
      rw [ec] at e2
      rw [q] at a3
      have x1 : 256 + c - 256 = c := by omega
      refine Or.inl ⟨_, hm', fun d => ?_, fun d => ?_, n3, n4, n5, n6⟩
      · simp (disch := first | omega | simp (disch := omega) only [nI_add, pk_mul, pk_sub, pk_div, znmod, nI_clamp, nIleT, nIleF, nIltT, nIltF, nIeqT, nIeqF, nIm1, nIm1q, zupE, zupN, vpT, nI_01, nI_11, ↓reduceIte, Option.bind_some, Option.toList_some, Option.toList_none, List.cons_append, List.nil_append, Nat.reduceAdd, Nat.reduceMul, Nat.reduceSub, Nat.reduceDiv, Nat.reduceMod, and_true, true_and, and_false, false_and, not_true_eq_false, not_false_eq_true, or_true, true_or, or_false, false_or, Int32.lt_irrefl, Int32.le_refl, a3, x1, ka, n1]) only [nI_add, pk_mul, pk_sub, pk_div, znmod, nI_clamp, nIleT, nIleF, nIltT, nIltF, nIeqT, nIeqF, nIm1, nIm1q, zupE, zupN, vpT, nI_01, nI_11, ↓reduceIte, Option.bind_some, Option.toList_some, Option.toList_none, List.cons_append, List.nil_append, Nat.reduceAdd, Nat.reduceMul, Nat.reduceSub, Nat.reduceDiv, Nat.reduceMod, and_true, true_and, and_false, false_and, not_true_eq_false, not_false_eq_true, or_true, true_or, or_false, false_or, Int32.lt_irrefl, Int32.le_refl, a3, x1, ka, n1, b71_0, b71_10, b71_31, b71_34, b71_44, b71_54, b71_69, b71_72, b71_77, b71_78, b71_82]
      · simp (disch := first | omega | simp (disch := omega) only [nI_add, pk_mul, pk_sub, pk_div, znmod, nI_clamp, nIleT, nIleF, nIltT, nIltF, nIeqT, nIeqF, nIm1, nIm1q, zupE, zupN, vpT, nI_01, nI_11, ↓reduceIte, Option.bind_some, Option.toList_some, Option.toList_none, List.cons_append, List.nil_append, Nat.reduceAdd, Nat.reduceMul, Nat.reduceSub, Nat.reduceDiv, Nat.reduceMod, and_true, true_and, and_false, false_and, not_true_eq_false, not_false_eq_true, or_true, true_or, or_false, false_or, Int32.lt_irrefl, Int32.le_refl, e1, e2, mIn, Nat.add_sub_cancel, me, n2]) only [nI_add, pk_mul, pk_sub, pk_div, znmod, nI_clamp, nIleT, nIleF, nIltT, nIltF, nIeqT, nIeqF, nIm1, nIm1q, zupE, zupN, vpT, nI_01, nI_11, ↓reduceIte, Option.bind_some, Option.toList_some, Option.toList_none, List.cons_append, List.nil_append, Nat.reduceAdd, Nat.reduceMul, Nat.reduceSub, Nat.reduceDiv, Nat.reduceMod, and_true, true_and, and_false, false_and, not_true_eq_false, not_false_eq_true, or_true, true_or, or_false, false_or, Int32.lt_irrefl, Int32.le_refl, e1, e2, mIn, Nat.add_sub_cancel, me, n2, b191_0, b191_8, b191_16, b191_19, b191_23, b191_24, b191_29, b191_37, b191_42, b191_43, b191_48, b191_52, b191_53, b191_57, b191_67, b191_71, b191_74, b191_78, b190_0, b190_9]
    · obtain ⟨f1, f2, f3⟩ := yFail (L := L) (f := 1) G S
      rw [q] at a3
      have n717 : yymc c < 7 ∨ 17 < yymc c := by
        unfold yymc; rw [if_neg c11]; split <;> omega
      have nb : yymc c < 27 := by unfold yymc; split <;> (try split) <;> omega
      refine Or.inr ⟨_, _, fun d => ?_, fun d => ?_, f3⟩
      · simp (disch := first | omega | simp (disch := omega) only [nI_add, pk_mul, pk_sub, pk_div, znmod, nI_clamp, nIleT, nIleF, nIltT, nIltF, nIeqT, nIeqF, nIm1, nIm1q, zupE, zupN, vpT, nI_01, nI_11, ↓reduceIte, Option.bind_some, Option.toList_some, Option.toList_none, List.cons_append, List.nil_append, Nat.reduceAdd, Nat.reduceMul, Nat.reduceSub, Nat.reduceDiv, Nat.reduceMod, and_true, true_and, and_false, false_and, not_true_eq_false, not_false_eq_true, or_true, true_or, or_false, false_or, Int32.lt_irrefl, Int32.le_refl, a3, f1]) only [nI_add, pk_mul, pk_sub, pk_div, znmod, nI_clamp, nIleT, nIleF, nIltT, nIltF, nIeqT, nIeqF, nIm1, nIm1q, zupE, zupN, vpT, nI_01, nI_11, ↓reduceIte, Option.bind_some, Option.toList_some, Option.toList_none, List.cons_append, List.nil_append, Nat.reduceAdd, Nat.reduceMul, Nat.reduceSub, Nat.reduceDiv, Nat.reduceMod, and_true, true_and, and_false, false_and, not_true_eq_false, not_false_eq_true, or_true, true_or, or_false, false_or, Int32.lt_irrefl, Int32.le_refl, a3, f1, b71_0, b71_10, b71_31, b71_34, b71_44, b71_54, b71_69, b71_72, b71_77, b71_78, b71_82]
      · rcases n717 with n717 | n717
        · simp (disch := first | omega | simp (disch := omega) only [nI_add, pk_mul, pk_sub, pk_div, znmod, nI_clamp, nIleT, nIleF, nIltT, nIltF, nIeqT, nIeqF, nIm1, nIm1q, zupE, zupN, vpT, nI_01, nI_11, ↓reduceIte, Option.bind_some, Option.toList_some, Option.toList_none, List.cons_append, List.nil_append, Nat.reduceAdd, Nat.reduceMul, Nat.reduceSub, Nat.reduceDiv, Nat.reduceMod, and_true, true_and, and_false, false_and, not_true_eq_false, not_false_eq_true, or_true, true_or, or_false, false_or, Int32.lt_irrefl, Int32.le_refl, e1, e2, mIn, f2]) only [nI_add, pk_mul, pk_sub, pk_div, znmod, nI_clamp, nIleT, nIleF, nIltT, nIltF, nIeqT, nIeqF, nIm1, nIm1q, zupE, zupN, vpT, nI_01, nI_11, ↓reduceIte, Option.bind_some, Option.toList_some, Option.toList_none, List.cons_append, List.nil_append, Nat.reduceAdd, Nat.reduceMul, Nat.reduceSub, Nat.reduceDiv, Nat.reduceMod, and_true, true_and, and_false, false_and, not_true_eq_false, not_false_eq_true, or_true, true_or, or_false, false_or, Int32.lt_irrefl, Int32.le_refl, e1, e2, mIn, f2, b191_0, b191_8, b191_16, b191_19, b191_23, b191_24, b191_29, b191_37, b191_42, b191_43, b191_48, b191_52, b191_53, b191_57, b191_67, b191_71, b191_74, b191_78, b190_0, b190_9]
        · simp (disch := first | omega | simp (disch := omega) only [nI_add, pk_mul, pk_sub, pk_div, znmod, nI_clamp, nIleT, nIleF, nIltT, nIltF, nIeqT, nIeqF, nIm1, nIm1q, zupE, zupN, vpT, nI_01, nI_11, ↓reduceIte, Option.bind_some, Option.toList_some, Option.toList_none, List.cons_append, List.nil_append, Nat.reduceAdd, Nat.reduceMul, Nat.reduceSub, Nat.reduceDiv, Nat.reduceMod, and_true, true_and, and_false, false_and, not_true_eq_false, not_false_eq_true, or_true, true_or, or_false, false_or, Int32.lt_irrefl, Int32.le_refl, e1, e2, mIn, f2]) only [nI_add, pk_mul, pk_sub, pk_div, znmod, nI_clamp, nIleT, nIleF, nIltT, nIltF, nIeqT, nIeqF, nIm1, nIm1q, zupE, zupN, vpT, nI_01, nI_11, ↓reduceIte, Option.bind_some, Option.toList_some, Option.toList_none, List.cons_append, List.nil_append, Nat.reduceAdd, Nat.reduceMul, Nat.reduceSub, Nat.reduceDiv, Nat.reduceMod, and_true, true_and, and_false, false_and, not_true_eq_false, not_false_eq_true, or_true, true_or, or_false, false_or, Int32.lt_irrefl, Int32.le_refl, e1, e2, mIn, f2, b191_0, b191_8, b191_16, b191_19, b191_23, b191_24, b191_29, b191_37, b191_42, b191_43, b191_48, b191_52, b191_53, b191_57, b191_67, b191_71, b191_74, b191_78, b190_0, b190_9]
  · obtain ⟨hm', n1, n2, n3, n4, n5, n6⟩ := go (nI (11 + 32 * v)) (nI 0) (nI v) (by omega) (fun O A eo ea => Or.inr (Or.inl ⟨v, hv, rfl, eo, ea, rfl, rfl, ht⟩))
    have h4 := it (by omega)
    have ka := fun d => kAdds (L := L) (d := d) (x := nI (11 + 32 * v)) l1 (by omega)
    have me := fun d => mEmit (L := L) (d := d) (o := nI 0) (a := nI v) l2 (by omega)
    rw [q] at a3
    have x1 : 1000 + v - 1000 = v := by omega
    refine Or.inl ⟨_, hm', fun d => ?_, fun d => ?_, n3, n4, n5, n6⟩
    · simp (disch := first | omega | simp (disch := omega) only [nI_add, pk_mul, pk_sub, pk_div, znmod, nI_clamp, nIleT, nIleF, nIltT, nIltF, nIeqT, nIeqF, nIm1, nIm1q, zupE, zupN, vpT, nI_01, nI_11, ↓reduceIte, Option.bind_some, Option.toList_some, Option.toList_none, List.cons_append, List.nil_append, Nat.reduceAdd, Nat.reduceMul, Nat.reduceSub, Nat.reduceDiv, Nat.reduceMod, and_true, true_and, and_false, false_and, not_true_eq_false, not_false_eq_true, or_true, true_or, or_false, false_or, Int32.lt_irrefl, Int32.le_refl, a3, x1, ka, n1]) only [nI_add, pk_mul, pk_sub, pk_div, znmod, nI_clamp, nIleT, nIleF, nIltT, nIltF, nIeqT, nIeqF, nIm1, nIm1q, zupE, zupN, vpT, nI_01, nI_11, ↓reduceIte, Option.bind_some, Option.toList_some, Option.toList_none, List.cons_append, List.nil_append, Nat.reduceAdd, Nat.reduceMul, Nat.reduceSub, Nat.reduceDiv, Nat.reduceMod, and_true, true_and, and_false, false_and, not_true_eq_false, not_false_eq_true, or_true, true_or, or_false, false_or, Int32.lt_irrefl, Int32.le_refl, a3, x1, ka, n1, b71_0, b71_10, b71_31, b71_34, b71_44, b71_54, b71_69, b71_72, b71_77, b71_78, b71_82]
    · simp (disch := first | omega | simp (disch := omega) only [nI_add, pk_mul, pk_sub, pk_div, znmod, nI_clamp, nIleT, nIleF, nIltT, nIltF, nIeqT, nIeqF, nIm1, nIm1q, zupE, zupN, vpT, nI_01, nI_11, ↓reduceIte, Option.bind_some, Option.toList_some, Option.toList_none, List.cons_append, List.nil_append, Nat.reduceAdd, Nat.reduceMul, Nat.reduceSub, Nat.reduceDiv, Nat.reduceMod, and_true, true_and, and_false, false_and, not_true_eq_false, not_false_eq_true, or_true, true_or, or_false, false_or, Int32.lt_irrefl, Int32.le_refl, e1, e2, me, n2]) only [nI_add, pk_mul, pk_sub, pk_div, znmod, nI_clamp, nIleT, nIleF, nIltT, nIltF, nIeqT, nIeqF, nIm1, nIm1q, zupE, zupN, vpT, nI_01, nI_11, ↓reduceIte, Option.bind_some, Option.toList_some, Option.toList_none, List.cons_append, List.nil_append, Nat.reduceAdd, Nat.reduceMul, Nat.reduceSub, Nat.reduceDiv, Nat.reduceMod, and_true, true_and, and_false, false_and, not_true_eq_false, not_false_eq_true, or_true, true_or, or_false, false_or, Int32.lt_irrefl, Int32.le_refl, e1, e2, me, n2, b191_0, b191_8, b191_16, b191_19, b191_23, b191_24, b191_29, b191_37, b191_42, b191_43, b191_48, b191_52, b191_53, b191_57, b191_67, b191_71, b191_74, b191_78]
end TS
