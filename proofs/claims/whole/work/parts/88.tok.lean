/-! text: class and reference at the same token -/
section TK
variable {L : Nat} {T t P H : Nat} {B : Nat → Nat} {h0c h0m hc hm : zH}
/-- all of the class's but the reader's -/
def yFC (h0 h : zH) : Prop := ∀ k i s j, ¬ (k = 6 ∧ s = 0) → ¬ (k = 2 ∧ i = 8) → h k i s j = h0 k i s j
/-- all of the reference's but the reader's and the drafts -/
def yFM (h0 h : zH) : Prop := ∀ s j, ¬ (s = 0 ∧ (j = 0 ∨ (13 ≤ j ∧ j ≤ 16) ∨ (26 ≤ j ∧ j ≤ 31))) → ¬ (20 ≤ s ∧ s ≤ 23 ∧ 32 ≤ j) → ¬ ((s = 24 ∨ s = 25) ∧ 800 ≤ j) → ¬ ((s = 36 ∨ s = 38) ∧ 80 ≤ j) → ¬ (s = 40 ∧ 12 ≤ j) → ¬ s = 29 → h 12 0 s j = h0 12 0 s j
def yGl (T t : Nat) (B : Nat → Nat) (P H : Nat) (h0m : zH) : Prop := T ≤ 400 ∧ t ≤ T ∧ yykd T B t = 0 ∧ (∀ k, k < t → yykd T B k ≠ 0) ∧ h0m 12 0 0 6 = nI P ∧ h0m 12 0 0 7 = nI H ∧ P ≤ 12 ∧ H ≤ 10
/-- both stand at token i, with no fault yet -/
def yYS (T t : Nat) (B : Nat → Nat) (P H : Nat) (h0c h0m : zH) (i : Nat) (hc hm : zH) : Prop :=
  i ≤ t ∧ hc 6 0 0 2 = nI i ∧ hc 6 0 0 3 = nI (yykd T B i) ∧ (∀ k, k ≤ t → hc 7 0 2 k = nI (yykd T B k) ∧ hc 7 0 3 k = nI (yypl T B k)) ∧
  (hc 6 0 0 4 = nI 0 ∧ hc 6 0 0 5 = (-1)) ∧ (hc 6 0 0 6 = nI P ∧ hc 6 0 0 7 = nI H) ∧ yFC h0c hc ∧ (∃ sc, sc ≤ 400 ∧ hc 2 8 0 3 = nI sc) ∧
  yyM T B hm ∧ (hm 12 0 0 13 = nI (yysp T B (i + 1)) ∧ hm 12 0 0 14 = nI (yypl T B i) ∧ Tkm (yykd T B i) (hm 12 0 0 15) (hm 12 0 0 16)) ∧ yFM h0m hm
/-- both found the same fault -/
def yYF (h0c h0m hc hm : zH) : Prop := yFC h0c hc ∧ yFM h0m hm ∧ hm 12 0 0 30 = hc 6 0 0 4 ∧ hm 12 0 0 31 = hc 6 0 0 5 ∧ ∃ sc, sc ≤ 400 ∧ hc 2 8 0 3 = nI sc
theorem yFC_u {h : zH} {k i s j : Nat} {v : Int32} (f : yFC h0c h) (a : (k = 6 ∧ s = 0) ∨ (k = 2 ∧ i = 8) ∨ False) : yFC h0c (zup h k i s j v) := fun k' i' s' j' q1 q2 => by
  have a' : (k = 6 ∧ s = 0) ∨ (k = 2 ∧ i = 8) := by
    rcases a with a | a | a
    · exact Or.inl a
    · exact Or.inr a
    · exact a.elim
  rw [zupN (by omega)]; exact f k' i' s' j' q1 q2
def yAl (s j : Nat) : Prop := (s = 0 ∧ (26 ≤ j ∧ j ≤ 31)) ∨ (20 ≤ s ∧ s ≤ 23 ∧ 32 ≤ j) ∨ ((s = 24 ∨ s = 25) ∧ 800 ≤ j) ∨ ((s = 36 ∨ s = 38) ∧ 80 ≤ j) ∨ (s = 40 ∧ 12 ≤ j) ∨ s = 29
theorem yFM_u {h : zH} {s j : Nat} {v : Int32} (f : yFM h0m h) (a : yAl s j) : yFM h0m (zup h 12 0 s j v) := fun s' j' q1 q2 q3 q4 q5 q6 => by
  unfold yAl at a
  rw [zupN (by omega)]; exact f s' j' q1 q2 q3 q4 q5 q6
theorem yFM_F {h h' : zH} (f : yFM h0m h) (e : yyF h h') : yFM h0m h' := fun s' j' q1 q2 q3 q4 q5 q6 => by
  rw [e 12 0 s' j' (by omega)]; exact f s' j' q1 q2 q3 q4 q5 q6
theorem yYS_c {i s j : Nat} {v : Int32} (S : yYS T t B P H h0c h0m i hc hm) (a : ¬ (s = 0 ∧ j = 3)) : yYS T t B P H h0c h0m i (zup hc 2 8 s j v) hm := by
  obtain ⟨a1, a2, a3, a4, a5, a6, a7, a8, a9⟩ := S
  refine ⟨a1, by rw [zupN (by omega)]; exact a2, by rw [zupN (by omega)]; exact a3, fun k hk => ?_, ?_, ?_, yFC_u a7 (Or.inr (Or.inl ⟨rfl, rfl⟩)), ?_, a9⟩
  · rw [zupN (by omega), zupN (by omega)]; exact a4 k hk
  · rw [zupN (by omega), zupN (by omega)]; exact a5
  · rw [zupN (by omega), zupN (by omega)]; exact a6
  · rw [zupN (by omega)]; exact a8
theorem yYS_3 {i sc : Nat} (S : yYS T t B P H h0c h0m i hc hm) (a : sc ≤ 400) : yYS T t B P H h0c h0m i (zup hc 2 8 0 3 (nI sc)) hm := by
  obtain ⟨a1, a2, a3, a4, a5, a6, a7, a8, a9⟩ := S
  refine ⟨a1, by rw [zupN (by omega)]; exact a2, by rw [zupN (by omega)]; exact a3, fun k hk => ?_, ?_, ?_, yFC_u a7 (Or.inr (Or.inl ⟨rfl, rfl⟩)), ⟨sc, a, by rw [zupE (by omega)]⟩, a9⟩
  · rw [zupN (by omega), zupN (by omega)]; exact a4 k hk
  · rw [zupN (by omega), zupN (by omega)]; exact a5
  · rw [zupN (by omega), zupN (by omega)]; exact a6
theorem yYS_m {i s j : Nat} {v : Int32} (S : yYS T t B P H h0c h0m i hc hm) (a : yAl s j) : yYS T t B P H h0c h0m i hc (zup hm 12 0 s j v) := by
  obtain ⟨a1, a2, a3, a4, a5, a6, a7, a8, ⟨b1, b2, b3, b4⟩, ⟨c1, c2, c3⟩, d1⟩ := S
  have a' := a
  unfold yAl at a'
  refine ⟨a1, a2, a3, a4, a5, a6, a7, a8, ⟨b1, ?_, fun j' hj => ?_, fun j' hj => ?_⟩, ⟨?_, ?_, ?_⟩, yFM_u d1 a⟩
  · rw [zupN (by omega)]; exact b2
  · rw [zupN (by omega)]; exact b3 j' hj
  · rw [zupN (by omega)]; exact b4 j' hj
  · rw [zupN (by omega)]; exact c1
  · rw [zupN (by omega)]; exact c2
  · rw [zupN (by omega), zupN (by omega)]; exact c3
/-- on to the next token -/
def yNx (T : Nat) (B : Nat → Nat) (i : Nat) (hc : zH) : zH := zup (zup hc 6 0 0 2 (nI (i + 1))) 6 0 0 3 (nI (yykd T B (i + 1)))
theorem yNext {i : Nat} (G : yGl T t B P H h0m) (S : yYS T t B P H h0c h0m i hc hm) (h0 : yykd T B i ≠ 0) : ∃ hm', (∀ d, zev L d 59 0 [some (.inr (.inl (6, 0, 0)))] [] hc = some (none, yNx T B i hc)) ∧ (∀ d, zev L (d + 2) 185 0 [some (.inr (.inl (12, 0, 0))), none] [] hm = some (none, hm')) ∧ yYS T t B P H h0c h0m (i + 1) (yNx T B i hc) hm' ∧ yyF hm hm' ∧ i + 1 ≤ t := by
  obtain ⟨a1, a2, a3, a4, a5, a6, a7, a8, b, ⟨c1, c2, c3⟩, d1⟩ := S
  obtain ⟨g1, g2, g3, _⟩ := G
  have ht : i < t := by
    apply Classical.byContradiction
    intro q
    have : i = t := by omega
    subst this
    exact h0 g3
  obtain ⟨hm', m1, m2, m3, m4, m5⟩ := mReads (L := L) (yysp_le (i + 1)) b c1
  have ek := (a4 (i + 1) (by omega)).1
  have kb := (show yykd T B i < 2 ^ 31 from (by
    rcases c3 with ⟨e, _⟩ | ⟨e, _⟩ | ⟨e, _⟩ | ⟨c, hc, e, _⟩ | ⟨c, hc, e, _⟩
    · omega
    · omega
    · simp only [yyS, List.contains_cons, List.contains_nil, Bool.or_false, Bool.or_eq_true, beq_iff_eq] at e; omega
    · omega
    · omega))
  refine ⟨hm', fun d => ?_, m1, ⟨by omega, ?_, ?_, fun k hk => ?_, ?_, ?_, ?_, ?_, yyM_F b m2, ⟨m3, m4, m5⟩, yFM_F d1 m2⟩, m2, ht⟩
  · unfold yNx
    simp (disch := first | omega | simp (disch := omega) only [nI_add, pk_mul, pk_sub, pk_div, znmod, nI_clamp, nIleT, nIleF, nIltT, nIltF, nIeqT, nIeqF, nIm1, nIm1q, zupE, zupN, vpT, nI_01, nI_11, ↓reduceIte, Option.bind_some, Option.toList_some, Option.toList_none, List.cons_append, List.nil_append, Nat.reduceAdd, Nat.reduceMul, Nat.reduceSub, Nat.reduceDiv, Nat.reduceMod, and_true, true_and, and_false, false_and, not_true_eq_false, not_false_eq_true, or_true, true_or, or_false, false_or, Int32.lt_irrefl, Int32.le_refl, a2, a3, ek]) only [nI_add, pk_mul, pk_sub, pk_div, znmod, nI_clamp, nIleT, nIleF, nIltT, nIltF, nIeqT, nIeqF, nIm1, nIm1q, zupE, zupN, vpT, nI_01, nI_11, ↓reduceIte, Option.bind_some, Option.toList_some, Option.toList_none, List.cons_append, List.nil_append, Nat.reduceAdd, Nat.reduceMul, Nat.reduceSub, Nat.reduceDiv, Nat.reduceMod, and_true, true_and, and_false, false_and, not_true_eq_false, not_false_eq_true, or_true, true_or, or_false, false_or, Int32.lt_irrefl, Int32.le_refl, a2, a3, ek, b59_0, b59_10, b59_17, b59_27, b59_43]
  · unfold yNx; rw [zupN (by omega), zupE (by omega)]
  · unfold yNx; rw [zupE (by omega)]
  · unfold yNx; rw [zupN (by omega), zupN (by omega), zupN (by omega), zupN (by omega)]; exact a4 k hk
  · unfold yNx; rw [zupN (by omega), zupN (by omega), zupN (by omega), zupN (by omega)]; exact a5
  · unfold yNx; rw [zupN (by omega), zupN (by omega), zupN (by omega), zupN (by omega)]; exact a6
  · unfold yNx; exact yFC_u (yFC_u a7 (Or.inl ⟨rfl, rfl⟩)) (Or.inl ⟨rfl, rfl⟩)
  · unfold yNx; rw [zupN (by omega), zupN (by omega)]; exact a8
/-- what a token is with each -/
theorem yTw {i c : Nat} (S : yYS T t B P H h0c h0m i hc hm) (hc27 : c < 27) (d : Nat) : zev L d 187 0 [some (.inr (.inl (12, 0, 0))), some (.inl (nI (yymc c)))] [] hm = some (some (.inl (if yykd T B i = 256 + c then nI 1 else nI 0)), hm) := by
  obtain ⟨_, _, _, _, _, _, _, _, _, ⟨_, _, c3⟩, _⟩ := S
  have hi : ∀ a, a < 27 → ∀ b, b < 27 → yymc a = yymc b → a = b := by decide +kernel
  have hl : ∀ a, a < 27 → yymc a < 27 := by decide +kernel
  have l1 := hl c hc27
  rcases c3 with ⟨e, e1⟩ | ⟨e, e1⟩ | ⟨e, e1, e2⟩ | ⟨a, ha, e, e1, e2⟩ | ⟨a, ha, e, e1, e2⟩
  · have n : ¬ yykd T B i = 256 + c := by omega
    simp (disch := first | omega | simp (disch := omega) only [nI_add, pk_mul, pk_sub, pk_div, znmod, nI_clamp, nIleT, nIleF, nIltT, nIltF, nIeqT, nIeqF, nIm1, nIm1q, zupE, zupN, vpT, nI_01, nI_11, ↓reduceIte, Option.bind_some, Option.toList_some, Option.toList_none, List.cons_append, List.nil_append, Nat.reduceAdd, Nat.reduceMul, Nat.reduceSub, Nat.reduceDiv, Nat.reduceMod, and_true, true_and, and_false, false_and, not_true_eq_false, not_false_eq_true, or_true, true_or, or_false, false_or, Int32.lt_irrefl, Int32.le_refl, e1, n]) only [nI_add, pk_mul, pk_sub, pk_div, znmod, nI_clamp, nIleT, nIleF, nIltT, nIltF, nIeqT, nIeqF, nIm1, nIm1q, zupE, zupN, vpT, nI_01, nI_11, ↓reduceIte, Option.bind_some, Option.toList_some, Option.toList_none, List.cons_append, List.nil_append, Nat.reduceAdd, Nat.reduceMul, Nat.reduceSub, Nat.reduceDiv, Nat.reduceMod, and_true, true_and, and_false, false_and, not_true_eq_false, not_false_eq_true, or_true, true_or, or_false, false_or, Int32.lt_irrefl, Int32.le_refl, e1, n, b187_0, b187_8, b187_16, b187_20, b187_21]
  · have n : ¬ yykd T B i = 256 + c := by omega
    simp (disch := first | omega | simp (disch := omega) only [nI_add, pk_mul, pk_sub, pk_div, znmod, nI_clamp, nIleT, nIleF, nIltT, nIltF, nIeqT, nIeqF, nIm1, nIm1q, zupE, zupN, vpT, nI_01, nI_11, ↓reduceIte, Option.bind_some, Option.toList_some, Option.toList_none, List.cons_append, List.nil_append, Nat.reduceAdd, Nat.reduceMul, Nat.reduceSub, Nat.reduceDiv, Nat.reduceMod, and_true, true_and, and_false, false_and, not_true_eq_false, not_false_eq_true, or_true, true_or, or_false, false_or, Int32.lt_irrefl, Int32.le_refl, e1, n]) only [nI_add, pk_mul, pk_sub, pk_div, znmod, nI_clamp, nIleT, nIleF, nIltT, nIltF, nIeqT, nIeqF, nIm1, nIm1q, zupE, zupN, vpT, nI_01, nI_11, ↓reduceIte, Option.bind_some, Option.toList_some, Option.toList_none, List.cons_append, List.nil_append, Nat.reduceAdd, Nat.reduceMul, Nat.reduceSub, Nat.reduceDiv, Nat.reduceMod, and_true, true_and, and_false, false_and, not_true_eq_false, not_false_eq_true, or_true, true_or, or_false, false_or, Int32.lt_irrefl, Int32.le_refl, e1, n, b187_0, b187_8, b187_16, b187_20, b187_21]
  · have n : ¬ yykd T B i = 256 + c := by
      simp only [yyS, List.contains_cons, List.contains_nil, Bool.or_false, Bool.or_eq_true, beq_iff_eq] at e; omega
    simp (disch := first | omega | simp (disch := omega) only [nI_add, pk_mul, pk_sub, pk_div, znmod, nI_clamp, nIleT, nIleF, nIltT, nIltF, nIeqT, nIeqF, nIm1, nIm1q, zupE, zupN, vpT, nI_01, nI_11, ↓reduceIte, Option.bind_some, Option.toList_some, Option.toList_none, List.cons_append, List.nil_append, Nat.reduceAdd, Nat.reduceMul, Nat.reduceSub, Nat.reduceDiv, Nat.reduceMod, and_true, true_and, and_false, false_and, not_true_eq_false, not_false_eq_true, or_true, true_or, or_false, false_or, Int32.lt_irrefl, Int32.le_refl, e1, n]) only [nI_add, pk_mul, pk_sub, pk_div, znmod, nI_clamp, nIleT, nIleF, nIltT, nIltF, nIeqT, nIeqF, nIm1, nIm1q, zupE, zupN, vpT, nI_01, nI_11, ↓reduceIte, Option.bind_some, Option.toList_some, Option.toList_none, List.cons_append, List.nil_append, Nat.reduceAdd, Nat.reduceMul, Nat.reduceSub, Nat.reduceDiv, Nat.reduceMod, and_true, true_and, and_false, false_and, not_true_eq_false, not_false_eq_true, or_true, true_or, or_false, false_or, Int32.lt_irrefl, Int32.le_refl, e1, n, b187_0, b187_8, b187_16, b187_20, b187_21]
  · have l2 := hl a ha
    by_cases n : a = c
    · subst n
      simp (disch := first | omega | simp (disch := omega) only [nI_add, pk_mul, pk_sub, pk_div, znmod, nI_clamp, nIleT, nIleF, nIltT, nIltF, nIeqT, nIeqF, nIm1, nIm1q, zupE, zupN, vpT, nI_01, nI_11, ↓reduceIte, Option.bind_some, Option.toList_some, Option.toList_none, List.cons_append, List.nil_append, Nat.reduceAdd, Nat.reduceMul, Nat.reduceSub, Nat.reduceDiv, Nat.reduceMod, and_true, true_and, and_false, false_and, not_true_eq_false, not_false_eq_true, or_true, true_or, or_false, false_or, Int32.lt_irrefl, Int32.le_refl, e1, e2, e]) only [nI_add, pk_mul, pk_sub, pk_div, znmod, nI_clamp, nIleT, nIleF, nIltT, nIltF, nIeqT, nIeqF, nIm1, nIm1q, zupE, zupN, vpT, nI_01, nI_11, ↓reduceIte, Option.bind_some, Option.toList_some, Option.toList_none, List.cons_append, List.nil_append, Nat.reduceAdd, Nat.reduceMul, Nat.reduceSub, Nat.reduceDiv, Nat.reduceMod, and_true, true_and, and_false, false_and, not_true_eq_false, not_false_eq_true, or_true, true_or, or_false, false_or, Int32.lt_irrefl, Int32.le_refl, e1, e2, e, b187_0, b187_8, b187_16, b187_20, b187_21]
    · have n1 : ¬ yykd T B i = 256 + c := by omega
      have n2 : yymc a ≠ yymc c := fun q => n (hi a ha c hc27 q)
      simp (disch := first | omega | simp (disch := omega) only [nI_add, pk_mul, pk_sub, pk_div, znmod, nI_clamp, nIleT, nIleF, nIltT, nIltF, nIeqT, nIeqF, nIm1, nIm1q, zupE, zupN, vpT, nI_01, nI_11, ↓reduceIte, Option.bind_some, Option.toList_some, Option.toList_none, List.cons_append, List.nil_append, Nat.reduceAdd, Nat.reduceMul, Nat.reduceSub, Nat.reduceDiv, Nat.reduceMod, and_true, true_and, and_false, false_and, not_true_eq_false, not_false_eq_true, or_true, true_or, or_false, false_or, Int32.lt_irrefl, Int32.le_refl, e1, e2, n1]) only [nI_add, pk_mul, pk_sub, pk_div, znmod, nI_clamp, nIleT, nIleF, nIltT, nIltF, nIeqT, nIeqF, nIm1, nIm1q, zupE, zupN, vpT, nI_01, nI_11, ↓reduceIte, Option.bind_some, Option.toList_some, Option.toList_none, List.cons_append, List.nil_append, Nat.reduceAdd, Nat.reduceMul, Nat.reduceSub, Nat.reduceDiv, Nat.reduceMod, and_true, true_and, and_false, false_and, not_true_eq_false, not_false_eq_true, or_true, true_or, or_false, false_or, Int32.lt_irrefl, Int32.le_refl, e1, e2, n1, b187_0, b187_8, b187_16, b187_20, b187_21]
  · have n : ¬ yykd T B i = 256 + c := by omega
    simp (disch := first | omega | simp (disch := omega) only [nI_add, pk_mul, pk_sub, pk_div, znmod, nI_clamp, nIleT, nIleF, nIltT, nIltF, nIeqT, nIeqF, nIm1, nIm1q, zupE, zupN, vpT, nI_01, nI_11, ↓reduceIte, Option.bind_some, Option.toList_some, Option.toList_none, List.cons_append, List.nil_append, Nat.reduceAdd, Nat.reduceMul, Nat.reduceSub, Nat.reduceDiv, Nat.reduceMod, and_true, true_and, and_false, false_and, not_true_eq_false, not_false_eq_true, or_true, true_or, or_false, false_or, Int32.lt_irrefl, Int32.le_refl, e1, n]) only [nI_add, pk_mul, pk_sub, pk_div, znmod, nI_clamp, nIleT, nIleF, nIltT, nIltF, nIeqT, nIeqF, nIm1, nIm1q, zupE, zupN, vpT, nI_01, nI_11, ↓reduceIte, Option.bind_some, Option.toList_some, Option.toList_none, List.cons_append, List.nil_append, Nat.reduceAdd, Nat.reduceMul, Nat.reduceSub, Nat.reduceDiv, Nat.reduceMod, and_true, true_and, and_false, false_and, not_true_eq_false, not_false_eq_true, or_true, true_or, or_false, false_or, Int32.lt_irrefl, Int32.le_refl, e1, n, b187_0, b187_8, b187_16, b187_20, b187_21]
theorem yTs {i c : Nat} (S : yYS T t B P H h0c h0m i hc hm) (hs : yyS c = true) (d : Nat) : zev L d 188 0 [some (.inr (.inl (12, 0, 0))), some (.inl (nI c))] [] hm = some (some (.inl (if yykd T B i = c then nI 1 else nI 0)), hm) := by
  obtain ⟨_, _, _, _, _, _, _, _, _, ⟨_, _, c3⟩, _⟩ := S
  have hs' := hs
  simp only [yyS, List.contains_cons, List.contains_nil, Bool.or_false, Bool.or_eq_true, beq_iff_eq] at hs'
  rcases c3 with ⟨e, e1⟩ | ⟨e, e1⟩ | ⟨e, e1, e2⟩ | ⟨a, ha, e, e1, e2⟩ | ⟨a, ha, e, e1, e2⟩
  · have n : ¬ yykd T B i = c := by omega
    simp (disch := first | omega | simp (disch := omega) only [nI_add, pk_mul, pk_sub, pk_div, znmod, nI_clamp, nIleT, nIleF, nIltT, nIltF, nIeqT, nIeqF, nIm1, nIm1q, zupE, zupN, vpT, nI_01, nI_11, ↓reduceIte, Option.bind_some, Option.toList_some, Option.toList_none, List.cons_append, List.nil_append, Nat.reduceAdd, Nat.reduceMul, Nat.reduceSub, Nat.reduceDiv, Nat.reduceMod, and_true, true_and, and_false, false_and, not_true_eq_false, not_false_eq_true, or_true, true_or, or_false, false_or, Int32.lt_irrefl, Int32.le_refl, e1, n]) only [nI_add, pk_mul, pk_sub, pk_div, znmod, nI_clamp, nIleT, nIleF, nIltT, nIltF, nIeqT, nIeqF, nIm1, nIm1q, zupE, zupN, vpT, nI_01, nI_11, ↓reduceIte, Option.bind_some, Option.toList_some, Option.toList_none, List.cons_append, List.nil_append, Nat.reduceAdd, Nat.reduceMul, Nat.reduceSub, Nat.reduceDiv, Nat.reduceMod, and_true, true_and, and_false, false_and, not_true_eq_false, not_false_eq_true, or_true, true_or, or_false, false_or, Int32.lt_irrefl, Int32.le_refl, e1, n, b188_0, b188_8, b188_16, b188_20, b188_21]
  · have n : ¬ yykd T B i = c := by omega
    simp (disch := first | omega | simp (disch := omega) only [nI_add, pk_mul, pk_sub, pk_div, znmod, nI_clamp, nIleT, nIleF, nIltT, nIltF, nIeqT, nIeqF, nIm1, nIm1q, zupE, zupN, vpT, nI_01, nI_11, ↓reduceIte, Option.bind_some, Option.toList_some, Option.toList_none, List.cons_append, List.nil_append, Nat.reduceAdd, Nat.reduceMul, Nat.reduceSub, Nat.reduceDiv, Nat.reduceMod, and_true, true_and, and_false, false_and, not_true_eq_false, not_false_eq_true, or_true, true_or, or_false, false_or, Int32.lt_irrefl, Int32.le_refl, e1, n]) only [nI_add, pk_mul, pk_sub, pk_div, znmod, nI_clamp, nIleT, nIleF, nIltT, nIltF, nIeqT, nIeqF, nIm1, nIm1q, zupE, zupN, vpT, nI_01, nI_11, ↓reduceIte, Option.bind_some, Option.toList_some, Option.toList_none, List.cons_append, List.nil_append, Nat.reduceAdd, Nat.reduceMul, Nat.reduceSub, Nat.reduceDiv, Nat.reduceMod, and_true, true_and, and_false, false_and, not_true_eq_false, not_false_eq_true, or_true, true_or, or_false, false_or, Int32.lt_irrefl, Int32.le_refl, e1, n, b188_0, b188_8, b188_16, b188_20, b188_21]
  · have e' := e
    simp only [yyS, List.contains_cons, List.contains_nil, Bool.or_false, Bool.or_eq_true, beq_iff_eq] at e'
    by_cases n : yykd T B i = c
    · simp (disch := first | omega | simp (disch := omega) only [nI_add, pk_mul, pk_sub, pk_div, znmod, nI_clamp, nIleT, nIleF, nIltT, nIltF, nIeqT, nIeqF, nIm1, nIm1q, zupE, zupN, vpT, nI_01, nI_11, ↓reduceIte, Option.bind_some, Option.toList_some, Option.toList_none, List.cons_append, List.nil_append, Nat.reduceAdd, Nat.reduceMul, Nat.reduceSub, Nat.reduceDiv, Nat.reduceMod, and_true, true_and, and_false, false_and, not_true_eq_false, not_false_eq_true, or_true, true_or, or_false, false_or, Int32.lt_irrefl, Int32.le_refl, e1, e2, n]) only [nI_add, pk_mul, pk_sub, pk_div, znmod, nI_clamp, nIleT, nIleF, nIltT, nIltF, nIeqT, nIeqF, nIm1, nIm1q, zupE, zupN, vpT, nI_01, nI_11, ↓reduceIte, Option.bind_some, Option.toList_some, Option.toList_none, List.cons_append, List.nil_append, Nat.reduceAdd, Nat.reduceMul, Nat.reduceSub, Nat.reduceDiv, Nat.reduceMod, and_true, true_and, and_false, false_and, not_true_eq_false, not_false_eq_true, or_true, true_or, or_false, false_or, Int32.lt_irrefl, Int32.le_refl, e1, e2, n, b188_0, b188_8, b188_16, b188_20, b188_21]
    · simp (disch := first | omega | simp (disch := omega) only [nI_add, pk_mul, pk_sub, pk_div, znmod, nI_clamp, nIleT, nIleF, nIltT, nIltF, nIeqT, nIeqF, nIm1, nIm1q, zupE, zupN, vpT, nI_01, nI_11, ↓reduceIte, Option.bind_some, Option.toList_some, Option.toList_none, List.cons_append, List.nil_append, Nat.reduceAdd, Nat.reduceMul, Nat.reduceSub, Nat.reduceDiv, Nat.reduceMod, and_true, true_and, and_false, false_and, not_true_eq_false, not_false_eq_true, or_true, true_or, or_false, false_or, Int32.lt_irrefl, Int32.le_refl, e1, e2, n]) only [nI_add, pk_mul, pk_sub, pk_div, znmod, nI_clamp, nIleT, nIleF, nIltT, nIltF, nIeqT, nIeqF, nIm1, nIm1q, zupE, zupN, vpT, nI_01, nI_11, ↓reduceIte, Option.bind_some, Option.toList_some, Option.toList_none, List.cons_append, List.nil_append, Nat.reduceAdd, Nat.reduceMul, Nat.reduceSub, Nat.reduceDiv, Nat.reduceMod, and_true, true_and, and_false, false_and, not_true_eq_false, not_false_eq_true, or_true, true_or, or_false, false_or, Int32.lt_irrefl, Int32.le_refl, e1, e2, n, b188_0, b188_8, b188_16, b188_20, b188_21]
  · have n : ¬ yykd T B i = c := by omega
    simp (disch := first | omega | simp (disch := omega) only [nI_add, pk_mul, pk_sub, pk_div, znmod, nI_clamp, nIleT, nIleF, nIltT, nIltF, nIeqT, nIeqF, nIm1, nIm1q, zupE, zupN, vpT, nI_01, nI_11, ↓reduceIte, Option.bind_some, Option.toList_some, Option.toList_none, List.cons_append, List.nil_append, Nat.reduceAdd, Nat.reduceMul, Nat.reduceSub, Nat.reduceDiv, Nat.reduceMod, and_true, true_and, and_false, false_and, not_true_eq_false, not_false_eq_true, or_true, true_or, or_false, false_or, Int32.lt_irrefl, Int32.le_refl, e1, n]) only [nI_add, pk_mul, pk_sub, pk_div, znmod, nI_clamp, nIleT, nIleF, nIltT, nIltF, nIeqT, nIeqF, nIm1, nIm1q, zupE, zupN, vpT, nI_01, nI_11, ↓reduceIte, Option.bind_some, Option.toList_some, Option.toList_none, List.cons_append, List.nil_append, Nat.reduceAdd, Nat.reduceMul, Nat.reduceSub, Nat.reduceDiv, Nat.reduceMod, and_true, true_and, and_false, false_and, not_true_eq_false, not_false_eq_true, or_true, true_or, or_false, false_or, Int32.lt_irrefl, Int32.le_refl, e1, n, b188_0, b188_8, b188_16, b188_20, b188_21]
  · have n : ¬ yykd T B i = c := by omega
    simp (disch := first | omega | simp (disch := omega) only [nI_add, pk_mul, pk_sub, pk_div, znmod, nI_clamp, nIleT, nIleF, nIltT, nIltF, nIeqT, nIeqF, nIm1, nIm1q, zupE, zupN, vpT, nI_01, nI_11, ↓reduceIte, Option.bind_some, Option.toList_some, Option.toList_none, List.cons_append, List.nil_append, Nat.reduceAdd, Nat.reduceMul, Nat.reduceSub, Nat.reduceDiv, Nat.reduceMod, and_true, true_and, and_false, false_and, not_true_eq_false, not_false_eq_true, or_true, true_or, or_false, false_or, Int32.lt_irrefl, Int32.le_refl, e1, n]) only [nI_add, pk_mul, pk_sub, pk_div, znmod, nI_clamp, nIleT, nIleF, nIltT, nIltF, nIeqT, nIeqF, nIm1, nIm1q, zupE, zupN, vpT, nI_01, nI_11, ↓reduceIte, Option.bind_some, Option.toList_some, Option.toList_none, List.cons_append, List.nil_append, Nat.reduceAdd, Nat.reduceMul, Nat.reduceSub, Nat.reduceDiv, Nat.reduceMod, and_true, true_and, and_false, false_and, not_true_eq_false, not_false_eq_true, or_true, true_or, or_false, false_or, Int32.lt_irrefl, Int32.le_refl, e1, n, b188_0, b188_8, b188_16, b188_20, b188_21]
/-- a fault here -/
def yfc_ (T : Nat) (B : Nat → Nat) (i f : Nat) (hc : zH) : zH := zup (zup hc 6 0 0 4 (nI f)) 6 0 0 5 (nI (yypl T B i))
def yfm_ (T : Nat) (B : Nat → Nat) (i f : Nat) (hm : zH) : zH := zup (zup hm 12 0 0 30 (nI f)) 12 0 0 31 (nI (yypl T B i))
theorem yFail {i f : Nat} (G : yGl T t B P H h0m) (S : yYS T t B P H h0c h0m i hc hm) : (∀ d, zev L d 60 0 [some (.inr (.inl (6, 0, 0))), some (.inl (nI f))] [] hc = some (some (.inl (nI 0)), yfc_ T B i f hc)) ∧ (∀ d, zev L d 186 0 [some (.inr (.inl (12, 0, 0))), some (.inl (nI f))] [] hm = some (some (.inl (-1)), yfm_ T B i f hm)) ∧ yYF h0c h0m (yfc_ T B i f hc) (yfm_ T B i f hm) := by
  obtain ⟨a1, a2, a3, a4, a5, a6, a7, a8, b, ⟨c1, c2, c3⟩, d1⟩ := S
  obtain ⟨g1, g2, g3, _⟩ := G
  have ep := (a4 i a1).2
  refine ⟨fun d => ?_, fun d => ?_, ?_, ?_, ?_, ?_, ?_⟩
  · unfold yfc_
    simp (disch := first | omega | simp (disch := omega) only [nI_add, pk_mul, pk_sub, pk_div, znmod, nI_clamp, nIleT, nIleF, nIltT, nIltF, nIeqT, nIeqF, nIm1, nIm1q, zupE, zupN, vpT, nI_01, nI_11, ↓reduceIte, Option.bind_some, Option.toList_some, Option.toList_none, List.cons_append, List.nil_append, Nat.reduceAdd, Nat.reduceMul, Nat.reduceSub, Nat.reduceDiv, Nat.reduceMod, and_true, true_and, and_false, false_and, not_true_eq_false, not_false_eq_true, or_true, true_or, or_false, false_or, Int32.lt_irrefl, Int32.le_refl, a2, ep]) only [nI_add, pk_mul, pk_sub, pk_div, znmod, nI_clamp, nIleT, nIleF, nIltT, nIltF, nIeqT, nIeqF, nIm1, nIm1q, zupE, zupN, vpT, nI_01, nI_11, ↓reduceIte, Option.bind_some, Option.toList_some, Option.toList_none, List.cons_append, List.nil_append, Nat.reduceAdd, Nat.reduceMul, Nat.reduceSub, Nat.reduceDiv, Nat.reduceMod, and_true, true_and, and_false, false_and, not_true_eq_false, not_false_eq_true, or_true, true_or, or_false, false_or, Int32.lt_irrefl, Int32.le_refl, a2, ep, b60_0, b60_5, b60_21]
  · unfold yfm_
    simp (disch := first | omega | simp (disch := omega) only [nI_add, pk_mul, pk_sub, pk_div, znmod, nI_clamp, nIleT, nIleF, nIltT, nIltF, nIeqT, nIeqF, nIm1, nIm1q, zupE, zupN, vpT, nI_01, nI_11, ↓reduceIte, Option.bind_some, Option.toList_some, Option.toList_none, List.cons_append, List.nil_append, Nat.reduceAdd, Nat.reduceMul, Nat.reduceSub, Nat.reduceDiv, Nat.reduceMod, and_true, true_and, and_false, false_and, not_true_eq_false, not_false_eq_true, or_true, true_or, or_false, false_or, Int32.lt_irrefl, Int32.le_refl, c2]) only [nI_add, pk_mul, pk_sub, pk_div, znmod, nI_clamp, nIleT, nIleF, nIltT, nIltF, nIeqT, nIeqF, nIm1, nIm1q, zupE, zupN, vpT, nI_01, nI_11, ↓reduceIte, Option.bind_some, Option.toList_some, Option.toList_none, List.cons_append, List.nil_append, Nat.reduceAdd, Nat.reduceMul, Nat.reduceSub, Nat.reduceDiv, Nat.reduceMod, and_true, true_and, and_false, false_and, not_true_eq_false, not_false_eq_true, or_true, true_or, or_false, false_or, Int32.lt_irrefl, Int32.le_refl, c2, b186_0, b186_5, b186_13]
  · unfold yfc_; exact yFC_u (yFC_u a7 (Or.inl ⟨rfl, rfl⟩)) (Or.inl ⟨rfl, rfl⟩)
  · unfold yfm_; exact yFM_u (yFM_u d1 (Or.inl (by omega))) (Or.inl (by omega))
  · unfold yfm_ yfc_; rw [zupN (by omega), zupE (by omega), zupN (by omega), zupE (by omega)]
  · unfold yfm_ yfc_; rw [zupE (by omega), zupE (by omega)]
  · unfold yfc_; rw [zupN (by omega), zupN (by omega)]; exact a8
theorem yYS_b {i : Nat} (S : yYS T t B P H h0c h0m i hc hm) : yykd T B i < 11000 := by
  obtain ⟨_, _, _, _, _, _, _, _, _, ⟨_, _, c3⟩, _⟩ := S
  rcases c3 with ⟨e, _⟩ | ⟨e, _⟩ | ⟨e, _⟩ | ⟨c, hc, e, _⟩ | ⟨c, hc, e, _⟩
  · omega
  · omega
  · simp only [yyS, List.contains_cons, List.contains_nil, Bool.or_false, Bool.or_eq_true, beq_iff_eq] at e; omega
  · omega
  · omega
/-- the class goes over a word or a sign -/
theorem yPass {i K : Nat} (G : yGl T t B P H h0m) (S : yYS T t B P H h0c h0m i hc hm) (hK : K ≠ 0) (hK2 : K < 11000) (d : Nat) : zev L (d + 1) 61 0 [some (.inr (.inl (6, 0, 0))), some (.inl (nI K))] [] hc = if yykd T B i = K then some (some (.inl (nI 1)), yNx T B i hc) else some (some (.inl (nI 0)), yfc_ T B i 1 hc) := by
  have b := yYS_b S
  have a3 := S.2.2.1
  obtain ⟨f1, _⟩ := yFail (L := L) (f := 1) G S
  by_cases c : yykd T B i = K
  · obtain ⟨hm', n1, _⟩ := yNext (L := L) G S (by omega)
    rw [if_pos c]
    simp (disch := first | omega | simp (disch := omega) only [nI_add, pk_mul, pk_sub, pk_div, znmod, nI_clamp, nIleT, nIleF, nIltT, nIltF, nIeqT, nIeqF, nIm1, nIm1q, zupE, zupN, vpT, nI_01, nI_11, ↓reduceIte, Option.bind_some, Option.toList_some, Option.toList_none, List.cons_append, List.nil_append, Nat.reduceAdd, Nat.reduceMul, Nat.reduceSub, Nat.reduceDiv, Nat.reduceMod, and_true, true_and, and_false, false_and, not_true_eq_false, not_false_eq_true, or_true, true_or, or_false, false_or, Int32.lt_irrefl, Int32.le_refl, a3, c, n1]) only [nI_add, pk_mul, pk_sub, pk_div, znmod, nI_clamp, nIleT, nIleF, nIltT, nIltF, nIeqT, nIeqF, nIm1, nIm1q, zupE, zupN, vpT, nI_01, nI_11, ↓reduceIte, Option.bind_some, Option.toList_some, Option.toList_none, List.cons_append, List.nil_append, Nat.reduceAdd, Nat.reduceMul, Nat.reduceSub, Nat.reduceDiv, Nat.reduceMod, and_true, true_and, and_false, false_and, not_true_eq_false, not_false_eq_true, or_true, true_or, or_false, false_or, Int32.lt_irrefl, Int32.le_refl, a3, c, n1, b61_0, b61_8, b61_13, b61_14, b61_18]
  · rw [if_neg c]
    simp (disch := first | omega | simp (disch := omega) only [nI_add, pk_mul, pk_sub, pk_div, znmod, nI_clamp, nIleT, nIleF, nIltT, nIltF, nIeqT, nIeqF, nIm1, nIm1q, zupE, zupN, vpT, nI_01, nI_11, ↓reduceIte, Option.bind_some, Option.toList_some, Option.toList_none, List.cons_append, List.nil_append, Nat.reduceAdd, Nat.reduceMul, Nat.reduceSub, Nat.reduceDiv, Nat.reduceMod, and_true, true_and, and_false, false_and, not_true_eq_false, not_false_eq_true, or_true, true_or, or_false, false_or, Int32.lt_irrefl, Int32.le_refl, a3, f1]) only [nI_add, pk_mul, pk_sub, pk_div, znmod, nI_clamp, nIleT, nIleF, nIltT, nIltF, nIeqT, nIeqF, nIm1, nIm1q, zupE, zupN, vpT, nI_01, nI_11, ↓reduceIte, Option.bind_some, Option.toList_some, Option.toList_none, List.cons_append, List.nil_append, Nat.reduceAdd, Nat.reduceMul, Nat.reduceSub, Nat.reduceDiv, Nat.reduceMod, and_true, true_and, and_false, false_and, not_true_eq_false, not_false_eq_true, or_true, true_or, or_false, false_or, Int32.lt_irrefl, Int32.le_refl, a3, f1, b61_0, b61_8, b61_13, b61_14, b61_18]
/-- a number's bounds, as both test them -/
theorem yTake {i w n : Nat} {lo hi : Int32} (G : yGl T t B P H h0m) (S : yYS T t B P H h0c h0m i hc hm) (hn : n < 16) (en : hc 2 8 0 2 = nI n) (hw : w < 5) :
    (∃ v hm', v < 10000 ∧ lo ≤ nI v ∧ nI v ≤ hi ∧ yykd T B i = 1000 + v ∧ (∀ d, zev L (d + 2) 63 0 [some (.inr (.inl (6, 0, 0))), some (.inl (nI w)), some (.inl lo), some (.inl hi), none] [] hc = some (some (.inl (nI 1)), yNx T B i (zup hc 2 8 1 (5 * n + w) (nI v)))) ∧ (∀ d, zev L (d + 3) 201 0 [some (.inr (.inl (12, 0, 0))), some (.inl lo), some (.inl hi), none] [] hm = some (some (.inl (nI v)), hm')) ∧ yYS T t B P H h0c h0m (i + 1) (yNx T B i (zup hc 2 8 1 (5 * n + w) (nI v))) hm' ∧ yyF hm hm') ∨
    (∃ f, (∀ d, zev L (d + 2) 63 0 [some (.inr (.inl (6, 0, 0))), some (.inl (nI w)), some (.inl lo), some (.inl hi), none] [] hc = some (some (.inl (nI 0)), yfc_ T B i f hc)) ∧ (∀ d, zev L (d + 3) 201 0 [some (.inr (.inl (12, 0, 0))), some (.inl lo), some (.inl hi), none] [] hm = some (some (.inl (-1)), yfm_ T B i f hm)) ∧ yYF h0c h0m (yfc_ T B i f hc) (yfm_ T B i f hm)) := by
  have a3 := S.2.2.1
  have b := yYS_b S
  have cc := S
  obtain ⟨_, _, _, _, _, _, _, _, _, ⟨_, _, c3⟩, _⟩ := cc
  by_cases c : ∃ v, v < 10000 ∧ yykd T B i = 1000 + v
  · obtain ⟨v, hv, ev⟩ := c
    have tv : hm 12 0 0 15 = nI 3 ∧ hm 12 0 0 16 = nI v := by
      rcases c3 with ⟨e, _⟩ | ⟨e, _⟩ | ⟨e, _⟩ | ⟨c, hc, e, _⟩ | ⟨c, hc, e, e1, e2⟩
      · omega
      · omega
      · simp only [yyS, List.contains_cons, List.contains_nil, Bool.or_false, Bool.or_eq_true, beq_iff_eq] at e; omega
      · omega
      · have : c = v := by omega
        subst this
        exact ⟨e1, e2⟩
    obtain ⟨t1, t2⟩ := tv
    rw [ev] at a3
    have e0 : nI (1000 + v) - nI 1000 = nI v := by rw [pk_sub (by omega), Nat.add_sub_cancel_left]
    by_cases b1 : lo ≤ nI v ∧ nI v ≤ hi
    · have S1 := yYS_c (s := 1) (j := 5 * n + w) (v := nI v) S (by omega)
      obtain ⟨hm', n1, n2, n3, n4, n5⟩ := yNext (L := L) G S1 (by omega)
      have b2 : ¬ nI v < lo := Int32.not_lt.mpr b1.1
      have b3 := b1.2
      have em : n * 5 + w = 5 * n + w := by omega
      refine Or.inl ⟨v, hm', hv, b1.1, b1.2, ev, fun d => ?_, fun d => ?_, n3, n4⟩
      · simp (disch := first | omega | simp (disch := omega) only [nI_add, pk_mul, pk_sub, pk_div, znmod, nI_clamp, nIleT, nIleF, nIltT, nIltF, nIeqT, nIeqF, nIm1, nIm1q, zupE, zupN, vpT, nI_01, nI_11, ↓reduceIte, Option.bind_some, Option.toList_some, Option.toList_none, List.cons_append, List.nil_append, Nat.reduceAdd, Nat.reduceMul, Nat.reduceSub, Nat.reduceDiv, Nat.reduceMod, and_true, true_and, and_false, false_and, not_true_eq_false, not_false_eq_true, or_true, true_or, or_false, false_or, Int32.lt_irrefl, Int32.le_refl, a3, e0, b2, b3, en, em, n1]) only [nI_add, pk_mul, pk_sub, pk_div, znmod, nI_clamp, nIleT, nIleF, nIltT, nIltF, nIeqT, nIeqF, nIm1, nIm1q, zupE, zupN, vpT, nI_01, nI_11, ↓reduceIte, Option.bind_some, Option.toList_some, Option.toList_none, List.cons_append, List.nil_append, Nat.reduceAdd, Nat.reduceMul, Nat.reduceSub, Nat.reduceDiv, Nat.reduceMod, and_true, true_and, and_false, false_and, not_true_eq_false, not_false_eq_true, or_true, true_or, or_false, false_or, Int32.lt_irrefl, Int32.le_refl, a3, e0, b2, b3, en, em, n1, b63_0, b63_10, b63_15, b63_16, b63_32, b63_38, b63_43, b63_44, b63_54, b63_58, b20_0, b20_9, b20_23]
      · simp (disch := first | omega | simp (disch := omega) only [nI_add, pk_mul, pk_sub, pk_div, znmod, nI_clamp, nIleT, nIleF, nIltT, nIltF, nIeqT, nIeqF, nIm1, nIm1q, zupE, zupN, vpT, nI_01, nI_11, ↓reduceIte, Option.bind_some, Option.toList_some, Option.toList_none, List.cons_append, List.nil_append, Nat.reduceAdd, Nat.reduceMul, Nat.reduceSub, Nat.reduceDiv, Nat.reduceMod, and_true, true_and, and_false, false_and, not_true_eq_false, not_false_eq_true, or_true, true_or, or_false, false_or, Int32.lt_irrefl, Int32.le_refl, t1, t2, mIn, b1, n2]) only [nI_add, pk_mul, pk_sub, pk_div, znmod, nI_clamp, nIleT, nIleF, nIltT, nIltF, nIeqT, nIeqF, nIm1, nIm1q, zupE, zupN, vpT, nI_01, nI_11, ↓reduceIte, Option.bind_some, Option.toList_some, Option.toList_none, List.cons_append, List.nil_append, Nat.reduceAdd, Nat.reduceMul, Nat.reduceSub, Nat.reduceDiv, Nat.reduceMod, and_true, true_and, and_false, false_and, not_true_eq_false, not_false_eq_true, or_true, true_or, or_false, false_or, Int32.lt_irrefl, Int32.le_refl, t1, t2, mIn, b1, n2, b201_0, b201_8, b201_13, b201_14, b201_24, b201_27, b201_32, b201_33, b201_42]
    · obtain ⟨f1, f2, f3⟩ := yFail (L := L) (f := 2) G S
      refine Or.inr ⟨2, fun d => ?_, fun d => ?_, f3⟩
      · by_cases b2 : nI v < lo
        · simp (disch := first | omega | simp (disch := omega) only [nI_add, pk_mul, pk_sub, pk_div, znmod, nI_clamp, nIleT, nIleF, nIltT, nIltF, nIeqT, nIeqF, nIm1, nIm1q, zupE, zupN, vpT, nI_01, nI_11, ↓reduceIte, Option.bind_some, Option.toList_some, Option.toList_none, List.cons_append, List.nil_append, Nat.reduceAdd, Nat.reduceMul, Nat.reduceSub, Nat.reduceDiv, Nat.reduceMod, and_true, true_and, and_false, false_and, not_true_eq_false, not_false_eq_true, or_true, true_or, or_false, false_or, Int32.lt_irrefl, Int32.le_refl, a3, e0, b2, f1]) only [nI_add, pk_mul, pk_sub, pk_div, znmod, nI_clamp, nIleT, nIleF, nIltT, nIltF, nIeqT, nIeqF, nIm1, nIm1q, zupE, zupN, vpT, nI_01, nI_11, ↓reduceIte, Option.bind_some, Option.toList_some, Option.toList_none, List.cons_append, List.nil_append, Nat.reduceAdd, Nat.reduceMul, Nat.reduceSub, Nat.reduceDiv, Nat.reduceMod, and_true, true_and, and_false, false_and, not_true_eq_false, not_false_eq_true, or_true, true_or, or_false, false_or, Int32.lt_irrefl, Int32.le_refl, a3, e0, b2, f1, b63_0, b63_10, b63_15, b63_16, b63_32, b63_38, b63_43, b63_44, b63_54, b63_58]
        · have b3 : ¬ nI v ≤ hi := fun q => b1 ⟨Int32.not_lt.mp b2, q⟩
          simp (disch := first | omega | simp (disch := omega) only [nI_add, pk_mul, pk_sub, pk_div, znmod, nI_clamp, nIleT, nIleF, nIltT, nIltF, nIeqT, nIeqF, nIm1, nIm1q, zupE, zupN, vpT, nI_01, nI_11, ↓reduceIte, Option.bind_some, Option.toList_some, Option.toList_none, List.cons_append, List.nil_append, Nat.reduceAdd, Nat.reduceMul, Nat.reduceSub, Nat.reduceDiv, Nat.reduceMod, and_true, true_and, and_false, false_and, not_true_eq_false, not_false_eq_true, or_true, true_or, or_false, false_or, Int32.lt_irrefl, Int32.le_refl, a3, e0, b2, b3, f1]) only [nI_add, pk_mul, pk_sub, pk_div, znmod, nI_clamp, nIleT, nIleF, nIltT, nIltF, nIeqT, nIeqF, nIm1, nIm1q, zupE, zupN, vpT, nI_01, nI_11, ↓reduceIte, Option.bind_some, Option.toList_some, Option.toList_none, List.cons_append, List.nil_append, Nat.reduceAdd, Nat.reduceMul, Nat.reduceSub, Nat.reduceDiv, Nat.reduceMod, and_true, true_and, and_false, false_and, not_true_eq_false, not_false_eq_true, or_true, true_or, or_false, false_or, Int32.lt_irrefl, Int32.le_refl, a3, e0, b2, b3, f1, b63_0, b63_10, b63_15, b63_16, b63_32, b63_38, b63_43, b63_44, b63_54, b63_58]
      · simp (disch := first | omega | simp (disch := omega) only [nI_add, pk_mul, pk_sub, pk_div, znmod, nI_clamp, nIleT, nIleF, nIltT, nIltF, nIeqT, nIeqF, nIm1, nIm1q, zupE, zupN, vpT, nI_01, nI_11, ↓reduceIte, Option.bind_some, Option.toList_some, Option.toList_none, List.cons_append, List.nil_append, Nat.reduceAdd, Nat.reduceMul, Nat.reduceSub, Nat.reduceDiv, Nat.reduceMod, and_true, true_and, and_false, false_and, not_true_eq_false, not_false_eq_true, or_true, true_or, or_false, false_or, Int32.lt_irrefl, Int32.le_refl, t1, t2, mIn, b1, f2]) only [nI_add, pk_mul, pk_sub, pk_div, znmod, nI_clamp, nIleT, nIleF, nIltT, nIltF, nIeqT, nIeqF, nIm1, nIm1q, zupE, zupN, vpT, nI_01, nI_11, ↓reduceIte, Option.bind_some, Option.toList_some, Option.toList_none, List.cons_append, List.nil_append, Nat.reduceAdd, Nat.reduceMul, Nat.reduceSub, Nat.reduceDiv, Nat.reduceMod, and_true, true_and, and_false, false_and, not_true_eq_false, not_false_eq_true, or_true, true_or, or_false, false_or, Int32.lt_irrefl, Int32.le_refl, t1, t2, mIn, b1, f2, b201_0, b201_8, b201_13, b201_14, b201_24, b201_27, b201_32, b201_33, b201_42]
  · obtain ⟨f1, f2, f3⟩ := yFail (L := L) (f := 1) G S
    have k1 : yykd T B i < 1000 := by
      apply Classical.byContradiction
      intro q
      exact c ⟨yykd T B i - 1000, by omega, by omega⟩
    have t1 : ∃ x, x < 5 ∧ x ≠ 3 ∧ hm 12 0 0 15 = nI x := by
      rcases c3 with ⟨e, e1⟩ | ⟨e, e1⟩ | ⟨e, e1, _⟩ | ⟨c, hc, e, e1, _⟩ | ⟨c, hc, e, e1, e2⟩
      · exact ⟨0, by omega, by omega, e1⟩
      · exact ⟨1, by omega, by omega, e1⟩
      · exact ⟨4, by omega, by omega, e1⟩
      · exact ⟨2, by omega, by omega, e1⟩
      · omega
    obtain ⟨x, x1, x2, x3⟩ := t1
    refine Or.inr ⟨1, fun d => ?_, fun d => ?_, f3⟩
    · simp (disch := first | omega | simp (disch := omega) only [nI_add, pk_mul, pk_sub, pk_div, znmod, nI_clamp, nIleT, nIleF, nIltT, nIltF, nIeqT, nIeqF, nIm1, nIm1q, zupE, zupN, vpT, nI_01, nI_11, ↓reduceIte, Option.bind_some, Option.toList_some, Option.toList_none, List.cons_append, List.nil_append, Nat.reduceAdd, Nat.reduceMul, Nat.reduceSub, Nat.reduceDiv, Nat.reduceMod, and_true, true_and, and_false, false_and, not_true_eq_false, not_false_eq_true, or_true, true_or, or_false, false_or, Int32.lt_irrefl, Int32.le_refl, a3, f1]) only [nI_add, pk_mul, pk_sub, pk_div, znmod, nI_clamp, nIleT, nIleF, nIltT, nIltF, nIeqT, nIeqF, nIm1, nIm1q, zupE, zupN, vpT, nI_01, nI_11, ↓reduceIte, Option.bind_some, Option.toList_some, Option.toList_none, List.cons_append, List.nil_append, Nat.reduceAdd, Nat.reduceMul, Nat.reduceSub, Nat.reduceDiv, Nat.reduceMod, and_true, true_and, and_false, false_and, not_true_eq_false, not_false_eq_true, or_true, true_or, or_false, false_or, Int32.lt_irrefl, Int32.le_refl, a3, f1, b63_0, b63_10, b63_15, b63_16, b63_32, b63_38, b63_43, b63_44, b63_54, b63_58]
    · simp (disch := first | omega | simp (disch := omega) only [nI_add, pk_mul, pk_sub, pk_div, znmod, nI_clamp, nIleT, nIleF, nIltT, nIltF, nIeqT, nIeqF, nIm1, nIm1q, zupE, zupN, vpT, nI_01, nI_11, ↓reduceIte, Option.bind_some, Option.toList_some, Option.toList_none, List.cons_append, List.nil_append, Nat.reduceAdd, Nat.reduceMul, Nat.reduceSub, Nat.reduceDiv, Nat.reduceMod, and_true, true_and, and_false, false_and, not_true_eq_false, not_false_eq_true, or_true, true_or, or_false, false_or, Int32.lt_irrefl, Int32.le_refl, x3, f2]) only [nI_add, pk_mul, pk_sub, pk_div, znmod, nI_clamp, nIleT, nIleF, nIltT, nIltF, nIeqT, nIeqF, nIm1, nIm1q, zupE, zupN, vpT, nI_01, nI_11, ↓reduceIte, Option.bind_some, Option.toList_some, Option.toList_none, List.cons_append, List.nil_append, Nat.reduceAdd, Nat.reduceMul, Nat.reduceSub, Nat.reduceDiv, Nat.reduceMod, and_true, true_and, and_false, false_and, not_true_eq_false, not_false_eq_true, or_true, true_or, or_false, false_or, Int32.lt_irrefl, Int32.le_refl, x3, f2, b201_0, b201_8, b201_13, b201_14, b201_24, b201_27, b201_32, b201_33, b201_42]
/-- a word, then a number -/
theorem yTold {i w n c : Nat} {lo hi : Int32} (G : yGl T t B P H h0m) (S : yYS T t B P H h0c h0m i hc hm) (hn : n < 16) (en : hc 2 8 0 2 = nI n) (hw : w < 5) (hc27 : c < 27) :
    (∃ v hm', v < 10000 ∧ lo ≤ nI v ∧ nI v ≤ hi ∧ (∀ d, zev L (d + 1) 61 0 [some (.inr (.inl (6, 0, 0))), some (.inl (nI (256+c)))] [] hc = some (some (.inl (nI 1)), yNx T B i hc)) ∧ (∀ d, zev L (d + 2) 63 0 [some (.inr (.inl (6, 0, 0))), some (.inl (nI w)), some (.inl lo), some (.inl hi), none] [] (yNx T B i hc) = some (some (.inl (nI 1)), yNx T B (i + 1) (zup (yNx T B i hc) 2 8 1 (5 * n + w) (nI v)))) ∧ (∀ d, zev L (d + 4) 203 0 [some (.inr (.inl (12, 0, 0))), some (.inl (nI (yymc c))), some (.inl lo), some (.inl hi)] [] hm = some (some (.inl (nI v)), hm')) ∧ yYS T t B P H h0c h0m (i + 2) (yNx T B (i + 1) (zup (yNx T B i hc) 2 8 1 (5 * n + w) (nI v))) hm' ∧ yyF hm hm') ∨
    (∃ g g', (∀ d, zev L (d + 1) 61 0 [some (.inr (.inl (6, 0, 0))), some (.inl (nI (256+c)))] [] hc = some (some (.inl (nI 0)), g)) ∧ (∀ d, zev L (d + 4) 203 0 [some (.inr (.inl (12, 0, 0))), some (.inl (nI (yymc c))), some (.inl lo), some (.inl hi)] [] hm = some (some (.inl (-1)), g')) ∧ yYF h0c h0m g g') ∨
    (∃ g g', (∀ d, zev L (d + 1) 61 0 [some (.inr (.inl (6, 0, 0))), some (.inl (nI (256+c)))] [] hc = some (some (.inl (nI 1)), yNx T B i hc)) ∧ (∀ d, zev L (d + 2) 63 0 [some (.inr (.inl (6, 0, 0))), some (.inl (nI w)), some (.inl lo), some (.inl hi), none] [] (yNx T B i hc) = some (some (.inl (nI 0)), g)) ∧ (∀ d, zev L (d + 4) 203 0 [some (.inr (.inl (12, 0, 0))), some (.inl (nI (yymc c))), some (.inl lo), some (.inl hi)] [] hm = some (some (.inl (-1)), g')) ∧ yYF h0c h0m g g') := by
  have kp := fun d => yPass (L := L) (K := 256 + c) G S (by omega) (by omega) d
  have mw := fun d => yTw (L := L) (c := c) S hc27 d
  by_cases e : yykd T B i = 256 + c
  · simp only [if_pos e] at kp mw
    obtain ⟨hm1, n1, n2, n3, n4, n5⟩ := yNext (L := L) G S (by omega)
    have en1 : (yNx T B i hc) 2 8 0 2 = nI n := by unfold yNx; rw [zupN (by omega), zupN (by omega)]; exact en
    rcases yTake (L := L) (w := w) (lo := lo) (hi := hi) G n3 hn en1 hw with ⟨v, hm', v1, v2, v3, _, v4, v5, v6, v7⟩ | ⟨f, v4, v5, v6⟩
    · refine Or.inl ⟨v, hm', v1, v2, v3, kp, v4, fun d => ?_, v6, yyF_t n4 v7⟩
      simp (disch := first | omega | simp (disch := omega) only [nI_add, pk_mul, pk_sub, pk_div, znmod, nI_clamp, nIleT, nIleF, nIltT, nIltF, nIeqT, nIeqF, nIm1, nIm1q, zupE, zupN, vpT, nI_01, nI_11, ↓reduceIte, Option.bind_some, Option.toList_some, Option.toList_none, List.cons_append, List.nil_append, Nat.reduceAdd, Nat.reduceMul, Nat.reduceSub, Nat.reduceDiv, Nat.reduceMod, and_true, true_and, and_false, false_and, not_true_eq_false, not_false_eq_true, or_true, true_or, or_false, false_or, Int32.lt_irrefl, Int32.le_refl, mw, n2, v5]) only [nI_add, pk_mul, pk_sub, pk_div, znmod, nI_clamp, nIleT, nIleF, nIltT, nIltF, nIeqT, nIeqF, nIm1, nIm1q, zupE, zupN, vpT, nI_01, nI_11, ↓reduceIte, Option.bind_some, Option.toList_some, Option.toList_none, List.cons_append, List.nil_append, Nat.reduceAdd, Nat.reduceMul, Nat.reduceSub, Nat.reduceDiv, Nat.reduceMod, and_true, true_and, and_false, false_and, not_true_eq_false, not_false_eq_true, or_true, true_or, or_false, false_or, Int32.lt_irrefl, Int32.le_refl, mw, n2, v5, b203_0, b203_5, b203_8, b203_13, b203_14, b203_18, b203_24]
    · refine Or.inr (Or.inr ⟨_, _, kp, v4, fun d => ?_, v6⟩)
      simp (disch := first | omega | simp (disch := omega) only [nI_add, pk_mul, pk_sub, pk_div, znmod, nI_clamp, nIleT, nIleF, nIltT, nIltF, nIeqT, nIeqF, nIm1, nIm1q, zupE, zupN, vpT, nI_01, nI_11, ↓reduceIte, Option.bind_some, Option.toList_some, Option.toList_none, List.cons_append, List.nil_append, Nat.reduceAdd, Nat.reduceMul, Nat.reduceSub, Nat.reduceDiv, Nat.reduceMod, and_true, true_and, and_false, false_and, not_true_eq_false, not_false_eq_true, or_true, true_or, or_false, false_or, Int32.lt_irrefl, Int32.le_refl, mw, n2, v5]) only [nI_add, pk_mul, pk_sub, pk_div, znmod, nI_clamp, nIleT, nIleF, nIltT, nIltF, nIeqT, nIeqF, nIm1, nIm1q, zupE, zupN, vpT, nI_01, nI_11, ↓reduceIte, Option.bind_some, Option.toList_some, Option.toList_none, List.cons_append, List.nil_append, Nat.reduceAdd, Nat.reduceMul, Nat.reduceSub, Nat.reduceDiv, Nat.reduceMod, and_true, true_and, and_false, false_and, not_true_eq_false, not_false_eq_true, or_true, true_or, or_false, false_or, Int32.lt_irrefl, Int32.le_refl, mw, n2, v5, b203_0, b203_5, b203_8, b203_13, b203_14, b203_18, b203_24]
  · simp only [if_neg e] at kp mw
    obtain ⟨f1, f2, f3⟩ := yFail (L := L) (f := 1) G S
    refine Or.inr (Or.inl ⟨_, _, kp, fun d => ?_, f3⟩)
    simp (disch := first | omega | simp (disch := omega) only [nI_add, pk_mul, pk_sub, pk_div, znmod, nI_clamp, nIleT, nIleF, nIltT, nIltF, nIeqT, nIeqF, nIm1, nIm1q, zupE, zupN, vpT, nI_01, nI_11, ↓reduceIte, Option.bind_some, Option.toList_some, Option.toList_none, List.cons_append, List.nil_append, Nat.reduceAdd, Nat.reduceMul, Nat.reduceSub, Nat.reduceDiv, Nat.reduceMod, and_true, true_and, and_false, false_and, not_true_eq_false, not_false_eq_true, or_true, true_or, or_false, false_or, Int32.lt_irrefl, Int32.le_refl, mw, f2]) only [nI_add, pk_mul, pk_sub, pk_div, znmod, nI_clamp, nIleT, nIleF, nIltT, nIltF, nIeqT, nIeqF, nIm1, nIm1q, zupE, zupN, vpT, nI_01, nI_11, ↓reduceIte, Option.bind_some, Option.toList_some, Option.toList_none, List.cons_append, List.nil_append, Nat.reduceAdd, Nat.reduceMul, Nat.reduceSub, Nat.reduceDiv, Nat.reduceMod, and_true, true_and, and_false, false_and, not_true_eq_false, not_false_eq_true, or_true, true_or, or_false, false_or, Int32.lt_irrefl, Int32.le_refl, mw, f2, b203_0, b203_5, b203_8, b203_13, b203_14, b203_18, b203_24]
end TK
