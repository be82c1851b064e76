/-! text: the reference reads a token -/
theorem yzz : ∀ i, i < 140 → zWDM.getD i 0 < 128 := by decide +kernel
theorem ywd_s (i : Nat) : zWDM.getD i 0 < 2 ^ 31 := by
  by_cases h : i < 140
  · exact Nat.lt_trans (yzz i h) (by omega)
  · rw [List.getD_eq_getElem?_getD, List.getElem?_eq_none (show zWDM.length ≤ i by show 140 ≤ i; omega)]
    decide
theorem yysg_n {B : Nat → Nat} : ∀ {n a : Nat}, (∀ j, a ≤ j → j < a + n → B j ≠ 32) → ∀ c, c ∈ yysg B a n → c ≠ 32
  | 0, a, _, c, h => by cases h
  | n + 1, a, hj, c, h => by
    rw [yysg, List.mem_cons] at h
    rcases h with rfl | h
    · exact hj a (Nat.le_refl a) (by omega)
    · exact yysg_n (fun j h1 h2 => hj j (by omega) (by omega)) c h
section LM
variable {L : Nat} {g : zH} {T : Nat} {B : Nat → Nat}
/-- the reference's tape -/
def yyM (T : Nat) (B : Nat → Nat) (g : zH) : Prop := T ≤ 400 ∧ g 12 0 0 12 = nI T ∧ (∀ j, j < T → g 12 0 12 j = nI (B j) ∧ B j < 256) ∧ ∀ j, j < 140 → g 12 0 18 j = nI (zWDM.getD j 0)
def yyrw (T : Nat) (B : Nat → Nat) (k : Nat) : Int32 := if k < T then nI (B k) else (-1)
theorem m180 {d k : Nat} (hM : yyM T B g) (hk : k < 2 ^ 20) : zev L d 180 0 [some (.inr (.inl (12, 0, 0))), some (.inl (nI k))] [] g = some (some (.inl (yyrw T B k)), g) := by
  obtain ⟨hT, e12, hB, _⟩ := hM
  unfold yyrw
  by_cases c : k < T
  · have := (hB k c).1
    simp (disch := first | omega | simp (disch := omega) only [nI_add, pk_mul, pk_sub, pk_div, znmod, nI_clamp, nIleT, nIleF, nIltT, nIltF, nIeqT, nIeqF, nIm1, nIm1q, zupE, zupN, vpT, nI_01, nI_11, ↓reduceIte, Option.bind_some, Option.toList_some, Option.toList_none, List.cons_append, List.nil_append, Nat.reduceAdd, Nat.reduceMul, Nat.reduceSub, Nat.reduceDiv, Nat.reduceMod, and_true, true_and, and_false, false_and, not_true_eq_false, not_false_eq_true, or_true, true_or, or_false, false_or, Int32.lt_irrefl, Int32.le_refl, e12, this, c]) only [nI_add, pk_mul, pk_sub, pk_div, znmod, nI_clamp, nIleT, nIleF, nIltT, nIltF, nIeqT, nIeqF, nIm1, nIm1q, zupE, zupN, vpT, nI_01, nI_11, ↓reduceIte, Option.bind_some, Option.toList_some, Option.toList_none, List.cons_append, List.nil_append, Nat.reduceAdd, Nat.reduceMul, Nat.reduceSub, Nat.reduceDiv, Nat.reduceMod, and_true, true_and, and_false, false_and, not_true_eq_false, not_false_eq_true, or_true, true_or, or_false, false_or, Int32.lt_irrefl, Int32.le_refl, e12, this, c, b180_0, b180_8, b180_17, b180_18]
  · simp (disch := first | omega | simp (disch := omega) only [nI_add, pk_mul, pk_sub, pk_div, znmod, nI_clamp, nIleT, nIleF, nIltT, nIltF, nIeqT, nIeqF, nIm1, nIm1q, zupE, zupN, vpT, nI_01, nI_11, ↓reduceIte, Option.bind_some, Option.toList_some, Option.toList_none, List.cons_append, List.nil_append, Nat.reduceAdd, Nat.reduceMul, Nat.reduceSub, Nat.reduceDiv, Nat.reduceMod, and_true, true_and, and_false, false_and, not_true_eq_false, not_false_eq_true, or_true, true_or, or_false, false_or, Int32.lt_irrefl, Int32.le_refl, e12, c]) only [nI_add, pk_mul, pk_sub, pk_div, znmod, nI_clamp, nIleT, nIleF, nIltT, nIltF, nIeqT, nIeqF, nIm1, nIm1q, zupE, zupN, vpT, nI_01, nI_11, ↓reduceIte, Option.bind_some, Option.toList_some, Option.toList_none, List.cons_append, List.nil_append, Nat.reduceAdd, Nat.reduceMul, Nat.reduceSub, Nat.reduceDiv, Nat.reduceMod, and_true, true_and, and_false, false_and, not_true_eq_false, not_false_eq_true, or_true, true_or, or_false, false_or, Int32.lt_irrefl, Int32.le_refl, e12, c, b180_0, b180_8, b180_17, b180_18]
theorem m181 {d x : Nat} (hx : x < 256) : zev L (d + 1) 181 0 [some (.inr (.inl (12, 0, 0))), some (.inl (nI x))] [] g = some (some (.inl (nI (yyL x).toNat)), g) := by
  cases h : yyL x
  · rw [yyL_f] at h
    have h1 : ¬ (nI 97 ≤ nI x ∧ nI x ≤ nI 122) := fun ⟨p, q⟩ => by rw [nI_leI (by omega) (by omega)] at p q; omega
    have h2 : ¬ (nI 65 ≤ nI x ∧ nI x ≤ nI 90) := fun ⟨p, q⟩ => by rw [nI_leI (by omega) (by omega)] at p q; omega
    simp (disch := first | omega | simp (disch := omega) only [nI_add, pk_mul, pk_sub, pk_div, znmod, nI_clamp, nIleT, nIleF, nIltT, nIltF, nIeqT, nIeqF, nIm1, nIm1q, zupE, zupN, vpT, nI_01, nI_11, ↓reduceIte, Option.bind_some, Option.toList_some, Option.toList_none, List.cons_append, List.nil_append, Nat.reduceAdd, Nat.reduceMul, Nat.reduceSub, Nat.reduceDiv, Nat.reduceMod, and_true, true_and, and_false, false_and, not_true_eq_false, not_false_eq_true, or_true, true_or, or_false, false_or, Int32.lt_irrefl, Int32.le_refl, mIn, h1, h2, Bool.toNat_false]) only [nI_add, pk_mul, pk_sub, pk_div, znmod, nI_clamp, nIleT, nIleF, nIltT, nIltF, nIeqT, nIeqF, nIm1, nIm1q, zupE, zupN, vpT, nI_01, nI_11, ↓reduceIte, Option.bind_some, Option.toList_some, Option.toList_none, List.cons_append, List.nil_append, Nat.reduceAdd, Nat.reduceMul, Nat.reduceSub, Nat.reduceDiv, Nat.reduceMod, and_true, true_and, and_false, false_and, not_true_eq_false, not_false_eq_true, or_true, true_or, or_false, false_or, Int32.lt_irrefl, Int32.le_refl, mIn, h1, h2, Bool.toNat_false, b181_0, b181_9, b181_12, b181_21, b181_24, b181_28, b181_29]
  · rw [yyL_t] at h
    by_cases c : 97 ≤ x ∧ x ≤ 122
    · simp (disch := first | omega | simp (disch := omega) only [nI_add, pk_mul, pk_sub, pk_div, znmod, nI_clamp, nIleT, nIleF, nIltT, nIltF, nIeqT, nIeqF, nIm1, nIm1q, zupE, zupN, vpT, nI_01, nI_11, ↓reduceIte, Option.bind_some, Option.toList_some, Option.toList_none, List.cons_append, List.nil_append, Nat.reduceAdd, Nat.reduceMul, Nat.reduceSub, Nat.reduceDiv, Nat.reduceMod, and_true, true_and, and_false, false_and, not_true_eq_false, not_false_eq_true, or_true, true_or, or_false, false_or, Int32.lt_irrefl, Int32.le_refl, mIn, Bool.toNat_true]) only [nI_add, pk_mul, pk_sub, pk_div, znmod, nI_clamp, nIleT, nIleF, nIltT, nIltF, nIeqT, nIeqF, nIm1, nIm1q, zupE, zupN, vpT, nI_01, nI_11, ↓reduceIte, Option.bind_some, Option.toList_some, Option.toList_none, List.cons_append, List.nil_append, Nat.reduceAdd, Nat.reduceMul, Nat.reduceSub, Nat.reduceDiv, Nat.reduceMod, and_true, true_and, and_false, false_and, not_true_eq_false, not_false_eq_true, or_true, true_or, or_false, false_or, Int32.lt_irrefl, Int32.le_refl, mIn, Bool.toNat_true, b181_0, b181_9, b181_12, b181_21, b181_24, b181_28, b181_29]
    · have h1 : ¬ (nI 97 ≤ nI x ∧ nI x ≤ nI 122) := fun ⟨p, q⟩ => by rw [nI_leI (by omega) (by omega)] at p q; omega
      simp (disch := first | omega | simp (disch := omega) only [nI_add, pk_mul, pk_sub, pk_div, znmod, nI_clamp, nIleT, nIleF, nIltT, nIltF, nIeqT, nIeqF, nIm1, nIm1q, zupE, zupN, vpT, nI_01, nI_11, ↓reduceIte, Option.bind_some, Option.toList_some, Option.toList_none, List.cons_append, List.nil_append, Nat.reduceAdd, Nat.reduceMul, Nat.reduceSub, Nat.reduceDiv, Nat.reduceMod, and_true, true_and, and_false, false_and, not_true_eq_false, not_false_eq_true, or_true, true_or, or_false, false_or, Int32.lt_irrefl, Int32.le_refl, mIn, h1, Bool.toNat_true]) only [nI_add, pk_mul, pk_sub, pk_div, znmod, nI_clamp, nIleT, nIleF, nIltT, nIltF, nIeqT, nIeqF, nIm1, nIm1q, zupE, zupN, vpT, nI_01, nI_11, ↓reduceIte, Option.bind_some, Option.toList_some, Option.toList_none, List.cons_append, List.nil_append, Nat.reduceAdd, Nat.reduceMul, Nat.reduceSub, Nat.reduceDiv, Nat.reduceMod, and_true, true_and, and_false, false_and, not_true_eq_false, not_false_eq_true, or_true, true_or, or_false, false_or, Int32.lt_irrefl, Int32.le_refl, mIn, h1, Bool.toNat_true, b181_0, b181_9, b181_12, b181_21, b181_24, b181_28, b181_29]
theorem m181n {d : Nat} : zev L (d + 1) 181 0 [some (.inr (.inl (12, 0, 0))), some (.inl (-1))] [] g = some (some (.inl (nI 0)), g) := by
  have h1 : ¬ (nI 97 ≤ (-1) ∧ (-1) ≤ nI 122) := by decide
  have h2 : ¬ (nI 65 ≤ (-1) ∧ (-1) ≤ nI 90) := by decide
  simp (disch := first | omega | simp (disch := omega) only [nI_add, pk_mul, pk_sub, pk_div, znmod, nI_clamp, nIleT, nIleF, nIltT, nIltF, nIeqT, nIeqF, nIm1, nIm1q, zupE, zupN, vpT, nI_01, nI_11, ↓reduceIte, Option.bind_some, Option.toList_some, Option.toList_none, List.cons_append, List.nil_append, Nat.reduceAdd, Nat.reduceMul, Nat.reduceSub, Nat.reduceDiv, Nat.reduceMod, and_true, true_and, and_false, false_and, not_true_eq_false, not_false_eq_true, or_true, true_or, or_false, false_or, Int32.lt_irrefl, Int32.le_refl, mIn, h1, h2]) only [nI_add, pk_mul, pk_sub, pk_div, znmod, nI_clamp, nIleT, nIleF, nIltT, nIltF, nIeqT, nIeqF, nIm1, nIm1q, zupE, zupN, vpT, nI_01, nI_11, ↓reduceIte, Option.bind_some, Option.toList_some, Option.toList_none, List.cons_append, List.nil_append, Nat.reduceAdd, Nat.reduceMul, Nat.reduceSub, Nat.reduceDiv, Nat.reduceMod, and_true, true_and, and_false, false_and, not_true_eq_false, not_false_eq_true, or_true, true_or, or_false, false_or, Int32.lt_irrefl, Int32.le_refl, mIn, h1, h2, b181_0, b181_9, b181_12, b181_21, b181_24, b181_28, b181_29]
theorem m182 {d x : Nat} (hx : x < 256) : zev L (d + 1) 182 0 [some (.inr (.inl (12, 0, 0))), some (.inl (nI x))] [] g = some (some (.inl (nI (yyD x).toNat)), g) := by
  cases h : yyD x
  · rw [yyD_f] at h
    have h1 : ¬ (nI 48 ≤ nI x ∧ nI x ≤ nI 57) := fun ⟨p, q⟩ => by rw [nI_leI (by omega) (by omega)] at p q; omega
    simp (disch := first | omega | simp (disch := omega) only [nI_add, pk_mul, pk_sub, pk_div, znmod, nI_clamp, nIleT, nIleF, nIltT, nIltF, nIeqT, nIeqF, nIm1, nIm1q, zupE, zupN, vpT, nI_01, nI_11, ↓reduceIte, Option.bind_some, Option.toList_some, Option.toList_none, List.cons_append, List.nil_append, Nat.reduceAdd, Nat.reduceMul, Nat.reduceSub, Nat.reduceDiv, Nat.reduceMod, and_true, true_and, and_false, false_and, not_true_eq_false, not_false_eq_true, or_true, true_or, or_false, false_or, Int32.lt_irrefl, Int32.le_refl, mIn, h1, Bool.toNat_false]) only [nI_add, pk_mul, pk_sub, pk_div, znmod, nI_clamp, nIleT, nIleF, nIltT, nIltF, nIeqT, nIeqF, nIm1, nIm1q, zupE, zupN, vpT, nI_01, nI_11, ↓reduceIte, Option.bind_some, Option.toList_some, Option.toList_none, List.cons_append, List.nil_append, Nat.reduceAdd, Nat.reduceMul, Nat.reduceSub, Nat.reduceDiv, Nat.reduceMod, and_true, true_and, and_false, false_and, not_true_eq_false, not_false_eq_true, or_true, true_or, or_false, false_or, Int32.lt_irrefl, Int32.le_refl, mIn, h1, Bool.toNat_false, b182_0, b182_9]
  · rw [yyD_t] at h
    simp (disch := first | omega | simp (disch := omega) only [nI_add, pk_mul, pk_sub, pk_div, znmod, nI_clamp, nIleT, nIleF, nIltT, nIltF, nIeqT, nIeqF, nIm1, nIm1q, zupE, zupN, vpT, nI_01, nI_11, ↓reduceIte, Option.bind_some, Option.toList_some, Option.toList_none, List.cons_append, List.nil_append, Nat.reduceAdd, Nat.reduceMul, Nat.reduceSub, Nat.reduceDiv, Nat.reduceMod, and_true, true_and, and_false, false_and, not_true_eq_false, not_false_eq_true, or_true, true_or, or_false, false_or, Int32.lt_irrefl, Int32.le_refl, mIn, Bool.toNat_true]) only [nI_add, pk_mul, pk_sub, pk_div, znmod, nI_clamp, nIleT, nIleF, nIltT, nIltF, nIeqT, nIeqF, nIm1, nIm1q, zupE, zupN, vpT, nI_01, nI_11, ↓reduceIte, Option.bind_some, Option.toList_some, Option.toList_none, List.cons_append, List.nil_append, Nat.reduceAdd, Nat.reduceMul, Nat.reduceSub, Nat.reduceDiv, Nat.reduceMod, and_true, true_and, and_false, false_and, not_true_eq_false, not_false_eq_true, or_true, true_or, or_false, false_or, Int32.lt_irrefl, Int32.le_refl, mIn, Bool.toNat_true, b182_0, b182_9]
theorem m182n {d : Nat} : zev L (d + 1) 182 0 [some (.inr (.inl (12, 0, 0))), some (.inl (-1))] [] g = some (some (.inl (nI 0)), g) := by
  have h1 : ¬ (nI 48 ≤ (-1) ∧ (-1) ≤ nI 57) := by decide
  simp (disch := first | omega | simp (disch := omega) only [nI_add, pk_mul, pk_sub, pk_div, znmod, nI_clamp, nIleT, nIleF, nIltT, nIltF, nIeqT, nIeqF, nIm1, nIm1q, zupE, zupN, vpT, nI_01, nI_11, ↓reduceIte, Option.bind_some, Option.toList_some, Option.toList_none, List.cons_append, List.nil_append, Nat.reduceAdd, Nat.reduceMul, Nat.reduceSub, Nat.reduceDiv, Nat.reduceMod, and_true, true_and, and_false, false_and, not_true_eq_false, not_false_eq_true, or_true, true_or, or_false, false_or, Int32.lt_irrefl, Int32.le_refl, mIn, h1]) only [nI_add, pk_mul, pk_sub, pk_div, znmod, nI_clamp, nIleT, nIleF, nIltT, nIltF, nIeqT, nIeqF, nIm1, nIm1q, zupE, zupN, vpT, nI_01, nI_11, ↓reduceIte, Option.bind_some, Option.toList_some, Option.toList_none, List.cons_append, List.nil_append, Nat.reduceAdd, Nat.reduceMul, Nat.reduceSub, Nat.reduceDiv, Nat.reduceMod, and_true, true_and, and_false, false_and, not_true_eq_false, not_false_eq_true, or_true, true_or, or_false, false_or, Int32.lt_irrefl, Int32.le_refl, mIn, h1, b182_0, b182_9]
theorem m183 {d x : Nat} (hx : x < 256) : zev L d 183 0 [some (.inr (.inl (12, 0, 0))), some (.inl (nI x))] [] g = some (some (.inl (nI (yyS x).toNat)), g) := by
  by_cases c : x = 40 ∨ x = 41 ∨ x = 42 ∨ x = 43 ∨ x = 45 ∨ x = 47 ∨ x = 59 ∨ x = 60 ∨ x = 61 ∨ x = 62
  · have e : yyS x = true := by rcases c with c | c | c | c | c | c | c | c | c | c <;> subst c <;> rfl
    rw [e]
    rcases c with c | c | c | c | c | c | c | c | c | c <;> subst c <;> simp (disch := first | omega | simp (disch := omega) only [nI_add, pk_mul, pk_sub, pk_div, znmod, nI_clamp, nIleT, nIleF, nIltT, nIltF, nIeqT, nIeqF, nIm1, nIm1q, zupE, zupN, vpT, nI_01, nI_11, ↓reduceIte, Option.bind_some, Option.toList_some, Option.toList_none, List.cons_append, List.nil_append, Nat.reduceAdd, Nat.reduceMul, Nat.reduceSub, Nat.reduceDiv, Nat.reduceMod, and_true, true_and, and_false, false_and, not_true_eq_false, not_false_eq_true, or_true, true_or, or_false, false_or, Int32.lt_irrefl, Int32.le_refl, Bool.toNat_true]) only [nI_add, pk_mul, pk_sub, pk_div, znmod, nI_clamp, nIleT, nIleF, nIltT, nIltF, nIeqT, nIeqF, nIm1, nIm1q, zupE, zupN, vpT, nI_01, nI_11, ↓reduceIte, Option.bind_some, Option.toList_some, Option.toList_none, List.cons_append, List.nil_append, Nat.reduceAdd, Nat.reduceMul, Nat.reduceSub, Nat.reduceDiv, Nat.reduceMod, and_true, true_and, and_false, false_and, not_true_eq_false, not_false_eq_true, or_true, true_or, or_false, false_or, Int32.lt_irrefl, Int32.le_refl, Bool.toNat_true, b183_0, b183_6, b183_12, b183_18, b183_24, b183_30, b183_36, b183_42, b183_48, b183_54, b183_60, b183_64, b183_65]
  · have e : yyS x = false := by
      simp only [yyS, List.contains_cons, List.contains_nil, Bool.or_false, Bool.or_eq_false_iff, beq_eq_false_iff_ne]
      omega
    rw [e]
    simp (disch := first | omega | simp (disch := omega) only [nI_add, pk_mul, pk_sub, pk_div, znmod, nI_clamp, nIleT, nIleF, nIltT, nIltF, nIeqT, nIeqF, nIm1, nIm1q, zupE, zupN, vpT, nI_01, nI_11, ↓reduceIte, Option.bind_some, Option.toList_some, Option.toList_none, List.cons_append, List.nil_append, Nat.reduceAdd, Nat.reduceMul, Nat.reduceSub, Nat.reduceDiv, Nat.reduceMod, and_true, true_and, and_false, false_and, not_true_eq_false, not_false_eq_true, or_true, true_or, or_false, false_or, Int32.lt_irrefl, Int32.le_refl, Bool.toNat_false]) only [nI_add, pk_mul, pk_sub, pk_div, znmod, nI_clamp, nIleT, nIleF, nIltT, nIltF, nIeqT, nIeqF, nIm1, nIm1q, zupE, zupN, vpT, nI_01, nI_11, ↓reduceIte, Option.bind_some, Option.toList_some, Option.toList_none, List.cons_append, List.nil_append, Nat.reduceAdd, Nat.reduceMul, Nat.reduceSub, Nat.reduceDiv, Nat.reduceMod, and_true, true_and, and_false, false_and, not_true_eq_false, not_false_eq_true, or_true, true_or, or_false, false_or, Int32.lt_irrefl, Int32.le_refl, Bool.toNat_false, b183_0, b183_6, b183_12, b183_18, b183_24, b183_30, b183_36, b183_42, b183_48, b183_54, b183_60, b183_64, b183_65]
theorem mLet {d k : Nat} (hM : yyM T B g) : zev L (d + 1) 181 0 [some (.inr (.inl (12, 0, 0))), some (.inl (yyrw T B k))] [] g = some (some (.inl (nI (yyQ T yyL B k).toNat)), g) := by
  unfold yyrw yyQ
  by_cases c : k < T
  · rw [if_pos c, decide_eq_true c, Bool.true_and, m181 (hM.2.2.1 k c).2]
  · rw [if_neg c, decide_eq_false c, Bool.false_and, m181n]; rfl
theorem mDig {d k : Nat} (hM : yyM T B g) : zev L (d + 1) 182 0 [some (.inr (.inl (12, 0, 0))), some (.inl (yyrw T B k))] [] g = some (some (.inl (nI (yyQ T yyD B k).toNat)), g) := by
  unfold yyrw yyQ
  by_cases c : k < T
  · rw [if_pos c, decide_eq_true c, Bool.true_and, m182 (hM.2.2.1 k c).2]
  · rw [if_neg c, decide_eq_false c, Bool.false_and, m182n]; rfl
/-- the inner loop of the reference's search -/
theorem m184i {a b k : Nat} {x3 : Int32} (hM : yyM T B g) (hb : b ≤ T) (hl : ∀ j, a ≤ j → j < b → B j ≠ 32) : ∀ n i, a + i + n = b → k + 1 + i ≤ 139 → (yymw (zWDM.drop (k + 1 + i)) (yysg B (a + i) n) = true ∧ (∀ d, zev L d 184 20 [some (.inr (.inl (12, 0, 0))), some (.inl (nI a)), some (.inl (nI b)), some (.inl x3), some (.inl (nI k)), some (.inl (nI i))] [] g = some (some (.inl x3), g))) ∨ (yymw (zWDM.drop (k + 1 + i)) (yysg B (a + i) n) = false ∧ ∃ i', i' < 1000 ∧ ∀ d, zev L d 184 20 [some (.inr (.inl (12, 0, 0))), some (.inl (nI a)), some (.inl (nI b)), some (.inl x3), some (.inl (nI k)), some (.inl (nI i))] [] g = zev L d 184 88 [some (.inr (.inl (12, 0, 0))), some (.inl (nI a)), some (.inl (nI b)), some (.inl x3), some (.inl (nI k)), some (.inl (nI i'))] [] g)
  | 0, i, h1, h2 => by
    obtain ⟨hT, e12, hB, hw⟩ := hM
    have ew := hw (k + 1 + i) (by omega)
    rw [ydrop (show k + 1 + i < zWDM.length from (by omega : k + 1 + i < 140))]
    by_cases c : zWDM.getD (k + 1 + i) 0 = 32
    · refine Or.inl ⟨decide_eq_true c, fun d => b184_20.trans ?_⟩
      simp (disch := first | omega | simp (disch := omega) only [nI_add, pk_mul, pk_sub, pk_div, znmod, nI_clamp, nIleT, nIleF, nIltT, nIltF, nIeqT, nIeqF, nIm1, nIm1q, zupE, zupN, vpT, nI_01, nI_11, ↓reduceIte, Option.bind_some, Option.toList_some, Option.toList_none, List.cons_append, List.nil_append, Nat.reduceAdd, Nat.reduceMul, Nat.reduceSub, Nat.reduceDiv, Nat.reduceMod, and_true, true_and, and_false, false_and, not_true_eq_false, not_false_eq_true, or_true, true_or, or_false, false_or, Int32.lt_irrefl, Int32.le_refl, ew, c]) only [nI_add, pk_mul, pk_sub, pk_div, znmod, nI_clamp, nIleT, nIleF, nIltT, nIltF, nIeqT, nIeqF, nIm1, nIm1q, zupE, zupN, vpT, nI_01, nI_11, ↓reduceIte, Option.bind_some, Option.toList_some, Option.toList_none, List.cons_append, List.nil_append, Nat.reduceAdd, Nat.reduceMul, Nat.reduceSub, Nat.reduceDiv, Nat.reduceMod, and_true, true_and, and_false, false_and, not_true_eq_false, not_false_eq_true, or_true, true_or, or_false, false_or, Int32.lt_irrefl, Int32.le_refl, ew, c, b184_61, b184_69, b184_86]
    · refine Or.inr ⟨decide_eq_false c, i, by omega, fun d => b184_20.trans ?_⟩
      have c' : ¬ nI (zWDM.getD (k + 1 + i) 0) = nI 32 := fun q => c ((nI_eq (ywd_s _) (by omega)).1 q)
      simp (disch := first | omega | simp (disch := omega) only [nI_add, pk_mul, pk_sub, pk_div, znmod, nI_clamp, nIleT, nIleF, nIltT, nIltF, nIeqT, nIeqF, nIm1, nIm1q, zupE, zupN, vpT, nI_01, nI_11, ↓reduceIte, Option.bind_some, Option.toList_some, Option.toList_none, List.cons_append, List.nil_append, Nat.reduceAdd, Nat.reduceMul, Nat.reduceSub, Nat.reduceDiv, Nat.reduceMod, and_true, true_and, and_false, false_and, not_true_eq_false, not_false_eq_true, or_true, true_or, or_false, false_or, Int32.lt_irrefl, Int32.le_refl, ew, c']) only [nI_add, pk_mul, pk_sub, pk_div, znmod, nI_clamp, nIleT, nIleF, nIltT, nIltF, nIeqT, nIeqF, nIm1, nIm1q, zupE, zupN, vpT, nI_01, nI_11, ↓reduceIte, Option.bind_some, Option.toList_some, Option.toList_none, List.cons_append, List.nil_append, Nat.reduceAdd, Nat.reduceMul, Nat.reduceSub, Nat.reduceDiv, Nat.reduceMod, and_true, true_and, and_false, false_and, not_true_eq_false, not_false_eq_true, or_true, true_or, or_false, false_or, Int32.lt_irrefl, Int32.le_refl, ew, c', b184_61, b184_69]
  | n + 1, i, h1, h2 => by
    have hM' := hM
    obtain ⟨hT, e12, hB, hw⟩ := hM
    have ew := hw (k + 1 + i) (by omega)
    have eb := (hB (a + i) (by omega)).1
    have lb := (hB (a + i) (by omega)).2
    rw [ydrop (show k + 1 + i < zWDM.length from (by omega : k + 1 + i < 140)), yysg]
    by_cases c : zWDM.getD (k + 1 + i) 0 = B (a + i)
    · have h3 : k + 1 + i ≠ 139 := fun q => by
        rw [q] at c
        have := hl (a + i) (by omega) (by omega)
        rw [← c] at this
        exact this rfl
      have ih := m184i (k := k) (x3 := x3) hM' hb hl n (i + 1) (by omega) (by omega)
      have e1 : yymw (zWDM.getD (k + 1 + i) 0 :: zWDM.drop (k + 1 + i + 1)) (B (a + i) :: yysg B (a + i + 1) n) = yymw (zWDM.drop (k + 1 + (i + 1))) (yysg B (a + (i + 1)) n) := by
        show (decide _ && _) = _
        rw [decide_eq_true c]
        rfl
      rw [e1]
      have st : ∀ d, zev L d 184 20 [some (.inr (.inl (12, 0, 0))), some (.inl (nI a)), some (.inl (nI b)), some (.inl x3), some (.inl (nI k)), some (.inl (nI i))] [] g = zev L d 184 20 [some (.inr (.inl (12, 0, 0))), some (.inl (nI a)), some (.inl (nI b)), some (.inl x3), some (.inl (nI k)), some (.inl (nI (i+1)))] [] g := fun d => by
        refine b184_20.trans ?_
        simp (disch := first | omega | simp (disch := omega) only [nI_add, pk_mul, pk_sub, pk_div, znmod, nI_clamp, nIleT, nIleF, nIltT, nIltF, nIeqT, nIeqF, nIm1, nIm1q, zupE, zupN, vpT, nI_01, nI_11, ↓reduceIte, Option.bind_some, Option.toList_some, Option.toList_none, List.cons_append, List.nil_append, Nat.reduceAdd, Nat.reduceMul, Nat.reduceSub, Nat.reduceDiv, Nat.reduceMod, and_true, true_and, and_false, false_and, not_true_eq_false, not_false_eq_true, or_true, true_or, or_false, false_or, Int32.lt_irrefl, Int32.le_refl, ew, eb, c]) only [nI_add, pk_mul, pk_sub, pk_div, znmod, nI_clamp, nIleT, nIleF, nIltT, nIltF, nIeqT, nIeqF, nIm1, nIm1q, zupE, zupN, vpT, nI_01, nI_11, ↓reduceIte, Option.bind_some, Option.toList_some, Option.toList_none, List.cons_append, List.nil_append, Nat.reduceAdd, Nat.reduceMul, Nat.reduceSub, Nat.reduceDiv, Nat.reduceMod, and_true, true_and, and_false, false_and, not_true_eq_false, not_false_eq_true, or_true, true_or, or_false, false_or, Int32.lt_irrefl, Int32.le_refl, ew, eb, c, b184_28, b184_52]
      rcases ih with ⟨i1, i2⟩ | ⟨i1, i', i2, i3⟩
      · exact Or.inl ⟨i1, fun d => (st d).trans (i2 d)⟩
      · exact Or.inr ⟨i1, i', i2, fun d => (st d).trans (i3 d)⟩
    · refine Or.inr ⟨?_, i, by omega, fun d => b184_20.trans ?_⟩
      · show (decide _ && _) = false
        rw [decide_eq_false c]; rfl
      · have c' : ¬ nI (zWDM.getD (k + 1 + i) 0) = nI (B (a + i)) := fun q => c ((nI_eq (ywd_s _) (by omega)).1 q)
        simp (disch := first | omega | simp (disch := omega) only [nI_add, pk_mul, pk_sub, pk_div, znmod, nI_clamp, nIleT, nIleF, nIltT, nIltF, nIeqT, nIeqF, nIm1, nIm1q, zupE, zupN, vpT, nI_01, nI_11, ↓reduceIte, Option.bind_some, Option.toList_some, Option.toList_none, List.cons_append, List.nil_append, Nat.reduceAdd, Nat.reduceMul, Nat.reduceSub, Nat.reduceDiv, Nat.reduceMod, and_true, true_and, and_false, false_and, not_true_eq_false, not_false_eq_true, or_true, true_or, or_false, false_or, Int32.lt_irrefl, Int32.le_refl, ew, eb, c']) only [nI_add, pk_mul, pk_sub, pk_div, znmod, nI_clamp, nIleT, nIleF, nIltT, nIltF, nIeqT, nIeqF, nIm1, nIm1q, zupE, zupN, vpT, nI_01, nI_11, ↓reduceIte, Option.bind_some, Option.toList_some, Option.toList_none, List.cons_append, List.nil_append, Nat.reduceAdd, Nat.reduceMul, Nat.reduceSub, Nat.reduceDiv, Nat.reduceMod, and_true, true_and, and_false, false_and, not_true_eq_false, not_false_eq_true, or_true, true_or, or_false, false_or, Int32.lt_irrefl, Int32.le_refl, ew, eb, c', b184_28, b184_61]
/-- on to the next blank -/
theorem m184s {a b : Nat} {x3 x5 : Int32} (hM : yyM T B g) : ∀ (w : List Nat) (k : Nat) (r : List Nat), zWDM.drop k = w ++ 32 :: r → (∀ c, c ∈ w → c ≠ 32) → k + w.length < 140 ∧ zWDM.drop (k + w.length + 1) = r ∧ ∀ d, zev L d 184 94 [some (.inr (.inl (12, 0, 0))), some (.inl (nI a)), some (.inl (nI b)), some (.inl x3), some (.inl (nI k)), some (.inl x5)] [] g = zev L d 184 5 [some (.inr (.inl (12, 0, 0))), some (.inl (nI a)), some (.inl (nI b)), some (.inl x3), some (.inl (nI (k+w.length))), some (.inl x5)] [] g
  | [], k, r, e, _ => by
    have hk : k < zWDM.length := by
      apply Classical.byContradiction
      intro c
      rw [List.drop_eq_nil_of_le (by omega)] at e
      cases e
    have hk' : k < 140 := hk
    have e2 := e
    rw [ydrop hk, List.nil_append, List.cons.injEq] at e2
    have ew := hM.2.2.2 k hk'
    refine ⟨hk', e2.2, fun d => b184_94 (vp_in_nI hk' (by omega)) |>.trans ?_⟩
    rw [e2.1] at ew
    simp (disch := first | omega | simp (disch := omega) only [nI_add, pk_mul, pk_sub, pk_div, znmod, nI_clamp, nIleT, nIleF, nIltT, nIltF, nIeqT, nIeqF, nIm1, nIm1q, zupE, zupN, vpT, nI_01, nI_11, ↓reduceIte, Option.bind_some, Option.toList_some, Option.toList_none, List.cons_append, List.nil_append, Nat.reduceAdd, Nat.reduceMul, Nat.reduceSub, Nat.reduceDiv, Nat.reduceMod, and_true, true_and, and_false, false_and, not_true_eq_false, not_false_eq_true, or_true, true_or, or_false, false_or, Int32.lt_irrefl, Int32.le_refl, ew]) only [nI_add, pk_mul, pk_sub, pk_div, znmod, nI_clamp, nIleT, nIleF, nIltT, nIltF, nIeqT, nIeqF, nIm1, nIm1q, zupE, zupN, vpT, nI_01, nI_11, ↓reduceIte, Option.bind_some, Option.toList_some, Option.toList_none, List.cons_append, List.nil_append, Nat.reduceAdd, Nat.reduceMul, Nat.reduceSub, Nat.reduceDiv, Nat.reduceMod, and_true, true_and, and_false, false_and, not_true_eq_false, not_false_eq_true, or_true, true_or, or_false, false_or, Int32.lt_irrefl, Int32.le_refl, ew, b184_115]
    rfl
  | c :: w, k, r, e, h => by
    have hk : k < zWDM.length := by
      apply Classical.byContradiction
      intro c
      rw [List.drop_eq_nil_of_le (by omega)] at e
      cases e
    have hk' : k < 140 := hk
    have e2 := e
    rw [ydrop hk, List.cons_append, List.cons.injEq] at e2
    have ew := hM.2.2.2 k hk'
    obtain ⟨i1, i2, i3⟩ := m184s (a := a) (b := b) (x3 := x3) (x5 := x5) hM w (k + 1) r e2.2 (fun x hx => h x (List.mem_cons_of_mem _ hx))
    have el : k + (c :: w).length = k + 1 + w.length := by rw [List.length_cons]; omega
    rw [el]
    refine ⟨i1, i2, fun d => Eq.trans (b184_94 (vp_in_nI hk' (by omega)) |>.trans ?_) (i3 d)⟩
    have c' : ¬ nI (zWDM.getD k 0) = nI 32 := fun q => by
      have := (nI_eq (ywd_s _) (by omega)).1 q
      rw [e2.1] at this
      exact h c List.mem_cons_self this
    simp (disch := first | omega | simp (disch := omega) only [nI_add, pk_mul, pk_sub, pk_div, znmod, nI_clamp, nIleT, nIleF, nIltT, nIltF, nIeqT, nIeqF, nIm1, nIm1q, zupE, zupN, vpT, nI_01, nI_11, ↓reduceIte, Option.bind_some, Option.toList_some, Option.toList_none, List.cons_append, List.nil_append, Nat.reduceAdd, Nat.reduceMul, Nat.reduceSub, Nat.reduceDiv, Nat.reduceMod, and_true, true_and, and_false, false_and, not_true_eq_false, not_false_eq_true, or_true, true_or, or_false, false_or, Int32.lt_irrefl, Int32.le_refl, ew, c']) only [nI_add, pk_mul, pk_sub, pk_div, znmod, nI_clamp, nIleT, nIleF, nIltT, nIltF, nIeqT, nIeqF, nIm1, nIm1q, zupE, zupN, vpT, nI_01, nI_11, ↓reduceIte, Option.bind_some, Option.toList_some, Option.toList_none, List.cons_append, List.nil_append, Nat.reduceAdd, Nat.reduceMul, Nat.reduceSub, Nat.reduceDiv, Nat.reduceMod, and_true, true_and, and_false, false_and, not_true_eq_false, not_false_eq_true, or_true, true_or, or_false, false_or, Int32.lt_irrefl, Int32.le_refl, ew, c', b184_106]
def yyxm (n : Nat) : Int32 := if n = 0 then (-1) else nI (n - 1)
theorem yyxm_s (n : Nat) : yyxm n + nI 1 = nI n := by
  unfold yyxm
  cases n with
  | zero => rfl
  | succ n => rw [if_neg (by omega), nI_add]; rfl
theorem m184 {a b : Nat} (hM : yyM T B g) (hb : b ≤ T) (hab : a ≤ b) (hl : ∀ j, a ≤ j → j < b → B j ≠ 32) : ∀ (l : List (List Nat)) (k n : Nat), k < 140 → zWDM.drop (k + 1) = yyfl l → (∀ w, w ∈ l → ∀ c, c ∈ w → c ≠ 32) → ∀ a5 d, zev L d 184 5 [some (.inr (.inl (12, 0, 0))), some (.inl (nI a)), some (.inl (nI b)), some (.inl (yyxm n)), some (.inl (nI k)), a5] [] g = some (some (.inl (yyim l (yysg B a (b - a)) n)), g)
  | [], k, n, hk, e, _, a5, d => by
    have : k = 139 := by
      apply Classical.byContradiction
      intro c
      have hk : k + 1 < zWDM.length := by show k + 1 < 140; omega
      rw [ydrop hk] at e
      cases e
    subst this
    refine b184_5.trans ?_
    simp (disch := first | omega | simp (disch := omega) only [nI_add, pk_mul, pk_sub, pk_div, znmod, nI_clamp, nIleT, nIleF, nIltT, nIltF, nIeqT, nIeqF, nIm1, nIm1q, zupE, zupN, vpT, nI_01, nI_11, ↓reduceIte, Option.bind_some, Option.toList_some, Option.toList_none, List.cons_append, List.nil_append, Nat.reduceAdd, Nat.reduceMul, Nat.reduceSub, Nat.reduceDiv, Nat.reduceMod, and_true, true_and, and_false, false_and, not_true_eq_false, not_false_eq_true, or_true, true_or, or_false, false_or, Int32.lt_irrefl, Int32.le_refl]) only [nI_add, pk_mul, pk_sub, pk_div, znmod, nI_clamp, nIleT, nIleF, nIltT, nIltF, nIeqT, nIeqF, nIm1, nIm1q, zupE, zupN, vpT, nI_01, nI_11, ↓reduceIte, Option.bind_some, Option.toList_some, Option.toList_none, List.cons_append, List.nil_append, Nat.reduceAdd, Nat.reduceMul, Nat.reduceSub, Nat.reduceDiv, Nat.reduceMod, and_true, true_and, and_false, false_and, not_true_eq_false, not_false_eq_true, or_true, true_or, or_false, false_or, Int32.lt_irrefl, Int32.le_refl, b184_118]
    rfl
  | w :: r, k, n, hk, e, h, a5, d => by
    have h139 : k < 139 := by
      apply Classical.byContradiction
      intro c
      rw [List.drop_eq_nil_of_le (show zWDM.length ≤ k + 1 by show 140 ≤ k + 1; omega), yyfl] at e
      cases w <;> cases e
    have hs : ∀ c, c ∈ yysg B a (b - a) → c ≠ 32 := yysg_n (fun j h1 h2 => hl j h1 (by omega))
    have em := yymw_w (r := yyfl r) w (yysg B a (b - a)) (h w List.mem_cons_self) hs
    have i0 := m184i (L := L) (k := k) (x3 := nI n) hM hb hl (b - a) 0 (by omega) (by omega)
    simp only [Nat.add_zero] at i0
    rw [e, yyfl, em] at i0
    rw [yyim]
    refine b184_5.trans ?_
    have st : zev L d 184 13 [some (.inr (.inl (12, 0, 0))), some (.inl (nI a)), some (.inl (nI b)), some (.inl (yyxm n)), some (.inl (nI k)), a5] [] g = zev L d 184 20 [some (.inr (.inl (12, 0, 0))), some (.inl (nI a)), some (.inl (nI b)), some (.inl (nI n)), some (.inl (nI k)), some (.inl (nI 0))] [] g := by
      rw [b184_13, yyxm_s]
    rw [if_neg (nI_ge (by omega) (by omega)), st]
    rcases i0 with ⟨i1, i2⟩ | ⟨i1, i', i2, i3⟩
    · rw [if_pos (of_decide_eq_true i1), i2]
    · rw [if_neg (of_decide_eq_false i1), i3, b184_88, nI_add]
      obtain ⟨j1, j2, j3⟩ := m184s (a := a) (b := b) (x3 := nI n) (x5 := nI i') hM w (k + 1) (yyfl r) e (h w List.mem_cons_self)
      rw [j3]
      have ih := m184 hM hb hab hl r (k + 1 + w.length) (n + 1) j1 j2 (fun x hx => h x (List.mem_cons_of_mem _ hx)) (some (.inl (nI i'))) d
      have ex : yyxm (n + 1) = nI n := by unfold yyxm; rw [if_neg (by omega)]; rfl
      rw [ex] at ih
      exact ih
theorem mWord {a b : Nat} (hM : yyM T B g) (hb : b ≤ T) (hab : a ≤ b) (hl : ∀ j, a ≤ j → j < b → B j ≠ 32) {d : Nat} : zev L d 184 0 [some (.inr (.inl (12, 0, 0))), some (.inl (nI a)), some (.inl (nI b)), none, none, none] [] g = some (some (.inl (yyim yyWm (yysg B a (b - a)) 0)), g) := by
  rw [b184_0]
  exact m184 hM hb hab hl yyWm 0 0 (by omega) (by decide +kernel) yyWm_n none d
end LM
