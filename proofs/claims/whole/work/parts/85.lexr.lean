/-! text: a token of the reference's -/
def yyj (T : Nat) (B : Nat → Nat) (s : Nat) : Nat := yyu (yyQ T yyW B) 400 s
def yye (T : Nat) (B : Nat → Nat) (j : Nat) : Nat := if yyL (B j) = true then yyu (yyQ T yyL B) 400 (j + 1) else if yyD (B j) = true then yyu (yyQ T yyD B) 400 (j + 1) else j + 1
def yyn (T : Nat) (B : Nat → Nat) (s : Nat) : Nat := if yyj T B s < T then yye T B (yyj T B s) else yyj T B s
def yydc (B : Nat → Nat) (a : Nat) : Nat → Nat
  | 0 => 0
  | n + 1 => 10 * yydc B a n + (B (a + n) - 48)
/-- the class's number of the token that begins at j -/
def yykj (T : Nat) (B : Nat → Nat) (j : Nat) : Nat := if yyL (B j) = true then yyix yyWc (yysg B j (yye T B j - j)) 256 else if yyD (B j) = true then (if yye T B j - j ≤ 4 then 1000 + yydc B j (yye T B j - j) else 1) else if yyS (B j) = true then B j else 1
def yyk (T : Nat) (B : Nat → Nat) (s : Nat) : Nat := if yyj T B s < T then yykj T B (yyj T B s) else 0
/-- the reference's words for it -/
def Tkm (k : Nat) (t v : Int32) : Prop := (k = 0 ∧ t = nI 0) ∨ (k = 1 ∧ t = nI 1) ∨ (yyS k = true ∧ t = nI 4 ∧ v = nI k) ∨ (∃ c, c < 27 ∧ k = 256 + c ∧ t = nI 2 ∧ v = nI (yymc c)) ∨ (∃ n, n < 10000 ∧ k = 1000 + n ∧ t = nI 3 ∧ v = nI n)
theorem yydc_lt {B : Nat → Nat} {a : Nat} : ∀ n, (∀ j, a ≤ j → j < a + n → yyD (B j) = true) → yydc B a n < 10 ^ n
  | 0, _ => by show 0 < 1; omega
  | n + 1, h => by
    have i := yydc_lt n (fun j h1 h2 => h j h1 (by omega))
    have hd := yyD_t.1 (h (a + n) (by omega) (by omega))
    rw [yydc, Nat.pow_succ]
    omega
/-- all but the token -/
def yyF (g g' : zH) : Prop := ∀ k i s j, ¬ (k = 12 ∧ i = 0 ∧ s = 0 ∧ 13 ≤ j ∧ j ≤ 16) → g' k i s j = g k i s j
theorem yyF_r {g : zH} : yyF g g := fun _ _ _ _ _ => rfl
theorem yyF_t {a b c : zH} (h1 : yyF a b) (h2 : yyF b c) : yyF a c := fun k i s j h => (h2 k i s j h).trans (h1 k i s j h)
theorem yyF_u {g g' : zH} {j : Nat} {v : Int32} (h : yyF g g') (h1 : 13 ≤ j) (h2 : j ≤ 16) : yyF g (zup g' 12 0 0 j v) := fun k i s j' h' => by
  rw [zupN (by omega)]; exact h k i s j' h'
theorem yyM_F {T : Nat} {B : Nat → Nat} {g g' : zH} (hM : yyM T B g) (h : yyF g g') : yyM T B g' := by
  obtain ⟨hT, e12, hB, hw⟩ := hM
  refine ⟨hT, by rw [h 12 0 0 12 (by omega)]; exact e12, fun j hj => ?_, fun j hj => ?_⟩
  · rw [h 12 0 12 j (by omega)]; exact hB j hj
  · rw [h 12 0 18 j (by omega)]; exact hw j hj
section LR
variable {L : Nat} {T : Nat} {B : Nat → Nat}
theorem mSkip : ∀ n s (g : zH), s ≤ T → T ≤ s + n → yyM T B g → g 12 0 0 13 = nI s → ∀ d, zev L (d + 2) 185 0 [some (.inr (.inl (12, 0, 0))), none] [] g = zev L (d + 2) 185 39 [some (.inr (.inl (12, 0, 0))), none] [] (zup g 12 0 0 13 (nI (yyu (yyQ T yyW B) n s)))
  | n, s, g, hs, hn, hM, e, d => by
    have hT := hM.1
    have m := fun d => m180 (L := L) (d := d) (k := s) hM (by omega)
    by_cases c : yyQ T yyW B s = true
    · obtain ⟨c1, c2⟩ := yyQ_t.1 c
      cases n with
      | zero => omega
      | succ n =>
        have ih := mSkip n (s + 1) (zup g 12 0 0 13 (nI (s + 1))) (by omega) (by omega) (yyM_F hM (yyF_u yyF_r (by omega) (by omega))) (by rw [zupE (by omega)]) d
        rw [zup_zup] at ih
        rw [yyu, if_pos c]
        refine Eq.trans ?_ ih
        have er : yyrw T B s = nI (B s) := if_pos c1
        rw [yyW_t] at c2
        rcases c2 with c2 | c2
        · refine b185_0.trans ?_
          simp (disch := first | omega | simp (disch := omega) only [nI_add, pk_mul, pk_sub, pk_div, znmod, nI_clamp, nIleT, nIleF, nIltT, nIltF, nIeqT, nIeqF, nIm1, nIm1q, zupE, zupN, vpT, nI_01, nI_11, ↓reduceIte, Option.bind_some, Option.toList_some, Option.toList_none, List.cons_append, List.nil_append, Nat.reduceAdd, Nat.reduceMul, Nat.reduceSub, Nat.reduceDiv, Nat.reduceMod, and_true, true_and, and_false, false_and, not_true_eq_false, not_false_eq_true, or_true, true_or, or_false, false_or, Int32.lt_irrefl, Int32.le_refl, e, m, er, c2]) only [nI_add, pk_mul, pk_sub, pk_div, znmod, nI_clamp, nIleT, nIleF, nIltT, nIltF, nIeqT, nIeqF, nIm1, nIm1q, zupE, zupN, vpT, nI_01, nI_11, ↓reduceIte, Option.bind_some, Option.toList_some, Option.toList_none, List.cons_append, List.nil_append, Nat.reduceAdd, Nat.reduceMul, Nat.reduceSub, Nat.reduceDiv, Nat.reduceMod, and_true, true_and, and_false, false_and, not_true_eq_false, not_false_eq_true, or_true, true_or, or_false, false_or, Int32.lt_irrefl, Int32.le_refl, e, m, er, c2, b185_8, b185_26, b185_36]
        · refine b185_0.trans ?_
          simp (disch := first | omega | simp (disch := omega) only [nI_add, pk_mul, pk_sub, pk_div, znmod, nI_clamp, nIleT, nIleF, nIltT, nIltF, nIeqT, nIeqF, nIm1, nIm1q, zupE, zupN, vpT, nI_01, nI_11, ↓reduceIte, Option.bind_some, Option.toList_some, Option.toList_none, List.cons_append, List.nil_append, Nat.reduceAdd, Nat.reduceMul, Nat.reduceSub, Nat.reduceDiv, Nat.reduceMod, and_true, true_and, and_false, false_and, not_true_eq_false, not_false_eq_true, or_true, true_or, or_false, false_or, Int32.lt_irrefl, Int32.le_refl, e, m, er, c2]) only [nI_add, pk_mul, pk_sub, pk_div, znmod, nI_clamp, nIleT, nIleF, nIltT, nIltF, nIeqT, nIeqF, nIm1, nIm1q, zupE, zupN, vpT, nI_01, nI_11, ↓reduceIte, Option.bind_some, Option.toList_some, Option.toList_none, List.cons_append, List.nil_append, Nat.reduceAdd, Nat.reduceMul, Nat.reduceSub, Nat.reduceDiv, Nat.reduceMod, and_true, true_and, and_false, false_and, not_true_eq_false, not_false_eq_true, or_true, true_or, or_false, false_or, Int32.lt_irrefl, Int32.le_refl, e, m, er, c2, b185_8, b185_13, b185_21, b185_26, b185_36]
    · have c' : yyQ T yyW B s = false := by cases h : yyQ T yyW B s with
        | true => exact absurd h c
        | false => rfl
      rw [yyu_no c', zup_id e]
      refine b185_0.trans ?_
      by_cases c1 : s < T
      · have er : yyrw T B s = nI (B s) := if_pos c1
        have lb := (hM.2.2.1 s c1).2
        have c2 : ¬ (B s = 32 ∨ B s = 10) := fun q => c (yyQ_t.2 ⟨c1, yyW_t.2 q⟩)
        simp (disch := first | omega | simp (disch := omega) only [nI_add, pk_mul, pk_sub, pk_div, znmod, nI_clamp, nIleT, nIleF, nIltT, nIltF, nIeqT, nIeqF, nIm1, nIm1q, zupE, zupN, vpT, nI_01, nI_11, ↓reduceIte, Option.bind_some, Option.toList_some, Option.toList_none, List.cons_append, List.nil_append, Nat.reduceAdd, Nat.reduceMul, Nat.reduceSub, Nat.reduceDiv, Nat.reduceMod, and_true, true_and, and_false, false_and, not_true_eq_false, not_false_eq_true, or_true, true_or, or_false, false_or, Int32.lt_irrefl, Int32.le_refl, e, m, er]) only [nI_add, pk_mul, pk_sub, pk_div, znmod, nI_clamp, nIleT, nIleF, nIltT, nIltF, nIeqT, nIeqF, nIm1, nIm1q, zupE, zupN, vpT, nI_01, nI_11, ↓reduceIte, Option.bind_some, Option.toList_some, Option.toList_none, List.cons_append, List.nil_append, Nat.reduceAdd, Nat.reduceMul, Nat.reduceSub, Nat.reduceDiv, Nat.reduceMod, and_true, true_and, and_false, false_and, not_true_eq_false, not_false_eq_true, or_true, true_or, or_false, false_or, Int32.lt_irrefl, Int32.le_refl, e, m, er, b185_8, b185_13, b185_21]
      · have er : yyrw T B s = (-1) := if_neg c1
        simp (disch := first | omega | simp (disch := omega) only [nI_add, pk_mul, pk_sub, pk_div, znmod, nI_clamp, nIleT, nIleF, nIltT, nIltF, nIeqT, nIeqF, nIm1, nIm1q, zupE, zupN, vpT, nI_01, nI_11, ↓reduceIte, Option.bind_some, Option.toList_some, Option.toList_none, List.cons_append, List.nil_append, Nat.reduceAdd, Nat.reduceMul, Nat.reduceSub, Nat.reduceDiv, Nat.reduceMod, and_true, true_and, and_false, false_and, not_true_eq_false, not_false_eq_true, or_true, true_or, or_false, false_or, Int32.lt_irrefl, Int32.le_refl, e, m, er]) only [nI_add, pk_mul, pk_sub, pk_div, znmod, nI_clamp, nIleT, nIleF, nIltT, nIltF, nIeqT, nIeqF, nIm1, nIm1q, zupE, zupN, vpT, nI_01, nI_11, ↓reduceIte, Option.bind_some, Option.toList_some, Option.toList_none, List.cons_append, List.nil_append, Nat.reduceAdd, Nat.reduceMul, Nat.reduceSub, Nat.reduceDiv, Nat.reduceMod, and_true, true_and, and_false, false_and, not_true_eq_false, not_false_eq_true, or_true, true_or, or_false, false_or, Int32.lt_irrefl, Int32.le_refl, e, m, er, b185_8, b185_13, b185_21]
theorem mRunL {x : Int32} : ∀ n s (g : zH), s ≤ T → T ≤ s + n → yyM T B g → g 12 0 0 13 = nI s → ∀ d, zev L (d + 2) 185 95 [some (.inr (.inl (12, 0, 0))), some (.inl x)] [] g = zev L (d + 2) 185 123 [some (.inr (.inl (12, 0, 0))), some (.inl x)] [] (zup g 12 0 0 13 (nI (yyu (yyQ T yyL B) n s)))
  | n, s, g, hs, hn, hM, e, d => by
    have hT := hM.1
    have m := fun d => m180 (L := L) (d := d) (k := s) hM (by omega)
    have ml := fun d => mLet (L := L) (d := d) (k := s) hM
    by_cases c : yyQ T yyL B s = true
    · obtain ⟨c1, c2⟩ := yyQ_t.1 c
      cases n with
      | zero => omega
      | succ n =>
        have ih := mRunL (x := x) n (s + 1) (zup g 12 0 0 13 (nI (s + 1))) (by omega) (by omega) (yyM_F hM (yyF_u yyF_r (by omega) (by omega))) (by rw [zupE (by omega)]) d
        rw [zup_zup] at ih
        rw [yyu, if_pos c]
        refine Eq.trans ?_ ih
        refine b185_95.trans ?_
        simp (disch := first | omega | simp (disch := omega) only [nI_add, pk_mul, pk_sub, pk_div, znmod, nI_clamp, nIleT, nIleF, nIltT, nIltF, nIeqT, nIeqF, nIm1, nIm1q, zupE, zupN, vpT, nI_01, nI_11, ↓reduceIte, Option.bind_some, Option.toList_some, Option.toList_none, List.cons_append, List.nil_append, Nat.reduceAdd, Nat.reduceMul, Nat.reduceSub, Nat.reduceDiv, Nat.reduceMod, and_true, true_and, and_false, false_and, not_true_eq_false, not_false_eq_true, or_true, true_or, or_false, false_or, Int32.lt_irrefl, Int32.le_refl, e, m, ml, c, Bool.toNat_true]) only [nI_add, pk_mul, pk_sub, pk_div, znmod, nI_clamp, nIleT, nIleF, nIltT, nIltF, nIeqT, nIeqF, nIm1, nIm1q, zupE, zupN, vpT, nI_01, nI_11, ↓reduceIte, Option.bind_some, Option.toList_some, Option.toList_none, List.cons_append, List.nil_append, Nat.reduceAdd, Nat.reduceMul, Nat.reduceSub, Nat.reduceDiv, Nat.reduceMod, and_true, true_and, and_false, false_and, not_true_eq_false, not_false_eq_true, or_true, true_or, or_false, false_or, Int32.lt_irrefl, Int32.le_refl, e, m, ml, c, Bool.toNat_true, b185_104, b185_107, b185_110, b185_120]
    · have c' : yyQ T yyL B s = false := by cases h : yyQ T yyL B s with
        | true => exact absurd h c
        | false => rfl
      rw [yyu_no c', zup_id e]
      refine b185_95.trans ?_
      simp (disch := first | omega | simp (disch := omega) only [nI_add, pk_mul, pk_sub, pk_div, znmod, nI_clamp, nIleT, nIleF, nIltT, nIltF, nIeqT, nIeqF, nIm1, nIm1q, zupE, zupN, vpT, nI_01, nI_11, ↓reduceIte, Option.bind_some, Option.toList_some, Option.toList_none, List.cons_append, List.nil_append, Nat.reduceAdd, Nat.reduceMul, Nat.reduceSub, Nat.reduceDiv, Nat.reduceMod, and_true, true_and, and_false, false_and, not_true_eq_false, not_false_eq_true, or_true, true_or, or_false, false_or, Int32.lt_irrefl, Int32.le_refl, e, m, ml, c', Bool.toNat_false]) only [nI_add, pk_mul, pk_sub, pk_div, znmod, nI_clamp, nIleT, nIleF, nIltT, nIltF, nIeqT, nIeqF, nIm1, nIm1q, zupE, zupN, vpT, nI_01, nI_11, ↓reduceIte, Option.bind_some, Option.toList_some, Option.toList_none, List.cons_append, List.nil_append, Nat.reduceAdd, Nat.reduceMul, Nat.reduceSub, Nat.reduceDiv, Nat.reduceMod, and_true, true_and, and_false, false_and, not_true_eq_false, not_false_eq_true, or_true, true_or, or_false, false_or, Int32.lt_irrefl, Int32.le_refl, e, m, ml, c', Bool.toNat_false, b185_104, b185_107]
theorem yh16 {g : zH} {v v' a b : Int32} : zup (zup (zup (zup g 12 0 0 16 v) 12 0 0 13 a) 12 0 0 16 v') 12 0 0 13 b = zup (zup g 12 0 0 16 v') 12 0 0 13 b := by
  funext k i s j
  simp only [zup_ap]
  by_cases c1 : k = 12 ∧ i = 0 ∧ s = 0 ∧ j = 13
  · rw [if_pos c1, if_pos c1]
  · simp only [if_neg c1]
    by_cases c2 : k = 12 ∧ i = 0 ∧ s = 0 ∧ j = 16
    · simp only [if_pos c2]
    · simp only [if_neg c2]
theorem mRunD {x : Int32} {a : Nat} : ∀ n s (v : Int32) (g : zH), a < s → s ≤ T → T ≤ s + n → yyM T B g → (∀ j, a ≤ j → j < s → yyD (B j) = true) → (s - a ≤ 4 → v = nI (yydc B a (s - a))) → ∃ v', (∀ d, zev L (d + 2) 185 171 [some (.inr (.inl (12, 0, 0))), some (.inl x)] [] (zup (zup g 12 0 0 16 v) 12 0 0 13 (nI s)) = zev L (d + 2) 185 239 [some (.inr (.inl (12, 0, 0))), some (.inl x)] [] (zup (zup g 12 0 0 16 v') 12 0 0 13 (nI (yyu (yyQ T yyD B) n s)))) ∧ (yyu (yyQ T yyD B) n s - a ≤ 4 → v' = nI (yydc B a (yyu (yyQ T yyD B) n s - a)))
  | n, s, v, g, ha, hs, hn, hM, hd, hv => by
    have hT := hM.1
    have hM' : yyM T B (zup (zup g 12 0 0 16 v) 12 0 0 13 (nI s)) := yyM_F hM (yyF_u (yyF_u yyF_r (by omega) (by omega)) (by omega) (by omega))
    have m := fun d => m180 (L := L) (d := d) (k := s) hM' (by omega)
    have ml := fun d => mDig (L := L) (d := d) (k := s) hM'
    by_cases c : yyQ T yyD B s = true
    · obtain ⟨c1, c2⟩ := yyQ_t.1 c
      have er : yyrw T B s = nI (B s) := if_pos c1
      have c3 := yyD_t.1 c2
      cases n with
      | zero => omega
      | succ n =>
        rw [yyu, if_pos c]
        by_cases hq : nI 10000 ≤ v
        · obtain ⟨v', i1, i2⟩ := mRunD (x := x) (a := a) n (s + 1) v g (by omega) (by omega) (by omega) hM (fun j h1 h2 => by
            by_cases e : j = s
            · rw [e]; exact c2
            · exact hd j h1 (by omega)) (fun h5 => by
            have e1 := hv (by omega)
            have l := yydc_lt (B := B) (a := a) (s - a) (fun j h1 h2 => hd j h1 (by omega))
            have l2 : 10 ^ (s - a) ≤ 10 ^ 3 := Nat.pow_le_pow_right (by omega) (by omega)
            rw [e1] at hq
            exact absurd hq (nI_ge (by omega) (by omega)))
          refine ⟨v', fun d => Eq.trans (b185_171.trans ?_) (i1 d), i2⟩
          simp (disch := first | omega | simp (disch := omega) only [nI_add, pk_mul, pk_sub, pk_div, znmod, nI_clamp, nIleT, nIleF, nIltT, nIltF, nIeqT, nIeqF, nIm1, nIm1q, zupE, zupN, vpT, nI_01, nI_11, ↓reduceIte, Option.bind_some, Option.toList_some, Option.toList_none, List.cons_append, List.nil_append, Nat.reduceAdd, Nat.reduceMul, Nat.reduceSub, Nat.reduceDiv, Nat.reduceMod, and_true, true_and, and_false, false_and, not_true_eq_false, not_false_eq_true, or_true, true_or, or_false, false_or, Int32.lt_irrefl, Int32.le_refl, m, ml, c, Bool.toNat_true, hq]) only [nI_add, pk_mul, pk_sub, pk_div, znmod, nI_clamp, nIleT, nIleF, nIltT, nIltF, nIeqT, nIeqF, nIm1, nIm1q, zupE, zupN, vpT, nI_01, nI_11, ↓reduceIte, Option.bind_some, Option.toList_some, Option.toList_none, List.cons_append, List.nil_append, Nat.reduceAdd, Nat.reduceMul, Nat.reduceSub, Nat.reduceDiv, Nat.reduceMod, and_true, true_and, and_false, false_and, not_true_eq_false, not_false_eq_true, or_true, true_or, or_false, false_or, Int32.lt_irrefl, Int32.le_refl, m, ml, c, Bool.toNat_true, hq, b185_180, b185_183, b185_186, b185_219, b185_223, b185_226, b185_236]
          rw [yh16]
        · obtain ⟨v', i1, i2⟩ := mRunD (x := x) (a := a) n (s + 1) ((nI 10 * v + nI (B s)) - nI 48) g (by omega) (by omega) (by omega) hM (fun j h1 h2 => by
            by_cases e : j = s
            · rw [e]; exact c2
            · exact hd j h1 (by omega)) (fun h5 => by
            have e1 := hv (by omega)
            rw [e1, pk_mul, nI_add, pk_sub (by omega), show s + 1 - a = (s - a) + 1 by omega, yydc, show a + (s - a) = s by omega]
            congr 1
            omega)
          refine ⟨v', fun d => Eq.trans (b185_171.trans ?_) (i1 d), i2⟩
          simp only [er] at m ml
          simp (disch := first | omega | simp (disch := omega) only [nI_add, pk_mul, pk_sub, pk_div, znmod, nI_clamp, nIleT, nIleF, nIltT, nIltF, nIeqT, nIeqF, nIm1, nIm1q, zupE, zupN, vpT, nI_01, nI_11, ↓reduceIte, Option.bind_some, Option.toList_some, Option.toList_none, List.cons_append, List.nil_append, Nat.reduceAdd, Nat.reduceMul, Nat.reduceSub, Nat.reduceDiv, Nat.reduceMod, and_true, true_and, and_false, false_and, not_true_eq_false, not_false_eq_true, or_true, true_or, or_false, false_or, Int32.lt_irrefl, Int32.le_refl, m, ml, c, Bool.toNat_true, hq]) only [nI_add, pk_mul, pk_sub, pk_div, znmod, nI_clamp, nIleT, nIleF, nIltT, nIltF, nIeqT, nIeqF, nIm1, nIm1q, zupE, zupN, vpT, nI_01, nI_11, ↓reduceIte, Option.bind_some, Option.toList_some, Option.toList_none, List.cons_append, List.nil_append, Nat.reduceAdd, Nat.reduceMul, Nat.reduceSub, Nat.reduceDiv, Nat.reduceMod, and_true, true_and, and_false, false_and, not_true_eq_false, not_false_eq_true, or_true, true_or, or_false, false_or, Int32.lt_irrefl, Int32.le_refl, m, ml, c, Bool.toNat_true, hq, b185_180, b185_183, b185_186, b185_197, b185_212, b185_223, b185_226, b185_236]
          rw [yh16]
    · have c' : yyQ T yyD B s = false := by cases h : yyQ T yyD B s with
        | true => exact absurd h c
        | false => rfl
      refine ⟨v, fun d => ?_, ?_⟩
      · rw [yyu_no c']
        refine b185_171.trans ?_
        simp (disch := first | omega | simp (disch := omega) only [nI_add, pk_mul, pk_sub, pk_div, znmod, nI_clamp, nIleT, nIleF, nIltT, nIltF, nIeqT, nIeqF, nIm1, nIm1q, zupE, zupN, vpT, nI_01, nI_11, ↓reduceIte, Option.bind_some, Option.toList_some, Option.toList_none, List.cons_append, List.nil_append, Nat.reduceAdd, Nat.reduceMul, Nat.reduceSub, Nat.reduceDiv, Nat.reduceMod, and_true, true_and, and_false, false_and, not_true_eq_false, not_false_eq_true, or_true, true_or, or_false, false_or, Int32.lt_irrefl, Int32.le_refl, m, ml, c', Bool.toNat_false]) only [nI_add, pk_mul, pk_sub, pk_div, znmod, nI_clamp, nIleT, nIleF, nIltT, nIltF, nIeqT, nIeqF, nIm1, nIm1q, zupE, zupN, vpT, nI_01, nI_11, ↓reduceIte, Option.bind_some, Option.toList_some, Option.toList_none, List.cons_append, List.nil_append, Nat.reduceAdd, Nat.reduceMul, Nat.reduceSub, Nat.reduceDiv, Nat.reduceMod, and_true, true_and, and_false, false_and, not_true_eq_false, not_false_eq_true, or_true, true_or, or_false, false_or, Int32.lt_irrefl, Int32.le_refl, m, ml, c', Bool.toNat_false, b185_180, b185_183]
      · rw [yyu_no c']
        exact hv
theorem yyj_le {s : Nat} (hs : s ≤ T) : s ≤ yyj T B s ∧ yyj T B s ≤ T := ⟨yyu_ge _ _, yyu_le _ _ hs⟩
theorem yye_le {j : Nat} (hj : j < T) : j < yye T B j ∧ yye T B j ≤ T := by
  unfold yye
  split
  · exact ⟨yyu_ge _ _, yyu_le _ _ (by omega)⟩
  · split
    · exact ⟨yyu_ge _ _, yyu_le _ _ (by omega)⟩
    · omega
theorem yyn_le {s : Nat} (hs : s ≤ T) : s ≤ yyn T B s ∧ yyn T B s ≤ T := by
  have h1 := yyj_le (B := B) hs
  unfold yyn
  split
  · rename_i c
    have := yye_le (B := B) c
    omega
  · omega
theorem mReads {s : Nat} {g : zH} (hs : s ≤ T) (hM : yyM T B g) (e : g 12 0 0 13 = nI s) : ∃ g', (∀ d, zev L (d + 2) 185 0 [some (.inr (.inl (12, 0, 0))), none] [] g = some (none, g')) ∧ yyF g g' ∧ g' 12 0 0 13 = nI (yyn T B s) ∧ g' 12 0 0 14 = nI (yyj T B s) ∧ Tkm (yyk T B s) (g' 12 0 0 15) (g' 12 0 0 16) := by
  have hT := hM.1
  obtain ⟨j1, j2⟩ := yyj_le (B := B) hs
  have sk : ∀ d, zev L (d + 2) 185 0 [some (.inr (.inl (12, 0, 0))), none] [] g = zev L (d + 2) 185 39 [some (.inr (.inl (12, 0, 0))), none] [] (zup g 12 0 0 13 (nI (yyj T B s))) := mSkip 400 s g hs (by omega) hM e
  unfold yyn yyk
  generalize yyj T B s = j at *
  have f1 : yyF g (zup (zup (zup g 12 0 0 13 (nI j)) 12 0 0 14 (nI j)) 12 0 0 15 (nI 1)) := yyF_u (yyF_u (yyF_u yyF_r (by omega) (by omega)) (by omega) (by omega)) (by omega) (by omega)
  have m := fun d => m180 (L := L) (d := d) (k := j) (yyM_F hM f1) (by omega)
  have st : ∀ d, zev L (d + 2) 185 0 [some (.inr (.inl (12, 0, 0))), none] [] g = zev L (d + 2) 185 60 [some (.inr (.inl (12, 0, 0))), none] [(.inl (yyrw T B j))] (zup (zup (zup g 12 0 0 13 (nI j)) 12 0 0 14 (nI j)) 12 0 0 15 (nI 1)) := fun d => by
    rw [sk d, b185_39]
    simp (disch := first | omega | simp (disch := omega) only [nI_add, pk_mul, pk_sub, pk_div, znmod, nI_clamp, nIleT, nIleF, nIltT, nIltF, nIeqT, nIeqF, nIm1, nIm1q, zupE, zupN, vpT, nI_01, nI_11, ↓reduceIte, Option.bind_some, Option.toList_some, Option.toList_none, List.cons_append, List.nil_append, Nat.reduceAdd, Nat.reduceMul, Nat.reduceSub, Nat.reduceDiv, Nat.reduceMod, and_true, true_and, and_false, false_and, not_true_eq_false, not_false_eq_true, or_true, true_or, or_false, false_or, Int32.lt_irrefl, Int32.le_refl, m]) only [nI_add, pk_mul, pk_sub, pk_div, znmod, nI_clamp, nIleT, nIleF, nIltT, nIltF, nIeqT, nIeqF, nIm1, nIm1q, zupE, zupN, vpT, nI_01, nI_11, ↓reduceIte, Option.bind_some, Option.toList_some, Option.toList_none, List.cons_append, List.nil_append, Nat.reduceAdd, Nat.reduceMul, Nat.reduceSub, Nat.reduceDiv, Nat.reduceMod, and_true, true_and, and_false, false_and, not_true_eq_false, not_false_eq_true, or_true, true_or, or_false, false_or, Int32.lt_irrefl, Int32.le_refl, m, b185_47, b185_52]
  by_cases c : j < T
  · rw [if_pos c, if_pos c]
    have er : yyrw T B j = nI (B j) := if_pos c
    obtain ⟨_, lb⟩ := hM.2.2.1 j c
    have f2 : yyF g (zup (zup (zup (zup (zup g 12 0 0 13 (nI j)) 12 0 0 14 (nI j)) 12 0 0 15 (nI 1)) 12 0 0 13 (nI (j + 1))) 12 0 0 16 (nI (B j))) := yyF_u (yyF_u f1 (by omega) (by omega)) (by omega) (by omega)
    have st2 : ∀ d, zev L (d + 2) 185 0 [some (.inr (.inl (12, 0, 0))), none] [] g = zev L (d + 2) 185 87 [some (.inr (.inl (12, 0, 0))), some (.inl (nI (B j)))] [] (zup (zup (zup (zup (zup g 12 0 0 13 (nI j)) 12 0 0 14 (nI j)) 12 0 0 15 (nI 1)) 12 0 0 13 (nI (j + 1))) 12 0 0 16 (nI (B j))) := fun d => by
      rw [st d, er, b185_60]
      simp (disch := first | omega | simp (disch := omega) only [nI_add, pk_mul, pk_sub, pk_div, znmod, nI_clamp, nIleT, nIleF, nIltT, nIltF, nIeqT, nIeqF, nIm1, nIm1q, zupE, zupN, vpT, nI_01, nI_11, ↓reduceIte, Option.bind_some, Option.toList_some, Option.toList_none, List.cons_append, List.nil_append, Nat.reduceAdd, Nat.reduceMul, Nat.reduceSub, Nat.reduceDiv, Nat.reduceMod, and_true, true_and, and_false, false_and, not_true_eq_false, not_false_eq_true, or_true, true_or, or_false, false_or, Int32.lt_irrefl, Int32.le_refl]) only [nI_add, pk_mul, pk_sub, pk_div, znmod, nI_clamp, nIleT, nIleF, nIltT, nIltF, nIeqT, nIeqF, nIm1, nIm1q, zupE, zupN, vpT, nI_01, nI_11, ↓reduceIte, Option.bind_some, Option.toList_some, Option.toList_none, List.cons_append, List.nil_append, Nat.reduceAdd, Nat.reduceMul, Nat.reduceSub, Nat.reduceDiv, Nat.reduceMod, and_true, true_and, and_false, false_and, not_true_eq_false, not_false_eq_true, or_true, true_or, or_false, false_or, Int32.lt_irrefl, Int32.le_refl, b185_72, b185_82]
    unfold yykj
    by_cases cl : yyL (B j) = true
    · have ee : yye T B j = yyu (yyQ T yyL B) 400 (j + 1) := if_pos cl
      obtain ⟨e1, e2⟩ := yye_le (B := B) c
      rw [if_pos cl]
      have rl := mRunL (L := L) (x := nI (B j)) 400 (j + 1) _ (by omega) (by omega) (yyM_F hM f2) (by rw [zupN (by omega), zupE (by omega)])
      rw [← ee] at rl
      have f3 := yyF_u (v := nI (yye T B j)) f2 (show 13 ≤ 13 by omega) (show 13 ≤ 16 by omega)
      have hl : ∀ k, j ≤ k → k < yye T B j → B k ≠ 32 := fun k h1 h2 q => by
        have : yyL (B k) = true := by
          by_cases ek : k = j
          · rw [ek]; exact cl
          · rw [ee] at h2
            exact (yyQ_t.1 (yyu_in 400 (j + 1) k (by omega) h2)).2
        rw [q] at this
        exact absurd this (by decide)
      have wd := fun d => mWord (L := L) (d := d) (yyM_F hM f3) e2 (Nat.le_of_lt e1) hl
      have ml := fun d => m181 (L := L) (d := d) (g := zup (zup (zup (zup (zup g 12 0 0 13 (nI j)) 12 0 0 14 (nI j)) 12 0 0 15 (nI 1)) 12 0 0 13 (nI (j + 1))) 12 0 0 16 (nI (B j))) lb
      rcases yywd (yysg B j (yye T B j - j)) with ⟨w, w1, w2, w3⟩ | ⟨w2, w3⟩
      · have hwm : yymc w < 27 := by unfold yymc; split <;> (try split) <;> omega
        rw [w2]
        refine ⟨_, fun d => (st2 d).trans ?_, yyF_u (j := 15) (v := nI 2) (yyF_u (j := 16) (v := nI (yymc w)) f3 (by omega) (by omega)) (by omega) (by omega), by rw [zupN (by omega), zupN (by omega), zupE (by omega)], by rw [zupN (by omega), zupN (by omega), zupN (by omega), zupN (by omega), zupN (by omega), zupN (by omega), zupE (by omega)], Or.inr (Or.inr (Or.inr (Or.inl ⟨w, w1, rfl, by rw [zupE (by omega)], by rw [zupN (by omega), zupE (by omega)]⟩)))⟩
        rw [b185_87]
        simp (disch := first | omega | simp (disch := omega) only [nI_add, pk_mul, pk_sub, pk_div, znmod, nI_clamp, nIleT, nIleF, nIltT, nIltF, nIeqT, nIeqF, nIm1, nIm1q, zupE, zupN, vpT, nI_01, nI_11, ↓reduceIte, Option.bind_some, Option.toList_some, Option.toList_none, List.cons_append, List.nil_append, Nat.reduceAdd, Nat.reduceMul, Nat.reduceSub, Nat.reduceDiv, Nat.reduceMod, and_true, true_and, and_false, false_and, not_true_eq_false, not_false_eq_true, or_true, true_or, or_false, false_or, Int32.lt_irrefl, Int32.le_refl, ml, cl, Bool.toNat_true]) only [nI_add, pk_mul, pk_sub, pk_div, znmod, nI_clamp, nIleT, nIleF, nIltT, nIltF, nIeqT, nIeqF, nIm1, nIm1q, zupE, zupN, vpT, nI_01, nI_11, ↓reduceIte, Option.bind_some, Option.toList_some, Option.toList_none, List.cons_append, List.nil_append, Nat.reduceAdd, Nat.reduceMul, Nat.reduceSub, Nat.reduceDiv, Nat.reduceMod, and_true, true_and, and_false, false_and, not_true_eq_false, not_false_eq_true, or_true, true_or, or_false, false_or, Int32.lt_irrefl, Int32.le_refl, ml, cl, Bool.toNat_true, b185_92]
        rw [rl d]
        simp (disch := first | omega | simp (disch := omega) only [nI_add, pk_mul, pk_sub, pk_div, znmod, nI_clamp, nIleT, nIleF, nIltT, nIltF, nIeqT, nIeqF, nIm1, nIm1q, zupE, zupN, vpT, nI_01, nI_11, ↓reduceIte, Option.bind_some, Option.toList_some, Option.toList_none, List.cons_append, List.nil_append, Nat.reduceAdd, Nat.reduceMul, Nat.reduceSub, Nat.reduceDiv, Nat.reduceMod, and_true, true_and, and_false, false_and, not_true_eq_false, not_false_eq_true, or_true, true_or, or_false, false_or, Int32.lt_irrefl, Int32.le_refl, wd, w3]) only [nI_add, pk_mul, pk_sub, pk_div, znmod, nI_clamp, nIleT, nIleF, nIltT, nIltF, nIeqT, nIeqF, nIm1, nIm1q, zupE, zupN, vpT, nI_01, nI_11, ↓reduceIte, Option.bind_some, Option.toList_some, Option.toList_none, List.cons_append, List.nil_append, Nat.reduceAdd, Nat.reduceMul, Nat.reduceSub, Nat.reduceDiv, Nat.reduceMod, and_true, true_and, and_false, false_and, not_true_eq_false, not_false_eq_true, or_true, true_or, or_false, false_or, Int32.lt_irrefl, Int32.le_refl, wd, w3, b185_123, b185_136, b185_139, b185_147, b185_152, b185_273]
      · rw [w2]
        refine ⟨_, fun d => (st2 d).trans ?_, yyF_u (j := 16) (v := (-1)) f3 (by omega) (by omega), by rw [zupN (by omega), zupE (by omega)], by rw [zupN (by omega), zupN (by omega), zupN (by omega), zupN (by omega), zupN (by omega), zupE (by omega)], Or.inr (Or.inl ⟨rfl, by rw [zupN (by omega), zupN (by omega), zupN (by omega), zupN (by omega), zupE (by omega)]⟩)⟩
        rw [b185_87]
        simp (disch := first | omega | simp (disch := omega) only [nI_add, pk_mul, pk_sub, pk_div, znmod, nI_clamp, nIleT, nIleF, nIltT, nIltF, nIeqT, nIeqF, nIm1, nIm1q, zupE, zupN, vpT, nI_01, nI_11, ↓reduceIte, Option.bind_some, Option.toList_some, Option.toList_none, List.cons_append, List.nil_append, Nat.reduceAdd, Nat.reduceMul, Nat.reduceSub, Nat.reduceDiv, Nat.reduceMod, and_true, true_and, and_false, false_and, not_true_eq_false, not_false_eq_true, or_true, true_or, or_false, false_or, Int32.lt_irrefl, Int32.le_refl, ml, cl, Bool.toNat_true]) only [nI_add, pk_mul, pk_sub, pk_div, znmod, nI_clamp, nIleT, nIleF, nIltT, nIltF, nIeqT, nIeqF, nIm1, nIm1q, zupE, zupN, vpT, nI_01, nI_11, ↓reduceIte, Option.bind_some, Option.toList_some, Option.toList_none, List.cons_append, List.nil_append, Nat.reduceAdd, Nat.reduceMul, Nat.reduceSub, Nat.reduceDiv, Nat.reduceMod, and_true, true_and, and_false, false_and, not_true_eq_false, not_false_eq_true, or_true, true_or, or_false, false_or, Int32.lt_irrefl, Int32.le_refl, ml, cl, Bool.toNat_true, b185_92]
        rw [rl d]
        simp (disch := first | omega | simp (disch := omega) only [nI_add, pk_mul, pk_sub, pk_div, znmod, nI_clamp, nIleT, nIleF, nIltT, nIltF, nIeqT, nIeqF, nIm1, nIm1q, zupE, zupN, vpT, nI_01, nI_11, ↓reduceIte, Option.bind_some, Option.toList_some, Option.toList_none, List.cons_append, List.nil_append, Nat.reduceAdd, Nat.reduceMul, Nat.reduceSub, Nat.reduceDiv, Nat.reduceMod, and_true, true_and, and_false, false_and, not_true_eq_false, not_false_eq_true, or_true, true_or, or_false, false_or, Int32.lt_irrefl, Int32.le_refl, wd, w3]) only [nI_add, pk_mul, pk_sub, pk_div, znmod, nI_clamp, nIleT, nIleF, nIltT, nIltF, nIeqT, nIeqF, nIm1, nIm1q, zupE, zupN, vpT, nI_01, nI_11, ↓reduceIte, Option.bind_some, Option.toList_some, Option.toList_none, List.cons_append, List.nil_append, Nat.reduceAdd, Nat.reduceMul, Nat.reduceSub, Nat.reduceDiv, Nat.reduceMod, and_true, true_and, and_false, false_and, not_true_eq_false, not_false_eq_true, or_true, true_or, or_false, false_or, Int32.lt_irrefl, Int32.le_refl, wd, w3, b185_123, b185_136, b185_139, b185_273]
    · have cl' : yyL (B j) = false := by cases h : yyL (B j) with
        | true => exact absurd h cl
        | false => rfl
      rw [if_neg cl]
      have ml := fun d => m181 (L := L) (d := d) (g := zup (zup (zup (zup (zup g 12 0 0 13 (nI j)) 12 0 0 14 (nI j)) 12 0 0 15 (nI 1)) 12 0 0 13 (nI (j + 1))) 12 0 0 16 (nI (B j))) lb
      have md := fun d => m182 (L := L) (d := d) (g := zup (zup (zup (zup (zup g 12 0 0 13 (nI j)) 12 0 0 14 (nI j)) 12 0 0 15 (nI 1)) 12 0 0 13 (nI (j + 1))) 12 0 0 16 (nI (B j))) lb
      have ms := fun d => m183 (L := L) (d := d) (g := zup (zup (zup (zup (zup g 12 0 0 13 (nI j)) 12 0 0 14 (nI j)) 12 0 0 15 (nI 1)) 12 0 0 13 (nI (j + 1))) 12 0 0 16 (nI (B j))) lb
      by_cases cd : yyD (B j) = true
      · have ee : yye T B j = yyu (yyQ T yyD B) 400 (j + 1) := by unfold yye; rw [if_neg cl, if_pos cd]
        obtain ⟨e1, e2⟩ := yye_le (B := B) c
        rw [if_pos cd]
        have cd2 := yyD_t.1 cd
        obtain ⟨v, r1, r2⟩ := mRunD (L := L) (x := nI (B j)) (a := j) 400 (j + 1) (nI (B j - 48)) (zup (zup (zup (zup (zup g 12 0 0 13 (nI j)) 12 0 0 14 (nI j)) 12 0 0 15 (nI 1)) 12 0 0 13 (nI (j + 1))) 12 0 0 16 (nI (B j))) (by omega) (by omega) (by omega) (yyM_F hM f2) (fun k h1 h2 => by rw [show k = j by omega]; exact cd) (fun _ => by
          rw [show j + 1 - j = 0 + 1 by omega, yydc, yydc, Nat.add_zero, Nat.mul_zero, Nat.zero_add])
        rw [← ee] at r1 r2
        have f3 := yyF_u (v := nI (yye T B j)) (yyF_u (v := v) f2 (show 13 ≤ 16 by omega) (show 16 ≤ 16 by omega)) (show 13 ≤ 13 by omega) (show 13 ≤ 16 by omega)
        have r0 : ∀ d, zev L (d + 2) 185 0 [some (.inr (.inl (12, 0, 0))), none] [] g = zev L (d + 2) 185 239 [some (.inr (.inl (12, 0, 0))), some (.inl (nI (B j)))] [] (zup (zup (zup (zup (zup (zup (zup g 12 0 0 13 (nI j)) 12 0 0 14 (nI j)) 12 0 0 15 (nI 1)) 12 0 0 13 (nI (j + 1))) 12 0 0 16 (nI (B j))) 12 0 0 16 v) 12 0 0 13 (nI (yye T B j))) := fun d => by
          rw [st2 d, b185_87]
          simp (disch := first | omega | simp (disch := omega) only [nI_add, pk_mul, pk_sub, pk_div, znmod, nI_clamp, nIleT, nIleF, nIltT, nIltF, nIeqT, nIeqF, nIm1, nIm1q, zupE, zupN, vpT, nI_01, nI_11, ↓reduceIte, Option.bind_some, Option.toList_some, Option.toList_none, List.cons_append, List.nil_append, Nat.reduceAdd, Nat.reduceMul, Nat.reduceSub, Nat.reduceDiv, Nat.reduceMod, and_true, true_and, and_false, false_and, not_true_eq_false, not_false_eq_true, or_true, true_or, or_false, false_or, Int32.lt_irrefl, Int32.le_refl, ml, md, cl', cd, Bool.toNat_true, Bool.toNat_false]) only [nI_add, pk_mul, pk_sub, pk_div, znmod, nI_clamp, nIleT, nIleF, nIltT, nIltF, nIeqT, nIeqF, nIm1, nIm1q, zupE, zupN, vpT, nI_01, nI_11, ↓reduceIte, Option.bind_some, Option.toList_some, Option.toList_none, List.cons_append, List.nil_append, Nat.reduceAdd, Nat.reduceMul, Nat.reduceSub, Nat.reduceDiv, Nat.reduceMod, and_true, true_and, and_false, false_and, not_true_eq_false, not_false_eq_true, or_true, true_or, or_false, false_or, Int32.lt_irrefl, Int32.le_refl, ml, md, cl', cd, Bool.toNat_true, Bool.toNat_false, b185_92, b185_155, b185_160, b185_163]
          rw [← r1 d]
          congr 1
          exact (zup_id (by rw [zupN (by omega), zupN (by omega), zupE (by omega)])).symm
        by_cases c4 : yye T B j - j ≤ 4
        · have ev := r2 c4
          subst ev
          rw [if_pos c4]
          have hdd : ∀ k, j ≤ k → k < j + (yye T B j - j) → yyD (B k) = true := fun k h1 h2 => by
            by_cases ek : k = j
            · rw [ek]; exact cd
            · exact (yyQ_t.1 (yyu_in 400 (j + 1) k (by omega) (by rw [← ee]; omega))).2
          have l := yydc_lt (B := B) (a := j) (yye T B j - j) hdd
          have l2 : 10 ^ (yye T B j - j) ≤ 10 ^ 4 := Nat.pow_le_pow_right (by omega) c4
          refine ⟨_, fun d => (r0 d).trans ?_, yyF_u (j := 15) (v := nI 3) f3 (by omega) (by omega), by rw [zupN (by omega), zupE (by omega)], by rw [zupN (by omega), zupN (by omega), zupN (by omega), zupN (by omega), zupN (by omega), zupN (by omega), zupE (by omega)], Or.inr (Or.inr (Or.inr (Or.inr ⟨_, by omega, rfl, by rw [zupE (by omega)], by rw [zupN (by omega), zupN (by omega), zupE (by omega)]⟩)))⟩
          rw [b185_239]
          simp (disch := first | omega | simp (disch := omega) only [nI_add, pk_mul, pk_sub, pk_div, znmod, nI_clamp, nIleT, nIleF, nIltT, nIltF, nIeqT, nIeqF, nIm1, nIm1q, zupE, zupN, vpT, nI_01, nI_11, ↓reduceIte, Option.bind_some, Option.toList_some, Option.toList_none, List.cons_append, List.nil_append, Nat.reduceAdd, Nat.reduceMul, Nat.reduceSub, Nat.reduceDiv, Nat.reduceMod, and_true, true_and, and_false, false_and, not_true_eq_false, not_false_eq_true, or_true, true_or, or_false, false_or, Int32.lt_irrefl, Int32.le_refl]) only [nI_add, pk_mul, pk_sub, pk_div, znmod, nI_clamp, nIleT, nIleF, nIltT, nIltF, nIeqT, nIeqF, nIm1, nIm1q, zupE, zupN, vpT, nI_01, nI_11, ↓reduceIte, Option.bind_some, Option.toList_some, Option.toList_none, List.cons_append, List.nil_append, Nat.reduceAdd, Nat.reduceMul, Nat.reduceSub, Nat.reduceDiv, Nat.reduceMod, and_true, true_and, and_false, false_and, not_true_eq_false, not_false_eq_true, or_true, true_or, or_false, false_or, Int32.lt_irrefl, Int32.le_refl, b185_252, b185_257, b185_273]
        · rw [if_neg c4]
          refine ⟨_, fun d => (r0 d).trans ?_, f3, by rw [zupE (by omega)], by rw [zupN (by omega), zupN (by omega), zupN (by omega), zupN (by omega), zupN (by omega), zupE (by omega)], Or.inr (Or.inl ⟨rfl, by rw [zupN (by omega), zupN (by omega), zupN (by omega), zupN (by omega), zupE (by omega)]⟩)⟩
          rw [b185_239]
          simp (disch := first | omega | simp (disch := omega) only [nI_add, pk_mul, pk_sub, pk_div, znmod, nI_clamp, nIleT, nIleF, nIltT, nIltF, nIeqT, nIeqF, nIm1, nIm1q, zupE, zupN, vpT, nI_01, nI_11, ↓reduceIte, Option.bind_some, Option.toList_some, Option.toList_none, List.cons_append, List.nil_append, Nat.reduceAdd, Nat.reduceMul, Nat.reduceSub, Nat.reduceDiv, Nat.reduceMod, and_true, true_and, and_false, false_and, not_true_eq_false, not_false_eq_true, or_true, true_or, or_false, false_or, Int32.lt_irrefl, Int32.le_refl]) only [nI_add, pk_mul, pk_sub, pk_div, znmod, nI_clamp, nIleT, nIleF, nIltT, nIltF, nIeqT, nIeqF, nIm1, nIm1q, zupE, zupN, vpT, nI_01, nI_11, ↓reduceIte, Option.bind_some, Option.toList_some, Option.toList_none, List.cons_append, List.nil_append, Nat.reduceAdd, Nat.reduceMul, Nat.reduceSub, Nat.reduceDiv, Nat.reduceMod, and_true, true_and, and_false, false_and, not_true_eq_false, not_false_eq_true, or_true, true_or, or_false, false_or, Int32.lt_irrefl, Int32.le_refl, b185_273]
      · have cd' : yyD (B j) = false := by cases h : yyD (B j) with
          | true => exact absurd h cd
          | false => rfl
        have ee : yye T B j = j + 1 := by unfold yye; rw [if_neg cl, if_neg cd]
        rw [if_neg cd, ee]
        by_cases cs : yyS (B j) = true
        · rw [if_pos cs]
          refine ⟨_, fun d => (st2 d).trans ?_, yyF_u (j := 15) (v := nI 4) f2 (by omega) (by omega), by rw [zupN (by omega), zupN (by omega), zupE (by omega)], by rw [zupN (by omega), zupN (by omega), zupN (by omega), zupN (by omega), zupE (by omega)], Or.inr (Or.inr (Or.inl ⟨cs, by rw [zupE (by omega)], by rw [zupN (by omega), zupE (by omega)]⟩))⟩
          rw [b185_87]
          simp (disch := first | omega | simp (disch := omega) only [nI_add, pk_mul, pk_sub, pk_div, znmod, nI_clamp, nIleT, nIleF, nIltT, nIltF, nIeqT, nIeqF, nIm1, nIm1q, zupE, zupN, vpT, nI_01, nI_11, ↓reduceIte, Option.bind_some, Option.toList_some, Option.toList_none, List.cons_append, List.nil_append, Nat.reduceAdd, Nat.reduceMul, Nat.reduceSub, Nat.reduceDiv, Nat.reduceMod, and_true, true_and, and_false, false_and, not_true_eq_false, not_false_eq_true, or_true, true_or, or_false, false_or, Int32.lt_irrefl, Int32.le_refl, ml, md, ms, cl', cd', cs, Bool.toNat_true, Bool.toNat_false]) only [nI_add, pk_mul, pk_sub, pk_div, znmod, nI_clamp, nIleT, nIleF, nIltT, nIltF, nIeqT, nIeqF, nIm1, nIm1q, zupE, zupN, vpT, nI_01, nI_11, ↓reduceIte, Option.bind_some, Option.toList_some, Option.toList_none, List.cons_append, List.nil_append, Nat.reduceAdd, Nat.reduceMul, Nat.reduceSub, Nat.reduceDiv, Nat.reduceMod, and_true, true_and, and_false, false_and, not_true_eq_false, not_false_eq_true, or_true, true_or, or_false, false_or, Int32.lt_irrefl, Int32.le_refl, ml, md, ms, cl', cd', cs, Bool.toNat_true, Bool.toNat_false, b185_92, b185_155, b185_160, b185_260, b185_265, b185_268, b185_273]
        · have cs' : yyS (B j) = false := by cases h : yyS (B j) with
            | true => exact absurd h cs
            | false => rfl
          rw [if_neg cs]
          refine ⟨_, fun d => (st2 d).trans ?_, f2, by rw [zupN (by omega), zupE (by omega)], by rw [zupN (by omega), zupN (by omega), zupN (by omega), zupE (by omega)], Or.inr (Or.inl ⟨rfl, by rw [zupN (by omega), zupN (by omega), zupE (by omega)]⟩)⟩
          rw [b185_87]
          simp (disch := first | omega | simp (disch := omega) only [nI_add, pk_mul, pk_sub, pk_div, znmod, nI_clamp, nIleT, nIleF, nIltT, nIltF, nIeqT, nIeqF, nIm1, nIm1q, zupE, zupN, vpT, nI_01, nI_11, ↓reduceIte, Option.bind_some, Option.toList_some, Option.toList_none, List.cons_append, List.nil_append, Nat.reduceAdd, Nat.reduceMul, Nat.reduceSub, Nat.reduceDiv, Nat.reduceMod, and_true, true_and, and_false, false_and, not_true_eq_false, not_false_eq_true, or_true, true_or, or_false, false_or, Int32.lt_irrefl, Int32.le_refl, ml, md, ms, cl', cd', cs', Bool.toNat_true, Bool.toNat_false]) only [nI_add, pk_mul, pk_sub, pk_div, znmod, nI_clamp, nIleT, nIleF, nIltT, nIltF, nIeqT, nIeqF, nIm1, nIm1q, zupE, zupN, vpT, nI_01, nI_11, ↓reduceIte, Option.bind_some, Option.toList_some, Option.toList_none, List.cons_append, List.nil_append, Nat.reduceAdd, Nat.reduceMul, Nat.reduceSub, Nat.reduceDiv, Nat.reduceMod, and_true, true_and, and_false, false_and, not_true_eq_false, not_false_eq_true, or_true, true_or, or_false, false_or, Int32.lt_irrefl, Int32.le_refl, ml, md, ms, cl', cd', cs', Bool.toNat_true, Bool.toNat_false, b185_92, b185_155, b185_160, b185_260, b185_265, b185_273]
  · rw [if_neg c, if_neg c]
    have er : yyrw T B j = (-1) := if_neg c
    refine ⟨_, fun d => (st d).trans ?_, yyF_u (j := 15) (v := nI 0) f1 (by omega) (by omega), by rw [zupN (by omega), zupN (by omega), zupN (by omega), zupE (by omega)], by rw [zupN (by omega), zupN (by omega), zupE (by omega)], Or.inl ⟨rfl, by rw [zupE (by omega)]⟩⟩
    rw [er, b185_60]
    simp (disch := first | omega | simp (disch := omega) only [nI_add, pk_mul, pk_sub, pk_div, znmod, nI_clamp, nIleT, nIleF, nIltT, nIltF, nIeqT, nIeqF, nIm1, nIm1q, zupE, zupN, vpT, nI_01, nI_11, ↓reduceIte, Option.bind_some, Option.toList_some, Option.toList_none, List.cons_append, List.nil_append, Nat.reduceAdd, Nat.reduceMul, Nat.reduceSub, Nat.reduceDiv, Nat.reduceMod, and_true, true_and, and_false, false_and, not_true_eq_false, not_false_eq_true, or_true, true_or, or_false, false_or, Int32.lt_irrefl, Int32.le_refl]) only [nI_add, pk_mul, pk_sub, pk_div, znmod, nI_clamp, nIleT, nIleF, nIltT, nIltF, nIeqT, nIeqF, nIm1, nIm1q, zupE, zupN, vpT, nI_01, nI_11, ↓reduceIte, Option.bind_some, Option.toList_some, Option.toList_none, List.cons_append, List.nil_append, Nat.reduceAdd, Nat.reduceMul, Nat.reduceSub, Nat.reduceDiv, Nat.reduceMod, and_true, true_and, and_false, false_and, not_true_eq_false, not_false_eq_true, or_true, true_or, or_false, false_or, Int32.lt_irrefl, Int32.le_refl, b185_66, b185_71]
end LR
