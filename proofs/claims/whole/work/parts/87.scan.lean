/-! text: the class's row of tokens -/
def yysp (T : Nat) (B : Nat → Nat) : Nat → Nat
  | 0 => 0
  | i + 1 => yyn T B (yysp T B i)
def yykd (T : Nat) (B : Nat → Nat) (i : Nat) : Nat := yyk T B (yysp T B i)
def yypl (T : Nat) (B : Nat → Nat) (i : Nat) : Nat := yyj T B (yysp T B i)
theorem yyix_0 : ∀ (l : List (List Nat)) (s : List Nat) (k : Nat), 0 < k → yyix l s k ≠ 0
  | [], _, _, _ => by show 1 ≠ 0; omega
  | w :: r, s, k, h => by
    rw [yyix]
    split
    · omega
    · exact yyix_0 r s (k + 1) (by omega)
theorem yykj_0 {T : Nat} {B : Nat → Nat} {j : Nat} : yykj T B j ≠ 0 := by
  unfold yykj
  split
  · exact yyix_0 _ _ _ (by omega)
  · split
    · split <;> omega
    · split
      · rename_i h
        intro e
        rw [e] at h
        exact absurd h (by decide)
      · omega
theorem yysp_le {T : Nat} {B : Nat → Nat} : ∀ i, yysp T B i ≤ T
  | 0 => Nat.zero_le _
  | i + 1 => (yyn_le (yysp_le i)).2
section SC
variable {L : Nat} {h : zH} {T : Nat} {B : Nat → Nat}
/-- all but the tokens' rows -/
def yyG (h g : zH) : Prop := ∀ k i s j, ¬ (k = 7 ∧ i = 0 ∧ (s = 2 ∨ s = 3)) → g k i s j = h k i s j
theorem yyG_u {g : zH} {s j : Nat} {v : Int32} (f : yyG h g) (hs : s = 2 ∨ s = 3) : yyG h (zup g 7 0 s j v) := fun k i s' j' q => by
  rw [zupN (by omega)]; exact f k i s' j' q
theorem yyC_G {g : zH} (hC : yyC T B h) (f : yyG h g) : yyC T B g := by
  obtain ⟨hT, e3, hB, e1, e2⟩ := hC
  refine ⟨hT, by rw [f 7 0 0 3 (by omega)]; exact e3, fun j hj => ?_, by rw [f 15 0 0 1 (by omega)]; exact e1, fun j hj => ?_⟩
  · rw [f 7 0 1 j (by omega)]; exact hB j hj
  · rw [f 15 0 1 j (by omega)]; exact e2 j hj
theorem yyj_W {s : Nat} (hs : s < T) (hT : T ≤ 400) (hw : yyW (B s) = true) : yyj T B s = yyj T B (s + 1) := by
  have q : yyQ T yyW B s = true := yyQ_t.2 ⟨hs, hw⟩
  have e : yyu (yyQ T yyW B) (399 + 1) s = yyu (yyQ T yyW B) 399 (s + 1) := by rw [yyu, if_pos q]
  show yyu (yyQ T yyW B) (399 + 1) s = _
  rw [e]
  exact yyu_f 399 400 (s + 1) (by omega) (by omega)
theorem yyj_N {s : Nat} (hw : yyQ T yyW B s = false) : yyj T B s = s := yyu_no hw
/-- what the row holds up to i -/
def yyR (T : Nat) (B : Nat → Nat) (g : zH) (i : Nat) : Prop := ∀ k, k < i → g 7 0 2 k = nI (yykd T B k) ∧ g 7 0 3 k = nI (yypl T B k) ∧ yykd T B k ≠ 0
theorem yyR_s {g : zH} {i : Nat} (r : yyR T B g i) (h0 : yykd T B i ≠ 0) : yyR T B (zup (zup g 7 0 2 i (nI (yykd T B i))) 7 0 3 i (nI (yypl T B i))) (i + 1) := fun k hk => by
  by_cases c : k = i
  · subst c
    rw [zupN (by omega), zupE (by omega), zupE (by omega)]
    exact ⟨rfl, rfl, h0⟩
  · rw [zupN (by omega), zupN (by omega), zupN (by omega), zupN (by omega)]
    exact r k (by omega)
theorem kScanL (hC : yyC T B h) : ∀ n s, T ≤ s + n → s ≤ T → ∀ i (g : zH) (a3 : Option zV), i ≤ s → yyj T B s = yyj T B (yysp T B i) → yyG h g → yyR T B g i → ∃ t g', (∀ d, zev L (d + 6) 75 4 [some (.inr (.inl (7, 0, 0))), some (.inl (nI i)), some (.inl (nI s)), a3] [] g = some (none, g')) ∧ t ≤ T ∧ (∀ k i s j, ¬ (k = 7 ∧ i = 0 ∧ (s = 2 ∨ s = 3 ∨ (s = 0 ∧ j = 3))) → g' k i s j = h k i s j) ∧ g' 7 0 0 3 = nI 0 ∧ yyR T B g' t ∧ g' 7 0 2 t = nI 0 ∧ g' 7 0 3 t = nI (yypl T B t) ∧ yykd T B t = 0
  | n, s, hn, hs, i, g, a3, hi, hj, f, r => by
    have hT := hC.1
    have hCg := yyC_G hC f
    have e3 := hCg.2.1
    by_cases c : s < T
    · cases n with
      | zero => omega
      | succ n =>
        obtain ⟨eb, lb⟩ := hCg.2.2.1 s c
        have kl := fun d => k77 (L := L) (d := d) hCg c
        have kd := fun d => k78 (L := L) (d := d) hCg c
        -- one token more
        have tok : yyW (B s) = false → yypl T B i = s ∧ yykd T B i = yykj T B s ∧ yysp T B (i + 1) = yye T B s := fun hw => by
          have q : yyQ T yyW B s = false := by cases hq : yyQ T yyW B s with
            | false => rfl
            | true => rw [(yyQ_t.1 hq).2] at hw; cases hw
          have e1 : yyj T B (yysp T B i) = s := by rw [← hj]; exact yyj_N q
          refine ⟨e1, ?_, ?_⟩
          · unfold yykd yyk; rw [e1, if_pos c]
          · show yyn T B (yysp T B i) = _
            unfold yyn; rw [e1, if_pos c]
        by_cases cl : yyL (B s) = true
        · have hw : yyW (B s) = false := yyW_f.2 (by have := yyL_t.1 cl; omega)
          obtain ⟨t1, t2, t3⟩ := tok hw
          obtain ⟨l1, l2⟩ := yye_le (B := B) c
          have ee : yye T B s = yyu (yyQ T yyL B) 400 (s + 1) := if_pos cl
          have kr := fun d => kRunL (L := L) (f := s) (i := i) hCg 400 (s + 1) (by omega) (by omega) d
          rw [← ee] at kr
          have kw := fun d => k79 (L := L) (d := d) hCg l2 (Nat.le_of_lt l1)
          have ek : yyix yyWc (yysg B s (yye T B s - s)) 256 = yykd T B i := by rw [t2]; unfold yykj; rw [if_pos cl]
          rw [ek] at kw
          have kp := fun d => k76 (L := L) (d := d) (h := g) (i := i) (x := nI (yykd T B i)) (y := nI s) (by omega)
          have r' := yyR_s r (by rw [t2]; exact yykj_0)
          rw [t1] at r'
          obtain ⟨t, g', i1, i2⟩ := kScanL hC n (yye T B s) (by omega) l2 (i + 1) _ (some (.inl (nI s))) (by omega) (by rw [t3]) (yyG_u (yyG_u f (Or.inl rfl)) (Or.inr rfl)) r'
          refine ⟨t, g', fun d => Eq.trans (b75_4.trans ?_) (i1 d), i2⟩
          simp (disch := first | omega | simp (disch := omega) only [nI_add, pk_mul, pk_sub, pk_div, znmod, nI_clamp, nIleT, nIleF, nIltT, nIltF, nIeqT, nIeqF, nIm1, nIm1q, zupE, zupN, vpT, nI_01, nI_11, ↓reduceIte, Option.bind_some, Option.toList_some, Option.toList_none, List.cons_append, List.nil_append, Nat.reduceAdd, Nat.reduceMul, Nat.reduceSub, Nat.reduceDiv, Nat.reduceMod, and_true, true_and, and_false, false_and, not_true_eq_false, not_false_eq_true, or_true, true_or, or_false, false_or, Int32.lt_irrefl, Int32.le_refl, e3, kl, cl, Bool.toNat_true]) only [nI_add, pk_mul, pk_sub, pk_div, znmod, nI_clamp, nIleT, nIleF, nIltT, nIltF, nIeqT, nIeqF, nIm1, nIm1q, zupE, zupN, vpT, nI_01, nI_11, ↓reduceIte, Option.bind_some, Option.toList_some, Option.toList_none, List.cons_append, List.nil_append, Nat.reduceAdd, Nat.reduceMul, Nat.reduceSub, Nat.reduceDiv, Nat.reduceMod, and_true, true_and, and_false, false_and, not_true_eq_false, not_false_eq_true, or_true, true_or, or_false, false_or, Int32.lt_irrefl, Int32.le_refl, e3, kl, cl, Bool.toNat_true, b75_12, b75_22]
          rw [kr]
          simp (disch := first | omega | simp (disch := omega) only [nI_add, pk_mul, pk_sub, pk_div, znmod, nI_clamp, nIleT, nIleF, nIltT, nIltF, nIeqT, nIeqF, nIm1, nIm1q, zupE, zupN, vpT, nI_01, nI_11, ↓reduceIte, Option.bind_some, Option.toList_some, Option.toList_none, List.cons_append, List.nil_append, Nat.reduceAdd, Nat.reduceMul, Nat.reduceSub, Nat.reduceDiv, Nat.reduceMod, and_true, true_and, and_false, false_and, not_true_eq_false, not_false_eq_true, or_true, true_or, or_false, false_or, Int32.lt_irrefl, Int32.le_refl, kw, kp]) only [nI_add, pk_mul, pk_sub, pk_div, znmod, nI_clamp, nIleT, nIleF, nIltT, nIltF, nIeqT, nIeqF, nIm1, nIm1q, zupE, zupN, vpT, nI_01, nI_11, ↓reduceIte, Option.bind_some, Option.toList_some, Option.toList_none, List.cons_append, List.nil_append, Nat.reduceAdd, Nat.reduceMul, Nat.reduceSub, Nat.reduceDiv, Nat.reduceMod, and_true, true_and, and_false, false_and, not_true_eq_false, not_false_eq_true, or_true, true_or, or_false, false_or, Int32.lt_irrefl, Int32.le_refl, kw, kp, b75_47, b75_55, b75_59, b75_153]
        · have cl' : yyL (B s) = false := by cases q : yyL (B s) with
            | true => exact absurd q cl
            | false => rfl
          by_cases cd : yyD (B s) = true
          · have hw : yyW (B s) = false := yyW_f.2 (by have := yyD_t.1 cd; omega)
            obtain ⟨t1, t2, t3⟩ := tok hw
            obtain ⟨l1, l2⟩ := yye_le (B := B) c
            have ee : yye T B s = yyu (yyQ T yyD B) 400 (s + 1) := by unfold yye; rw [if_neg cl, if_pos cd]
            have kr := fun d => kRunD (L := L) (f := s) (i := i) hCg 400 (s + 1) (by omega) (by omega) d
            rw [← ee] at kr
            have kw := fun d => k80 (L := L) (d := d) hCg l2 (Nat.le_of_lt l1) (fun j h1 h2 => by
              by_cases ej : j = s
              · rw [ej]; exact cd
              · exact (yyQ_t.1 (yyu_in 400 (s + 1) j (by omega) (by rw [← ee]; exact h2))).2)
            have ek : (if yye T B s - s ≤ 4 then 1000 + yydc B s (yye T B s - s) else 1) = yykd T B i := by rw [t2]; unfold yykj; rw [if_neg cl, if_pos cd]
            rw [ek] at kw
            have kp := fun d => k76 (L := L) (d := d) (h := g) (i := i) (x := nI (yykd T B i)) (y := nI s) (by omega)
            have r' := yyR_s r (by rw [t2]; exact yykj_0)
            rw [t1] at r'
            obtain ⟨t, g', i1, i2⟩ := kScanL hC n (yye T B s) (by omega) l2 (i + 1) _ (some (.inl (nI s))) (by omega) (by rw [t3]) (yyG_u (yyG_u f (Or.inl rfl)) (Or.inr rfl)) r'
            refine ⟨t, g', fun d => Eq.trans (b75_4.trans ?_) (i1 d), i2⟩
            simp (disch := first | omega | simp (disch := omega) only [nI_add, pk_mul, pk_sub, pk_div, znmod, nI_clamp, nIleT, nIleF, nIltT, nIltF, nIeqT, nIeqF, nIm1, nIm1q, zupE, zupN, vpT, nI_01, nI_11, ↓reduceIte, Option.bind_some, Option.toList_some, Option.toList_none, List.cons_append, List.nil_append, Nat.reduceAdd, Nat.reduceMul, Nat.reduceSub, Nat.reduceDiv, Nat.reduceMod, and_true, true_and, and_false, false_and, not_true_eq_false, not_false_eq_true, or_true, true_or, or_false, false_or, Int32.lt_irrefl, Int32.le_refl, e3, kl, kd, cl', cd, Bool.toNat_true, Bool.toNat_false]) only [nI_add, pk_mul, pk_sub, pk_div, znmod, nI_clamp, nIleT, nIleF, nIltT, nIltF, nIeqT, nIeqF, nIm1, nIm1q, zupE, zupN, vpT, nI_01, nI_11, ↓reduceIte, Option.bind_some, Option.toList_some, Option.toList_none, List.cons_append, List.nil_append, Nat.reduceAdd, Nat.reduceMul, Nat.reduceSub, Nat.reduceDiv, Nat.reduceMod, and_true, true_and, and_false, false_and, not_true_eq_false, not_false_eq_true, or_true, true_or, or_false, false_or, Int32.lt_irrefl, Int32.le_refl, e3, kl, kd, cl', cd, Bool.toNat_true, Bool.toNat_false, b75_12, b75_22, b75_65, b75_70]
            rw [kr]
            simp (disch := first | omega | simp (disch := omega) only [nI_add, pk_mul, pk_sub, pk_div, znmod, nI_clamp, nIleT, nIleF, nIltT, nIltF, nIeqT, nIeqF, nIm1, nIm1q, zupE, zupN, vpT, nI_01, nI_11, ↓reduceIte, Option.bind_some, Option.toList_some, Option.toList_none, List.cons_append, List.nil_append, Nat.reduceAdd, Nat.reduceMul, Nat.reduceSub, Nat.reduceDiv, Nat.reduceMod, and_true, true_and, and_false, false_and, not_true_eq_false, not_false_eq_true, or_true, true_or, or_false, false_or, Int32.lt_irrefl, Int32.le_refl, kw, kp]) only [nI_add, pk_mul, pk_sub, pk_div, znmod, nI_clamp, nIleT, nIleF, nIltT, nIltF, nIeqT, nIeqF, nIm1, nIm1q, zupE, zupN, vpT, nI_01, nI_11, ↓reduceIte, Option.bind_some, Option.toList_some, Option.toList_none, List.cons_append, List.nil_append, Nat.reduceAdd, Nat.reduceMul, Nat.reduceSub, Nat.reduceDiv, Nat.reduceMod, and_true, true_and, and_false, false_and, not_true_eq_false, not_false_eq_true, or_true, true_or, or_false, false_or, Int32.lt_irrefl, Int32.le_refl, kw, kp, b75_95, b75_103, b75_107, b75_153]
          · have cd' : yyD (B s) = false := by cases q : yyD (B s) with
              | true => exact absurd q cd
              | false => rfl
            by_cases cw : yyW (B s) = true
            · obtain ⟨t, g', i1, i2⟩ := kScanL hC n (s + 1) (by omega) (by omega) i g (some (.inl (nI s))) (by omega) (by rw [← yyj_W c hT cw]; exact hj) f r
              refine ⟨t, g', fun d => Eq.trans (b75_4.trans ?_) (i1 d), i2⟩
              have cw2 := yyW_t.1 cw
              rw [sbL _ (by omega)] at eb
              rcases cw2 with cw2 | cw2
              · rw [cw2] at eb
                simp (disch := first | omega | simp (disch := omega) only [nI_add, pk_mul, pk_sub, pk_div, znmod, nI_clamp, nIleT, nIleF, nIltT, nIltF, nIeqT, nIeqF, nIm1, nIm1q, zupE, zupN, vpT, nI_01, nI_11, ↓reduceIte, Option.bind_some, Option.toList_some, Option.toList_none, List.cons_append, List.nil_append, Nat.reduceAdd, Nat.reduceMul, Nat.reduceSub, Nat.reduceDiv, Nat.reduceMod, and_true, true_and, and_false, false_and, not_true_eq_false, not_false_eq_true, or_true, true_or, or_false, false_or, Int32.lt_irrefl, Int32.le_refl, e3, kl, kd, cl', cd', Bool.toNat_false, eb]) only [nI_add, pk_mul, pk_sub, pk_div, znmod, nI_clamp, nIleT, nIleF, nIltT, nIltF, nIeqT, nIeqF, nIm1, nIm1q, zupE, zupN, vpT, nI_01, nI_11, ↓reduceIte, Option.bind_some, Option.toList_some, Option.toList_none, List.cons_append, List.nil_append, Nat.reduceAdd, Nat.reduceMul, Nat.reduceSub, Nat.reduceDiv, Nat.reduceMod, and_true, true_and, and_false, false_and, not_true_eq_false, not_false_eq_true, or_true, true_or, or_false, false_or, Int32.lt_irrefl, Int32.le_refl, e3, kl, kd, cl', cd', Bool.toNat_false, eb, b75_12, b75_22, b75_65, b75_70, b75_113, b75_153]
              · rw [cw2] at eb
                simp (disch := first | omega | simp (disch := omega) only [nI_add, pk_mul, pk_sub, pk_div, znmod, nI_clamp, nIleT, nIleF, nIltT, nIltF, nIeqT, nIeqF, nIm1, nIm1q, zupE, zupN, vpT, nI_01, nI_11, ↓reduceIte, Option.bind_some, Option.toList_some, Option.toList_none, List.cons_append, List.nil_append, Nat.reduceAdd, Nat.reduceMul, Nat.reduceSub, Nat.reduceDiv, Nat.reduceMod, and_true, true_and, and_false, false_and, not_true_eq_false, not_false_eq_true, or_true, true_or, or_false, false_or, Int32.lt_irrefl, Int32.le_refl, e3, kl, kd, cl', cd', Bool.toNat_false, eb]) only [nI_add, pk_mul, pk_sub, pk_div, znmod, nI_clamp, nIleT, nIleF, nIltT, nIltF, nIeqT, nIeqF, nIm1, nIm1q, zupE, zupN, vpT, nI_01, nI_11, ↓reduceIte, Option.bind_some, Option.toList_some, Option.toList_none, List.cons_append, List.nil_append, Nat.reduceAdd, Nat.reduceMul, Nat.reduceSub, Nat.reduceDiv, Nat.reduceMod, and_true, true_and, and_false, false_and, not_true_eq_false, not_false_eq_true, or_true, true_or, or_false, false_or, Int32.lt_irrefl, Int32.le_refl, e3, kl, kd, cl', cd', Bool.toNat_false, eb, b75_12, b75_22, b75_65, b75_70, b75_113, b75_124, b75_153]
            · have cw' : yyW (B s) = false := by cases q : yyW (B s) with
                | true => exact absurd q cw
                | false => rfl
              obtain ⟨t1, t2, t3⟩ := tok cw'
              have ee : yye T B s = s + 1 := by unfold yye; rw [if_neg cl, if_neg cd]
              have ks := fun d => k81 (L := L) (d := d) (h := g) (x := B s) lb
              have ek : (if yyS (B s) = true then B s else 1) = yykd T B i := by rw [t2]; unfold yykj; rw [if_neg cl, if_neg cd]
              rw [ek] at ks
              have kp := fun d => k76 (L := L) (d := d) (h := g) (i := i) (x := nI (yykd T B i)) (y := nI s) (by omega)
              have r' := yyR_s r (by rw [t2]; exact yykj_0)
              rw [t1] at r'
              rw [ee] at t3
              obtain ⟨t, g', i1, i2⟩ := kScanL hC n (s + 1) (by omega) (by omega) (i + 1) _ (some (.inl (nI s))) (by omega) (by rw [t3]) (yyG_u (yyG_u f (Or.inl rfl)) (Or.inr rfl)) r'
              refine ⟨t, g', fun d => Eq.trans (b75_4.trans ?_) (i1 d), i2⟩
              have cw2 := yyW_f.1 cw'
              have n1 : ¬ sb_b (B s) = nI 32 := fun q => by have := (sb_eq lb (by omega)).1 q; omega
              have n2 : ¬ sb_b (B s) = nI 10 := fun q => by have := (sb_eq lb (by omega)).1 q; omega
              simp (disch := first | omega | simp (disch := omega) only [nI_add, pk_mul, pk_sub, pk_div, znmod, nI_clamp, nIleT, nIleF, nIltT, nIltF, nIeqT, nIeqF, nIm1, nIm1q, zupE, zupN, vpT, nI_01, nI_11, ↓reduceIte, Option.bind_some, Option.toList_some, Option.toList_none, List.cons_append, List.nil_append, Nat.reduceAdd, Nat.reduceMul, Nat.reduceSub, Nat.reduceDiv, Nat.reduceMod, and_true, true_and, and_false, false_and, not_true_eq_false, not_false_eq_true, or_true, true_or, or_false, false_or, Int32.lt_irrefl, Int32.le_refl, e3, kl, kd, cl', cd', Bool.toNat_false, eb, n1, n2, ks, kp]) only [nI_add, pk_mul, pk_sub, pk_div, znmod, nI_clamp, nIleT, nIleF, nIltT, nIltF, nIeqT, nIeqF, nIm1, nIm1q, zupE, zupN, vpT, nI_01, nI_11, ↓reduceIte, Option.bind_some, Option.toList_some, Option.toList_none, List.cons_append, List.nil_append, Nat.reduceAdd, Nat.reduceMul, Nat.reduceSub, Nat.reduceDiv, Nat.reduceMod, and_true, true_and, and_false, false_and, not_true_eq_false, not_false_eq_true, or_true, true_or, or_false, false_or, Int32.lt_irrefl, Int32.le_refl, e3, kl, kd, cl', cd', Bool.toNat_false, eb, n1, n2, ks, kp, b75_12, b75_22, b75_65, b75_70, b75_113, b75_124, b75_135, b75_146, b75_150, b75_153]
    · have es : s = T := by omega
      have q : yyQ T yyW B s = false := yyQ_g (by omega)
      have e1 : yypl T B i = T := by
        show yyj T B (yysp T B i) = T
        rw [← hj, yyj_N q, es]
      have e2 : yykd T B i = 0 := by
        unfold yykd yyk
        rw [if_neg (by show ¬ yypl T B i < T; omega)]
      have kp := fun d => k76 (L := L) (d := d) (h := g) (i := i) (x := nI 0) (y := nI T) (by omega)
      refine ⟨i, zup (zup (zup g 7 0 2 i (nI 0)) 7 0 3 i (nI T)) 7 0 0 3 (nI 0), fun d => b75_4.trans ?_, by omega, fun k i' s' j' q => ?_, by rw [zupE (by omega)], fun k hk => ?_, ?_, ?_, e2⟩
      · simp (disch := first | omega | simp (disch := omega) only [nI_add, pk_mul, pk_sub, pk_div, znmod, nI_clamp, nIleT, nIleF, nIltT, nIltF, nIeqT, nIeqF, nIm1, nIm1q, zupE, zupN, vpT, nI_01, nI_11, ↓reduceIte, Option.bind_some, Option.toList_some, Option.toList_none, List.cons_append, List.nil_append, Nat.reduceAdd, Nat.reduceMul, Nat.reduceSub, Nat.reduceDiv, Nat.reduceMod, and_true, true_and, and_false, false_and, not_true_eq_false, not_false_eq_true, or_true, true_or, or_false, false_or, Int32.lt_irrefl, Int32.le_refl, e3, kp]) only [nI_add, pk_mul, pk_sub, pk_div, znmod, nI_clamp, nIleT, nIleF, nIltT, nIltF, nIeqT, nIeqF, nIm1, nIm1q, zupE, zupN, vpT, nI_01, nI_11, ↓reduceIte, Option.bind_some, Option.toList_some, Option.toList_none, List.cons_append, List.nil_append, Nat.reduceAdd, Nat.reduceMul, Nat.reduceSub, Nat.reduceDiv, Nat.reduceMod, and_true, true_and, and_false, false_and, not_true_eq_false, not_false_eq_true, or_true, true_or, or_false, false_or, Int32.lt_irrefl, Int32.le_refl, e3, kp, b75_156, b75_166, b75_171]
      · rw [zupN (by omega), zupN (by omega), zupN (by omega)]
        exact f k i' s' j' (by omega)
      · rw [zupN (by omega), zupN (by omega), zupN (by omega), zupN (by omega), zupN (by omega), zupN (by omega)]
        exact r k hk
      · rw [zupN (by omega), zupN (by omega), zupE (by omega)]
      · rw [zupN (by omega), zupE (by omega), e1]
theorem kScan (hC : yyC T B h) : ∃ t g', (∀ d, zev L (d + 6) 75 0 [some (.inr (.inl (7, 0, 0))), none, none, none] [] h = some (none, g')) ∧ t ≤ T ∧ (∀ k i s j, ¬ (k = 7 ∧ i = 0 ∧ (s = 2 ∨ s = 3 ∨ (s = 0 ∧ j = 3))) → g' k i s j = h k i s j) ∧ g' 7 0 0 3 = nI 0 ∧ yyR T B g' t ∧ g' 7 0 2 t = nI 0 ∧ g' 7 0 3 t = nI (yypl T B t) ∧ yykd T B t = 0 := by
  obtain ⟨t, g', i1, i2⟩ := kScanL (L := L) hC T 0 (by omega) (by omega) 0 h none (by omega) rfl (fun _ _ _ _ _ => rfl) (fun k hk => absurd hk (by omega))
  exact ⟨t, g', fun d => b75_0.trans (i1 d), i2⟩
end SC
