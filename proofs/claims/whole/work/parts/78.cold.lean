/-! could: counts; the class sorts, then holds the sums against each other -/
theorem ydec {u : Nat} : nI (u + 1) + (-1) = nI u := by
  rw [← nI_add, Int32.add_assoc, show nI 1 + (-1) = 0 by decide, Int32.add_zero]
theorem ycnt_x {f g : Nat → Nat} {r : Nat} : ∀ n, r < n → (∀ i, i < n → i ≠ r → f i = g i) → ycnt f n + g r = ycnt g n + f r
  | 0, h, _ => absurd h (by omega)
  | n + 1, h, e => by
    rw [ycnt, ycnt]
    by_cases c : r = n
    · subst c
      rw [ycnt_c (fun i hi => e i (by omega) (by omega))]
      omega
    · have := ycnt_x n (by omega) (fun i hi hn => e i (by omega) hn)
      have e2 := e n (by omega) (fun q => c q.symm)
      omega
theorem ycnt_z {f : Nat → Nat} : ∀ {n : Nat}, (∀ i, i < n → f i = 0) → ycnt f n = 0
  | 0, _ => rfl
  | n + 1, h => by rw [ycnt, ycnt_z (fun i hi => h i (by omega)), h n (by omega)]
theorem ycnt_p {f : Nat → Nat} {r : Nat} : ∀ {n : Nat}, r < n → 0 < f r → 0 < ycnt f n
  | 0, h, _ => absurd h (by omega)
  | n + 1, h, e => by
    rw [ycnt]
    by_cases c : r = n
    · subst c; omega
    · have := ycnt_p (f := f) (r := r) (n := n) (by omega) e
      omega
/-- how many of the first n are w at least -/
def ycn (D : Nat → Nat) (w n : Nat) : Nat := ycnt (fun i => if w ≤ D i then 1 else 0) n
theorem ycn_s {D : Nat → Nat} {w n : Nat} : ycn D w (n + 1) = ycn D w n + if w ≤ D n then 1 else 0 := rfl
theorem ycn_le {D : Nat → Nat} {w : Nat} : ∀ n, ycn D w n ≤ n
  | 0 => Nat.le_refl _
  | n + 1 => by
    have := ycn_le (D := D) (w := w) n
    rw [ycn_s]
    split <;> omega
theorem ycn_mo {D : Nat → Nat} {v w : Nat} (h : w ≤ v) : ∀ n, ycn D v n ≤ ycn D w n
  | 0 => Nat.le_refl _
  | n + 1 => by
    have := ycn_mo (D := D) h n
    rw [ycn_s, ycn_s]
    by_cases c : v ≤ D n
    · rw [if_pos c, if_pos (by omega)]; omega
    · rw [if_neg c]; split <;> omega
/-- the counts from w on, n of them -/
def ygl (c : Nat → Nat) : Nat → Nat → List Nat
  | _, 0 => []
  | w, n + 1 => c w :: ygl c (w + 1) n
theorem ygl_c {c c' : Nat → Nat} (h : ∀ u, c u = c' u) : ∀ n w, ygl c w n = ygl c' w n
  | 0, _ => rfl
  | n + 1, w => by rw [ygl, ygl, h w, ygl_c h n]
theorem ygl_le {c : Nat → Nat} {M : Nat} (h : ∀ u, c u ≤ M) : ∀ n w a, a ∈ ygl c w n → a ≤ M
  | 0, w, a, q => by cases q
  | n + 1, w, a, q => by
    rw [ygl, List.mem_cons] at q
    rcases q with rfl | q
    · exact h w
    · exact ygl_le h n (w + 1) a q
theorem ys1_s {c : Nat → Nat} {k a : Nat} (h : ∀ u, u ≤ a ↔ k < c u) : ∀ n w, ys1 (k + 1) (ygl c w n) = ys1 k (ygl c w n) + min n (a + 1 - w)
  | 0, w => by show 0 = 0 + min 0 _; omega
  | n + 1, w => by
    have i := ys1_s h n (w + 1)
    have hw := h w
    show ymn (k + 1) (c w) + ys1 (k + 1) (ygl c (w + 1) n) = ymn k (c w) + ys1 k (ygl c (w + 1) n) + _
    rw [i, ymn_eq, ymn_eq]
    split <;> split <;> omega
theorem ys1_0 {c : Nat → Nat} : ∀ n w, ys1 0 (ygl c w n) = 0
  | 0, w => rfl
  | n + 1, w => by
    show ymn 0 (c w) + ys1 0 (ygl c (w + 1) n) = 0
    rw [ys1_0 n, ymn_eq]
    split <;> omega
theorem ys1_le {c : Nat → Nat} {k : Nat} : ∀ n w, ys1 k (ygl c w n) ≤ n * k
  | 0, w => by show 0 ≤ _; omega
  | n + 1, w => by
    have i := ys1_le (c := c) (k := k) n (w + 1)
    show ymn k (c w) + ys1 k (ygl c (w + 1) n) ≤ _
    rw [ymn_eq, Nat.succ_mul]
    split <;> omega
theorem ys2_s {c : Nat → Nat} {k m a : Nat} (hk : k ≤ m) (h : ∀ u, u ≤ a ↔ m < c u) : ∀ q n w, ys2 k q (ygl (fun u => min (c u) (m + 1)) w n) = ys2 k q (ygl (fun u => min (c u) m) w n) + min (min q n) (a + 1 - w)
  | 0, n, w => by
    have e : ∀ g, ys2 k 0 g = 0 := fun g => by unfold ys2; rfl
    rw [e, e]; omega
  | q + 1, 0, w => by show 0 = 0 + _; omega
  | q + 1, n + 1, w => by
    have i := ys2_s hk h q n (w + 1)
    have hw := h w
    show (min (c w) (m + 1) - k) + ys2 k q (ygl _ (w + 1) n) = (min (c w) m - k) + ys2 k q (ygl _ (w + 1) n) + _
    rw [i]
    omega
theorem ys2_le {c : Nat → Nat} {k M : Nat} (h : ∀ u, c u ≤ M) : ∀ q n w, ys2 k q (ygl c w n) ≤ n * M
  | 0, n, w => by
    have e : ∀ g, ys2 k 0 g = 0 := fun g => by unfold ys2; rfl
    rw [e]; omega
  | q + 1, 0, w => by show 0 ≤ _; omega
  | q + 1, n + 1, w => by
    have i := ys2_le (k := k) h q n (w + 1)
    have hw := h w
    show (c w - k) + ys2 k q (ygl _ (w + 1) n) ≤ _
    rw [Nat.succ_mul]
    omega
section CO
variable {L : Nat} {h : zH} {N i v : Nat} {D A : Nat → Nat}
/-- the class's row while one is put in its place -/
def yin (A : Nat → Nat) (g : zH) (i v j : Nat) : Prop := (∀ k, k < j → g 5 0 1 k = nI (A k)) ∧ (∀ k, j < k → k ≤ i → g 5 0 1 k = nI (A (k - 1))) ∧ (∀ k, j ≤ k → k < i → A k < v)
theorem y46i (hi : i < 9) (hv : v ≤ 8) (hA : ∀ k, k < i → A k ≤ 8) (e : h 8 1 1 i = nI v) : ∀ j, j ≤ i → ∀ g : zH, (∀ k, k ≠ 5 → g k = h k) → yin A g i v j → ∃ j' g', j' ≤ i ∧ (∀ d, zev L d 46 15 [some (.inr (.inl (5, 0, 0))), some (.inr (.inl (8, 1, 0))), some (.inl (nI i)), some (.inl (nI j)), some (.inl (nI j))] [] g = zev L d 46 65 [some (.inr (.inl (5, 0, 0))), some (.inr (.inl (8, 1, 0))), some (.inl (nI i)), some (.inl (nI j')), some (.inl (nI j'))] [] g') ∧ (∀ k, k ≠ 5 → g' k = h k) ∧ yin A g' i v j' ∧ (j' = 0 ∨ v ≤ A (j' - 1))
  | 0, _, g, f, y => ⟨0, g, by omega, fun d => b46_15.trans (by simp (disch := first | omega | simp (disch := omega) only [nI_add, pk_mul, pk_sub, pk_div, znmod, nI_clamp, nIleT, nIleF, nIltT, nIltF, nIeqT, nIeqF, nIm1, nIm1q, zupE, zupN, vpT, nI_01, nI_11, ↓reduceIte, Option.bind_some, Option.toList_some, Option.toList_none, List.cons_append, List.nil_append, Nat.reduceAdd, Nat.reduceMul, Nat.reduceSub, Nat.reduceDiv, Nat.reduceMod, and_true, true_and, and_false, false_and, not_true_eq_false, not_false_eq_true, or_true, true_or, or_false, false_or, Int32.lt_irrefl, Int32.le_refl]) only [nI_add, pk_mul, pk_sub, pk_div, znmod, nI_clamp, nIleT, nIleF, nIltT, nIltF, nIeqT, nIeqF, nIm1, nIm1q, zupE, zupN, vpT, nI_01, nI_11, ↓reduceIte, Option.bind_some, Option.toList_some, Option.toList_none, List.cons_append, List.nil_append, Nat.reduceAdd, Nat.reduceMul, Nat.reduceSub, Nat.reduceDiv, Nat.reduceMod, and_true, true_and, and_false, false_and, not_true_eq_false, not_false_eq_true, or_true, true_or, or_false, false_or, Int32.lt_irrefl, Int32.le_refl]), f, y, Or.inl rfl⟩
  | j + 1, hj, g, f, y => by
    have ez : zaln L 8 1 1 = 9 := rfl
    have e8 : g 8 1 1 i = nI v := by rw [f 8 (by decide)]; exact e
    have ea := y.1 j (by omega)
    have ha := hA j (by omega)
    by_cases c : v ≤ A j
    · exact ⟨j + 1, g, hj, fun d => b46_15.trans (by simp (disch := first | omega | simp (disch := omega) only [nI_add, pk_mul, pk_sub, pk_div, znmod, nI_clamp, nIleT, nIleF, nIltT, nIltF, nIeqT, nIeqF, nIm1, nIm1q, zupE, zupN, vpT, nI_01, nI_11, ↓reduceIte, Option.bind_some, Option.toList_some, Option.toList_none, List.cons_append, List.nil_append, Nat.reduceAdd, Nat.reduceMul, Nat.reduceSub, Nat.reduceDiv, Nat.reduceMod, and_true, true_and, and_false, false_and, not_true_eq_false, not_false_eq_true, or_true, true_or, or_false, false_or, Int32.lt_irrefl, Int32.le_refl, ez, e8, ea, Nat.add_sub_cancel]) only [nI_add, pk_mul, pk_sub, pk_div, znmod, nI_clamp, nIleT, nIleF, nIltT, nIltF, nIeqT, nIeqF, nIm1, nIm1q, zupE, zupN, vpT, nI_01, nI_11, ↓reduceIte, Option.bind_some, Option.toList_some, Option.toList_none, List.cons_append, List.nil_append, Nat.reduceAdd, Nat.reduceMul, Nat.reduceSub, Nat.reduceDiv, Nat.reduceMod, and_true, true_and, and_false, false_and, not_true_eq_false, not_false_eq_true, or_true, true_or, or_false, false_or, Int32.lt_irrefl, Int32.le_refl, ez, e8, ea, Nat.add_sub_cancel, b46_20]), f, y, Or.inr c⟩
    · obtain ⟨j', g', a1, a2, a3, a4, a5⟩ := y46i hi hv hA e j (by omega) (zup g 5 0 1 (j + 1) (nI (A j))) (fun k hk => by rw [zupK hk, f k hk]) ⟨fun k hk => by
          rw [zupN (by omega)]; exact y.1 k (by omega), fun k hk hk2 => by
          by_cases q : k = j + 1
          · subst q; rw [zupE (by omega)]; rfl
          · rw [zupN (by omega)]; exact y.2.1 k (by omega) hk2, fun k hk hk2 => by
          by_cases q : k = j
          · subst q; omega
          · exact y.2.2 k (by omega) hk2⟩
      refine ⟨j', g', a1, fun d => Eq.trans (b46_15.trans ?_) (a2 d), a3, a4, a5⟩
      simp (disch := first | omega | simp (disch := omega) only [nI_add, pk_mul, pk_sub, pk_div, znmod, nI_clamp, nIleT, nIleF, nIltT, nIltF, nIeqT, nIeqF, nIm1, nIm1q, zupE, zupN, vpT, nI_01, nI_11, ↓reduceIte, Option.bind_some, Option.toList_some, Option.toList_none, List.cons_append, List.nil_append, Nat.reduceAdd, Nat.reduceMul, Nat.reduceSub, Nat.reduceDiv, Nat.reduceMod, and_true, true_and, and_false, false_and, not_true_eq_false, not_false_eq_true, or_true, true_or, or_false, false_or, Int32.lt_irrefl, Int32.le_refl, ez, e8, ea, Nat.add_sub_cancel, ydec]) only [nI_add, pk_mul, pk_sub, pk_div, znmod, nI_clamp, nIleT, nIleF, nIltT, nIltF, nIeqT, nIeqF, nIm1, nIm1q, zupE, zupN, vpT, nI_01, nI_11, ↓reduceIte, Option.bind_some, Option.toList_some, Option.toList_none, List.cons_append, List.nil_append, Nat.reduceAdd, Nat.reduceMul, Nat.reduceSub, Nat.reduceDiv, Nat.reduceMod, and_true, true_and, and_false, false_and, not_true_eq_false, not_false_eq_true, or_true, true_or, or_false, false_or, Int32.lt_irrefl, Int32.le_refl, ez, e8, ea, Nat.add_sub_cancel, ydec, b46_20, b46_38, b46_54]
theorem y46 (hN : N ≤ 9) (hn : h 8 1 0 3 = nI N) (hD : ∀ j, j < N → h 8 1 1 j = nI (D j) ∧ D j ≤ 8) : ∃ (g : zH) (A : Nat → Nat), (∀ d, zev L d 46 0 [some (.inr (.inl (5, 0, 0))), some (.inr (.inl (8, 1, 0))), none, none, none] [] h = some (none, g)) ∧ (∀ k, k ≠ 5 → g k = h k) ∧ ∀ j, j < N → g 5 0 1 j = nI (A j) ∧ A j ≤ 8 ∧ ∀ w, w ≤ A j ↔ j < ycn D w N := by
  have ez : zaln L 8 1 1 = 9 := rfl
  obtain ⟨⟨g, A, a3, a4⟩, e, f, r⟩ := zinv (P := fun i (s : zH × (Nat → Nat) × Option zV × Option zV) => fun d => zev L d 46 2 [some (.inr (.inl (5, 0, 0))), some (.inr (.inl (8, 1, 0))), some (.inl (nI i)), s.2.2.1, s.2.2.2] [] s.1)
    (R := fun i s => (∀ k, k ≠ 5 → s.1 k = h k) ∧ ∀ j, j < i → s.1 5 0 1 j = nI (s.2.1 j) ∧ s.2.1 j ≤ 8 ∧ ∀ w, w ≤ s.2.1 j ↔ j < ycn D w i) (N := N) (fun i ⟨g, A, a3, a4⟩ hi ⟨f, r⟩ => by
      simp only [] at f r
      obtain ⟨eD, hv⟩ := hD i hi
      obtain ⟨j, g', a1, a2, a3', a4', a5⟩ := y46i (L := L) (A := A) (v := D i) (by omega) hv (fun k hk => (r k hk).2.1) eD i (Nat.le_refl i) g f ⟨fun k hk => (r k hk).1, fun k h1 h2 => absurd h1 (by omega), fun k h1 h2 => absurd h1 (by omega)⟩
      have e3 : g 8 1 0 3 = nI N := by rw [f 8 (by decide)]; exact hn
      have e8 : g' 8 1 1 i = nI (D i) := by rw [a3' 8 (by decide)]; exact eD
      refine ⟨(zup g' 5 0 1 j (nI (D i)), fun k => if k < j then A k else if k = j then D i else A (k - 1), some (.inl (nI j)), some (.inl (nI j))), funext fun d => b46_2.trans ?_, fun k hk => (by show zup g' 5 0 1 j (nI (D i)) k = h k; rw [zupK hk, a3' k hk]), fun k hk => ?_⟩
      · simp (disch := first | omega | simp (disch := omega) only [nI_add, pk_mul, pk_sub, pk_div, znmod, nI_clamp, nIleT, nIleF, nIltT, nIltF, nIeqT, nIeqF, nIm1, nIm1q, zupE, zupN, vpT, nI_01, nI_11, ↓reduceIte, Option.bind_some, Option.toList_some, Option.toList_none, List.cons_append, List.nil_append, Nat.reduceAdd, Nat.reduceMul, Nat.reduceSub, Nat.reduceDiv, Nat.reduceMod, and_true, true_and, and_false, false_and, not_true_eq_false, not_false_eq_true, or_true, true_or, or_false, false_or, Int32.lt_irrefl, Int32.le_refl, e3, a2]) only [nI_add, pk_mul, pk_sub, pk_div, znmod, nI_clamp, nIleT, nIleF, nIltT, nIltF, nIeqT, nIeqF, nIm1, nIm1q, zupE, zupN, vpT, nI_01, nI_11, ↓reduceIte, Option.bind_some, Option.toList_some, Option.toList_none, List.cons_append, List.nil_append, Nat.reduceAdd, Nat.reduceMul, Nat.reduceSub, Nat.reduceDiv, Nat.reduceMod, and_true, true_and, and_false, false_and, not_true_eq_false, not_false_eq_true, or_true, true_or, or_false, false_or, Int32.lt_irrefl, Int32.le_refl, e3, a2, b46_10]
        rw [b46_65 (by rw [ez]; exact vp_in_nI (by omega) (by omega)) (vp_in_nI (by omega) (by omega)), b46_77]
        simp (disch := first | omega | simp (disch := omega) only [nI_add, pk_mul, pk_sub, pk_div, znmod, nI_clamp, nIleT, nIleF, nIltT, nIltF, nIeqT, nIeqF, nIm1, nIm1q, zupE, zupN, vpT, nI_01, nI_11, ↓reduceIte, Option.bind_some, Option.toList_some, Option.toList_none, List.cons_append, List.nil_append, Nat.reduceAdd, Nat.reduceMul, Nat.reduceSub, Nat.reduceDiv, Nat.reduceMod, and_true, true_and, and_false, false_and, not_true_eq_false, not_false_eq_true, or_true, true_or, or_false, false_or, Int32.lt_irrefl, Int32.le_refl, e8]) only [nI_add, pk_mul, pk_sub, pk_div, znmod, nI_clamp, nIleT, nIleF, nIltT, nIltF, nIeqT, nIeqF, nIm1, nIm1q, zupE, zupN, vpT, nI_01, nI_11, ↓reduceIte, Option.bind_some, Option.toList_some, Option.toList_none, List.cons_append, List.nil_append, Nat.reduceAdd, Nat.reduceMul, Nat.reduceSub, Nat.reduceDiv, Nat.reduceMod, and_true, true_and, and_false, false_and, not_true_eq_false, not_false_eq_true, or_true, true_or, or_false, false_or, Int32.lt_irrefl, Int32.le_refl, e8]
      · have F := fun w k (hk : k < i) => (r k hk).2.2 w
        have le := fun w => ycn_le (D := D) (w := w) i
        by_cases c1 : k < j
        · show (zup g' 5 0 1 j (nI (D i))) 5 0 1 k = nI (if k < j then A k else if k = j then D i else A (k - 1)) ∧ (if k < j then A k else if k = j then D i else A (k - 1)) ≤ 8 ∧ ∀ w, w ≤ (if k < j then A k else if k = j then D i else A (k - 1)) ↔ k < ycn D w (i + 1)
          rw [if_pos c1, zupN (by omega)]
          refine ⟨a4'.1 k c1, (r k (by omega)).2.1, fun w => ?_⟩
          have f1 := F w k (by omega)
          have f2 := F w (j - 1) (by omega)
          rw [ycn_s]
          by_cases cw : w ≤ D i
          · rw [if_pos cw]; omega
          · rw [if_neg cw]; omega
        · by_cases c2 : k = j
          · show (zup g' 5 0 1 j (nI (D i))) 5 0 1 k = nI (if k < j then A k else if k = j then D i else A (k - 1)) ∧ (if k < j then A k else if k = j then D i else A (k - 1)) ≤ 8 ∧ ∀ w, w ≤ (if k < j then A k else if k = j then D i else A (k - 1)) ↔ k < ycn D w (i + 1)
            rw [if_neg c1, if_pos c2, zupE (by omega)]
            refine ⟨rfl, hv, fun w => ?_⟩
            have l := le w
            rw [ycn_s]
            by_cases cw : w ≤ D i
            · rw [if_pos cw]
              rcases a5 with a5 | a5
              · omega
              · by_cases c3 : j = 0
                · omega
                · have f2 := F w (j - 1) (by omega)
                  omega
            · rw [if_neg cw]
              by_cases c3 : j < i
              · have f1 := F w j c3
                have f2 := a4'.2.2 j (Nat.le_refl j) c3
                omega
              · omega
          · show (zup g' 5 0 1 j (nI (D i))) 5 0 1 k = nI (if k < j then A k else if k = j then D i else A (k - 1)) ∧ (if k < j then A k else if k = j then D i else A (k - 1)) ≤ 8 ∧ ∀ w, w ≤ (if k < j then A k else if k = j then D i else A (k - 1)) ↔ k < ycn D w (i + 1)
            rw [if_neg c1, if_neg c2, zupN (by omega)]
            refine ⟨a4'.2.1 k (by omega) (by omega), (r (k - 1) (by omega)).2.1, fun w => ?_⟩
            have f1 := F w (k - 1) (by omega)
            have f2 := a4'.2.2 (k - 1) (by omega) (by omega)
            rw [ycn_s]
            by_cases cw : w ≤ D i
            · rw [if_pos cw]; omega
            · rw [if_neg cw]; omega) N (Nat.le_refl N) (h, D, none, none) ⟨fun _ _ => rfl, fun j hj => absurd hj (by omega)⟩
  simp only [] at f r
  refine ⟨g, A, fun d => b46_0.trans (Eq.trans (congrFun e d) (b46_2.trans ?_)), f, r⟩
  have e3 : g 8 1 0 3 = nI N := by rw [f 8 (by decide)]; exact hn
  simp (disch := first | omega | simp (disch := omega) only [nI_add, pk_mul, pk_sub, pk_div, znmod, nI_clamp, nIleT, nIleF, nIltT, nIltF, nIeqT, nIeqF, nIm1, nIm1q, zupE, zupN, vpT, nI_01, nI_11, ↓reduceIte, Option.bind_some, Option.toList_some, Option.toList_none, List.cons_append, List.nil_append, Nat.reduceAdd, Nat.reduceMul, Nat.reduceSub, Nat.reduceDiv, Nat.reduceMod, and_true, true_and, and_false, false_and, not_true_eq_false, not_false_eq_true, or_true, true_or, or_false, false_or, Int32.lt_irrefl, Int32.le_refl, e3]) only [nI_add, pk_mul, pk_sub, pk_div, znmod, nI_clamp, nIleT, nIleF, nIltT, nIltF, nIeqT, nIeqF, nIm1, nIm1q, zupE, zupN, vpT, nI_01, nI_11, ↓reduceIte, Option.bind_some, Option.toList_some, Option.toList_none, List.cons_append, List.nil_append, Nat.reduceAdd, Nat.reduceMul, Nat.reduceSub, Nat.reduceDiv, Nat.reduceMod, and_true, true_and, and_false, false_and, not_true_eq_false, not_false_eq_true, or_true, true_or, or_false, false_or, Int32.lt_irrefl, Int32.le_refl, e3, b46_83]
/-- the sums of one k -/
theorem y45i {g : zH} {c : Nat → Nat} {k : Nat} {x3 : Int32} (hN : N ≤ 9) (hk : k ≤ N) (hc : ∀ u, c u ≤ N) (hA : ∀ j, j < N → g 5 0 1 j = nI (A j) ∧ A j ≤ 8 ∧ ∀ w, w ≤ A j ↔ j < c w) : ∀ B, B ≤ 100 → ∀ d, zev L d 45 46 [some (.inr (.inl (5, 0, 0))), some (.inr (.inl (8, 1, 0))), some (.inl (nI N)), some (.inl x3), some (.inl (nI k)), some (.inl (nI B)), some (.inl (nI k))] [] g = zev L d 45 75 [some (.inr (.inl (5, 0, 0))), some (.inr (.inl (8, 1, 0))), some (.inl (nI N)), some (.inl x3), some (.inl (nI k)), some (.inl (nI (B+ys2 k k (ygl c 1 8)))), some (.inl (nI N))] [] g := by
  intro B hB d
  obtain ⟨_, e, _⟩ := zinv (P := fun j (_ : Unit) => zev L d 45 46 [some (.inr (.inl (5, 0, 0))), some (.inr (.inl (8, 1, 0))), some (.inl (nI N)), some (.inl x3), some (.inl (nI k)), some (.inl (nI (B+ys2 k k (ygl (fun u => min (c u) (k+j)) 1 8)))), some (.inl (nI (k+j)))] [] g) (R := fun _ _ => True) (N := N - k) (fun j _ hj _ => by
    refine ⟨(), b45_46.trans ?_, trivial⟩
    obtain ⟨a1, a2, a3⟩ := hA (k + j) (by omega)
    have s := ys2_s (c := c) (k := k) (m := k + j) (a := A (k + j)) (by omega) a3 k 8 1
    have l := ys2_le (c := fun u => min (c u) (k + j)) (k := k) (M := 9) (fun u => by have := hc u; show min (c u) (k + j) ≤ 9; omega) k 8 1
    have e2 : k + j + 1 = k + (j + 1) := by omega
    rw [e2] at s
    by_cases q : k < A (k + j)
    · have e3 : B + ys2 k k (ygl (fun u => min (c u) (k + j)) 1 8) + k = B + ys2 k k (ygl (fun u => min (c u) (k + (j + 1))) 1 8) := by rw [s]; omega
      simp (disch := first | omega | simp (disch := omega) only [nI_add, pk_mul, pk_sub, pk_div, znmod, nI_clamp, nIleT, nIleF, nIltT, nIltF, nIeqT, nIeqF, nIm1, nIm1q, zupE, zupN, vpT, nI_01, nI_11, ↓reduceIte, Option.bind_some, Option.toList_some, Option.toList_none, List.cons_append, List.nil_append, Nat.reduceAdd, Nat.reduceMul, Nat.reduceSub, Nat.reduceDiv, Nat.reduceMod, and_true, true_and, and_false, false_and, not_true_eq_false, not_false_eq_true, or_true, true_or, or_false, false_or, Int32.lt_irrefl, Int32.le_refl, a1, e3, e2]) only [nI_add, pk_mul, pk_sub, pk_div, znmod, nI_clamp, nIleT, nIleF, nIltT, nIltF, nIeqT, nIeqF, nIm1, nIm1q, zupE, zupN, vpT, nI_01, nI_11, ↓reduceIte, Option.bind_some, Option.toList_some, Option.toList_none, List.cons_append, List.nil_append, Nat.reduceAdd, Nat.reduceMul, Nat.reduceSub, Nat.reduceDiv, Nat.reduceMod, and_true, true_and, and_false, false_and, not_true_eq_false, not_false_eq_true, or_true, true_or, or_false, false_or, Int32.lt_irrefl, Int32.le_refl, a1, e3, e2, b45_52]
    · have e3 : B + ys2 k k (ygl (fun u => min (c u) (k + j)) 1 8) + A (k + j) = B + ys2 k k (ygl (fun u => min (c u) (k + (j + 1))) 1 8) := by rw [s]; omega
      simp (disch := first | omega | simp (disch := omega) only [nI_add, pk_mul, pk_sub, pk_div, znmod, nI_clamp, nIleT, nIleF, nIltT, nIltF, nIeqT, nIeqF, nIm1, nIm1q, zupE, zupN, vpT, nI_01, nI_11, ↓reduceIte, Option.bind_some, Option.toList_some, Option.toList_none, List.cons_append, List.nil_append, Nat.reduceAdd, Nat.reduceMul, Nat.reduceSub, Nat.reduceDiv, Nat.reduceMod, and_true, true_and, and_false, false_and, not_true_eq_false, not_false_eq_true, or_true, true_or, or_false, false_or, Int32.lt_irrefl, Int32.le_refl, a1, e3, e2]) only [nI_add, pk_mul, pk_sub, pk_div, znmod, nI_clamp, nIleT, nIleF, nIltT, nIltF, nIeqT, nIeqF, nIm1, nIm1q, zupE, zupN, vpT, nI_01, nI_11, ↓reduceIte, Option.bind_some, Option.toList_some, Option.toList_none, List.cons_append, List.nil_append, Nat.reduceAdd, Nat.reduceMul, Nat.reduceSub, Nat.reduceDiv, Nat.reduceMod, and_true, true_and, and_false, false_and, not_true_eq_false, not_false_eq_true, or_true, true_or, or_false, false_or, Int32.lt_irrefl, Int32.le_refl, a1, e3, e2, b45_52]) (N - k) (Nat.le_refl _) () trivial
  have e0 : ys2 k k (ygl (fun u => min (c u) (k + 0)) 1 8) = 0 := ys2_none (Nat.le_refl k) k _ (fun a ha => ygl_le (M := k) (fun u => by show min (c u) (k + 0) ≤ k; omega) 8 1 a ha)
  have e1 : ygl (fun u => min (c u) (k + (N - k))) 1 8 = ygl c 1 8 := ygl_c (fun u => by have := hc u; show min (c u) (k + (N - k)) = c u; omega) 8 1
  have e2 : k + (N - k) = N := by omega
  rw [e0, e1, e2] at e
  refine Eq.trans e (b45_46.trans ?_)
  simp (disch := first | omega | simp (disch := omega) only [nI_add, pk_mul, pk_sub, pk_div, znmod, nI_clamp, nIleT, nIleF, nIltT, nIltF, nIeqT, nIeqF, nIm1, nIm1q, zupE, zupN, vpT, nI_01, nI_11, ↓reduceIte, Option.bind_some, Option.toList_some, Option.toList_none, List.cons_append, List.nil_append, Nat.reduceAdd, Nat.reduceMul, Nat.reduceSub, Nat.reduceDiv, Nat.reduceMod, and_true, true_and, and_false, false_and, not_true_eq_false, not_false_eq_true, or_true, true_or, or_false, false_or, Int32.lt_irrefl, Int32.le_refl]) only [nI_add, pk_mul, pk_sub, pk_div, znmod, nI_clamp, nIleT, nIleF, nIltT, nIltF, nIeqT, nIeqF, nIm1, nIm1q, zupE, zupN, vpT, nI_01, nI_11, ↓reduceIte, Option.bind_some, Option.toList_some, Option.toList_none, List.cons_append, List.nil_append, Nat.reduceAdd, Nat.reduceMul, Nat.reduceSub, Nat.reduceDiv, Nat.reduceMod, and_true, true_and, and_false, false_and, not_true_eq_false, not_false_eq_true, or_true, true_or, or_false, false_or, Int32.lt_irrefl, Int32.le_refl]
theorem y45l {g : zH} {c : Nat → Nat} (hN : N ≤ 9) (hc : ∀ u, c u ≤ N) (hA : ∀ j, j < N → g 5 0 1 j = nI (A j) ∧ A j ≤ 8 ∧ ∀ w, w ≤ A j ↔ j < c w) : ∀ r k, k + r = N → yeg (ygl c 1 8) k = true → ∀ a5 a6 d, zev L d 45 15 [some (.inr (.inl (5, 0, 0))), some (.inr (.inl (8, 1, 0))), some (.inl (nI N)), some (.inl (nI (ys1 k (ygl c 1 8)))), some (.inl (nI (k + 1))), a5, a6] [] g = some (some (.inl (nI (Bool.and (Nat.beq (Nat.mod (ycsm (ygl c 1 8)) 2) 0) (yeg (ygl c 1 8) N)).toNat)), g)
  | 0, k, hk, hy, a5, a6, d => by
    have ek : k = N := by omega
    subst ek
    have es := ys1_all (Nat.le_refl k) (ygl c 1 8) (fun a ha => ygl_le hc 8 1 a ha)
    have el := ys1_le (c := c) (k := k) 8 1
    rw [hy, es]
    rw [es] at el
    refine b45_15.trans ?_
    have em : ycsm (ygl c 1 8) % 2 = 0 ∨ ycsm (ygl c 1 8) % 2 = 1 := by omega
    rcases em with em | em
    · have e2 : Nat.beq (Nat.mod (ycsm (ygl c 1 8)) 2) 0 = true := by
        show Nat.beq (ycsm (ygl c 1 8) % 2) 0 = true
        rw [em]; rfl
      rw [e2]
      simp (disch := first | omega | simp (disch := omega) only [nI_add, pk_mul, pk_sub, pk_div, znmod, nI_clamp, nIleT, nIleF, nIltT, nIltF, nIeqT, nIeqF, nIm1, nIm1q, zupE, zupN, vpT, nI_01, nI_11, ↓reduceIte, Option.bind_some, Option.toList_some, Option.toList_none, List.cons_append, List.nil_append, Nat.reduceAdd, Nat.reduceMul, Nat.reduceSub, Nat.reduceDiv, Nat.reduceMod, and_true, true_and, and_false, false_and, not_true_eq_false, not_false_eq_true, or_true, true_or, or_false, false_or, Int32.lt_irrefl, Int32.le_refl, em]) only [nI_add, pk_mul, pk_sub, pk_div, znmod, nI_clamp, nIleT, nIleF, nIltT, nIltF, nIeqT, nIeqF, nIm1, nIm1q, zupE, zupN, vpT, nI_01, nI_11, ↓reduceIte, Option.bind_some, Option.toList_some, Option.toList_none, List.cons_append, List.nil_append, Nat.reduceAdd, Nat.reduceMul, Nat.reduceSub, Nat.reduceDiv, Nat.reduceMod, and_true, true_and, and_false, false_and, not_true_eq_false, not_false_eq_true, or_true, true_or, or_false, false_or, Int32.lt_irrefl, Int32.le_refl, em, b45_89, b45_95, b45_100]
      rfl
    · have e2 : Nat.beq (Nat.mod (ycsm (ygl c 1 8)) 2) 0 = false := by
        show Nat.beq (ycsm (ygl c 1 8) % 2) 0 = false
        rw [em]; rfl
      rw [e2]
      simp (disch := first | omega | simp (disch := omega) only [nI_add, pk_mul, pk_sub, pk_div, znmod, nI_clamp, nIleT, nIleF, nIltT, nIltF, nIeqT, nIeqF, nIm1, nIm1q, zupE, zupN, vpT, nI_01, nI_11, ↓reduceIte, Option.bind_some, Option.toList_some, Option.toList_none, List.cons_append, List.nil_append, Nat.reduceAdd, Nat.reduceMul, Nat.reduceSub, Nat.reduceDiv, Nat.reduceMod, and_true, true_and, and_false, false_and, not_true_eq_false, not_false_eq_true, or_true, true_or, or_false, false_or, Int32.lt_irrefl, Int32.le_refl, em]) only [nI_add, pk_mul, pk_sub, pk_div, znmod, nI_clamp, nIleT, nIleF, nIltT, nIltF, nIeqT, nIeqF, nIm1, nIm1q, zupE, zupN, vpT, nI_01, nI_11, ↓reduceIte, Option.bind_some, Option.toList_some, Option.toList_none, List.cons_append, List.nil_append, Nat.reduceAdd, Nat.reduceMul, Nat.reduceSub, Nat.reduceDiv, Nat.reduceMod, and_true, true_and, and_false, false_and, not_true_eq_false, not_false_eq_true, or_true, true_or, or_false, false_or, Int32.lt_irrefl, Int32.le_refl, em, b45_89, b45_99, b45_100]
      rfl
  | r + 1, k, hk, hy, a5, a6, d => by
    obtain ⟨a1, a2, a3⟩ := hA k (by omega)
    have s := ys1_s (c := c) (k := k) (a := A k) a3 8 1
    have s' : ys1 k (ygl c 1 8) + A k = ys1 (k + 1) (ygl c 1 8) := by rw [s]; omega
    have el := ys1_le (c := c) (k := k) 8 1
    have e2 := ys2_le (c := c) (k := k + 1) (M := 9) (fun u => Nat.le_trans (hc u) hN) (k + 1) 8 1
    have hB : (k + 1) * k ≤ 9 * 8 := Nat.mul_le_mul (by omega) (by omega)
    have ki := fun d => y45i (L := L) (k := k + 1) (x3 := nI (ys1 (k + 1) (ygl c 1 8))) hN (by omega) hc hA ((k + 1) * k) (by omega) d
    refine b45_15.trans ?_
    by_cases q : ys1 (k + 1) (ygl c 1 8) ≤ (k + 1) * k + ys2 (k + 1) (k + 1) (ygl c 1 8)
    · have hy' : yeg (ygl c 1 8) (k + 1) = true := by
        show (yeg (ygl c 1 8) k && Nat.ble (ys1 (k + 1) (ygl c 1 8)) ((k + 1) * k + ys2 (k + 1) (k + 1) (ygl c 1 8))) = true
        rw [hy, Nat.ble_eq_true_of_le q]; rfl
      have ih := y45l hN hc hA r (k + 1) (by omega) hy'
      simp (disch := first | omega | simp (disch := omega) only [nI_add, pk_mul, pk_sub, pk_div, znmod, nI_clamp, nIleT, nIleF, nIltT, nIltF, nIeqT, nIeqF, nIm1, nIm1q, zupE, zupN, vpT, nI_01, nI_11, ↓reduceIte, Option.bind_some, Option.toList_some, Option.toList_none, List.cons_append, List.nil_append, Nat.reduceAdd, Nat.reduceMul, Nat.reduceSub, Nat.reduceDiv, Nat.reduceMod, and_true, true_and, and_false, false_and, not_true_eq_false, not_false_eq_true, or_true, true_or, or_false, false_or, Int32.lt_irrefl, Int32.le_refl, a1, Nat.add_sub_cancel, s', ki]) only [nI_add, pk_mul, pk_sub, pk_div, znmod, nI_clamp, nIleT, nIleF, nIltT, nIltF, nIeqT, nIeqF, nIm1, nIm1q, zupE, zupN, vpT, nI_01, nI_11, ↓reduceIte, Option.bind_some, Option.toList_some, Option.toList_none, List.cons_append, List.nil_append, Nat.reduceAdd, Nat.reduceMul, Nat.reduceSub, Nat.reduceDiv, Nat.reduceMod, and_true, true_and, and_false, false_and, not_true_eq_false, not_false_eq_true, or_true, true_or, or_false, false_or, Int32.lt_irrefl, Int32.le_refl, a1, Nat.add_sub_cancel, s', ki, b45_21, b45_75, b45_83]
      exact ih _ _ d
    · have hy' : yeg (ygl c 1 8) N = false := by
        cases hh : yeg (ygl c 1 8) N with
        | false => rfl
        | true =>
          have := yeg_dn N (k + 1) (by omega) hh
          have h2 : (yeg (ygl c 1 8) k && Nat.ble (ys1 (k + 1) (ygl c 1 8)) ((k + 1) * k + ys2 (k + 1) (k + 1) (ygl c 1 8))) = true := this
          rw [hy, Bool.true_and] at h2
          exact absurd (Nat.le_of_ble_eq_true h2) q
      rw [hy']
      simp (disch := first | omega | simp (disch := omega) only [nI_add, pk_mul, pk_sub, pk_div, znmod, nI_clamp, nIleT, nIleF, nIltT, nIltF, nIeqT, nIeqF, nIm1, nIm1q, zupE, zupN, vpT, nI_01, nI_11, ↓reduceIte, Option.bind_some, Option.toList_some, Option.toList_none, List.cons_append, List.nil_append, Nat.reduceAdd, Nat.reduceMul, Nat.reduceSub, Nat.reduceDiv, Nat.reduceMod, and_true, true_and, and_false, false_and, not_true_eq_false, not_false_eq_true, or_true, true_or, or_false, false_or, Int32.lt_irrefl, Int32.le_refl, a1, Nat.add_sub_cancel, s', ki]) only [nI_add, pk_mul, pk_sub, pk_div, znmod, nI_clamp, nIleT, nIleF, nIltT, nIltF, nIeqT, nIeqF, nIm1, nIm1q, zupE, zupN, vpT, nI_01, nI_11, ↓reduceIte, Option.bind_some, Option.toList_some, Option.toList_none, List.cons_append, List.nil_append, Nat.reduceAdd, Nat.reduceMul, Nat.reduceSub, Nat.reduceDiv, Nat.reduceMod, and_true, true_and, and_false, false_and, not_true_eq_false, not_false_eq_true, or_true, true_or, or_false, false_or, Int32.lt_irrefl, Int32.le_refl, a1, Nat.add_sub_cancel, s', ki, b45_21, b45_75, b45_81]
      cases Nat.beq (Nat.mod (ycsm (ygl c 1 8)) 2) 0 <;> rfl
end CO
