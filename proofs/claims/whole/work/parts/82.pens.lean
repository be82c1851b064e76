/-! pens: the search and the count through -/
section PF
variable {L : Nat} {h : zH} {N k : Nat} {W : Nat → Nat}
/-- what a search from a state is to give -/
def yqR (L : Nat) (h : zH) (k : Nat) (W : Nat → Nat) (r i : Nat) : Prop := ∀ (p : Nat → Nat) (g : zH) (bm bd : Nat), yqP h g p bm bd i → (∀ z q, z < q → q < k → p z = 0 → p q = 0) → ∃ g' bm' bd', (∀ d, zev L (d + r + 1) 52 0 [some (.inr (.inl (5, 0, 0))), some (.inr (.inl (8, 3, 0))), some (.inl (nI i)), some (.inl (nI k)), none, none] [] g = some (none, g')) ∧ yqP h g' p bm' bd' i ∧ (1000 * bm' + bd' ≤ 1000 * bm + bd) ∧ (∀ a, (∀ j, a j < k) → 1000 * bm' + bd' ≤ yqG W k a r i p) ∧ ((bm' = bm ∧ bd' = bd) ∨ ∃ a, (∀ j, a j < k) ∧ 1000 * bm' + bd' = yqG W k a r i p)
theorem y52l {r i : Nat} {p : Nat → Nat} (hk : k ≤ 4) (hN : N ≤ 7) (hi : i + (r + 1) = N) (hW : ∀ j, j < N → h 8 3 1 j = nI (W j) ∧ 1 ≤ W j ∧ W j ≤ 30) (hp : ∀ z q, z < q → q < k → p z = 0 → p q = 0) (ih : yqR L h k W r (i + 1)) : ∀ u t, t + u = k → ∀ (g : zH) (bm bd : Nat), yqP h g p bm bd i → (∀ q, q < t → 0 < p q) → ∃ g' bm' bd', (∀ d, zev L (d + r + 2) 52 20 [some (.inr (.inl (5, 0, 0))), some (.inr (.inl (8, 3, 0))), some (.inl (nI i)), some (.inl (nI k)), some (.inl (nI 0)), some (.inl (nI t))] [] g = some (none, g')) ∧ yqP h g' p bm' bd' i ∧ (1000 * bm' + bd' ≤ 1000 * bm + bd) ∧ (∀ a, (∀ j, a j < k) → t ≤ a i → 1000 * bm' + bd' ≤ yqG W k a (r + 1) i p) ∧ ((bm' = bm ∧ bd' = bd) ∨ ∃ a, (∀ j, a j < k) ∧ 1000 * bm' + bd' = yqG W k a (r + 1) i p)
  | 0, t, ht, g, bm, bd, S, _ => by
    refine ⟨g, bm, bd, fun d => b52_20.trans ?_, S, Nat.le_refl _, fun a ha hl => ?_, Or.inl ⟨rfl, rfl⟩⟩
    · simp (disch := first | omega | simp (disch := omega) only [nI_add, pk_mul, pk_sub, pk_div, znmod, nI_clamp, nIleT, nIleF, nIltT, nIltF, nIeqT, nIeqF, nIm1, nIm1q, zupE, zupN, vpT, nI_01, nI_11, ↓reduceIte, Option.bind_some, Option.toList_some, Option.toList_none, List.cons_append, List.nil_append, Nat.reduceAdd, Nat.reduceMul, Nat.reduceSub, Nat.reduceDiv, Nat.reduceMod, and_true, true_and, and_false, false_and, not_true_eq_false, not_false_eq_true, or_true, true_or, or_false, false_or, Int32.lt_irrefl, Int32.le_refl]) only [nI_add, pk_mul, pk_sub, pk_div, znmod, nI_clamp, nIleT, nIleF, nIltT, nIltF, nIeqT, nIeqF, nIm1, nIm1q, zupE, zupN, vpT, nI_01, nI_11, ↓reduceIte, Option.bind_some, Option.toList_some, Option.toList_none, List.cons_append, List.nil_append, Nat.reduceAdd, Nat.reduceMul, Nat.reduceSub, Nat.reduceDiv, Nat.reduceMod, and_true, true_and, and_false, false_and, not_true_eq_false, not_false_eq_true, or_true, true_or, or_false, false_or, Int32.lt_irrefl, Int32.le_refl, b52_95]
    · have := ha i; omega
  | u + 1, t, ht, g, bm, bd, S, hz => by
    have ez : zaln L 8 3 1 = 7 := rfl
    obtain ⟨f, hq, e2, e3, hB⟩ := S
    obtain ⟨w1, w2, w3⟩ := hW i (by omega)
    obtain ⟨q1, q2⟩ := hq t (by omega)
    have e8 : g 8 3 1 i = nI (W i) := by rw [f 8 (by decide)]; exact w1
    have S1 : yqP h (zup g 5 0 2 t (nI (p t + W i))) (yqa p t (W i)) bm bd (i + 1) := ⟨fun K hK => by rw [zupK hK, f K hK], fun q hq4 => by
      unfold yqa
      by_cases c : q = t
      · subst c
        rw [zupE (by omega), if_pos rfl]
        exact ⟨rfl, by omega⟩
      · rw [zupN (by omega), if_neg c]
        have := (hq q hq4).2
        exact ⟨(hq q hq4).1, by omega⟩, by rw [zupN (by omega)]; exact e2, by rw [zupN (by omega)]; exact e3, hB⟩
    have hp1 : ∀ z q, z < q → q < k → yqa p t (W i) z = 0 → yqa p t (W i) q = 0 := fun z q h1 h2 h3 => by
      unfold yqa at h3 ⊢
      by_cases c : z = t
      · rw [if_pos c] at h3; omega
      · rw [if_neg c] at h3
        by_cases c2 : q = t
        · have := hz z (by omega)
          omega
        · rw [if_neg c2]; exact hp z q h1 h2 h3
    obtain ⟨g1, bm1, bd1, k1, ⟨f1, hq1, e21, e31, hB1⟩, k3, k4, k5⟩ := ih _ _ _ _ S1 hp1
    obtain ⟨q3, q4⟩ := hq1 t (by omega)
    have q3' : g1 5 0 2 t = nI (p t + W i) := by
      rw [q3]; unfold yqa; rw [if_pos rfl]
    have e81 : g1 8 3 1 i = nI (W i) := by rw [f1 8 (by decide)]; exact w1
    have S2 : yqP h (zup g1 5 0 2 t (nI (p t))) p bm1 bd1 i := ⟨fun K hK => by rw [zupK hK, f1 K hK], fun q hq4 => by
      by_cases c : q = t
      · subst c
        rw [zupE (by omega)]
        exact ⟨rfl, q2⟩
      · rw [zupN (by omega)]
        have := hq1 q hq4
        unfold yqa at this
        rw [if_neg c] at this
        exact ⟨this.1, (hq q hq4).2⟩, by rw [zupN (by omega)]; exact e21, by rw [zupN (by omega)]; exact e31, hB1⟩
    have at1 : (bm1 = bm ∧ bd1 = bd) ∨ ∃ a, (∀ j, a j < k) ∧ 1000 * bm1 + bd1 = yqG W k a (r + 1) i p := by
      rcases k5 with k5 | ⟨a, ha, k5⟩
      · exact Or.inl k5
      · refine Or.inr ⟨fun j => if j = i then t else a j, fun j => ?_, ?_⟩
        · show (if j = i then t else a j) < k
          by_cases c : j = i
          · rw [if_pos c]; omega
          · rw [if_neg c]; exact ha j
        · rw [k5, yqG, if_pos rfl]
          exact yqG_c r (i + 1) _ (fun j h1 h2 => (if_neg (by omega)).symm)
    have lb1 : ∀ a, (∀ j, a j < k) → a i = t → 1000 * bm1 + bd1 ≤ yqG W k a (r + 1) i p := fun a ha e => by
      rw [yqG, e]
      exact k4 a ha
    by_cases c : p t = 0
    · refine ⟨_, bm1, bd1, fun d => b52_20.trans ?_, S2, k3, fun a ha hl => ?_, at1⟩
      · have k1' := k1 d
        rw [c] at q1 ⊢
        rw [c, Nat.zero_add] at k1' q3'
        by_cases c2 : k ≤ t + 1
        · simp (disch := first | omega | simp (disch := omega) only [nI_add, pk_mul, pk_sub, pk_div, znmod, nI_clamp, nIleT, nIleF, nIltT, nIltF, nIeqT, nIeqF, nIm1, nIm1q, zupE, zupN, vpT, nI_01, nI_11, ↓reduceIte, Option.bind_some, Option.toList_some, Option.toList_none, List.cons_append, List.nil_append, Nat.reduceAdd, Nat.reduceMul, Nat.reduceSub, Nat.reduceDiv, Nat.reduceMod, and_true, true_and, and_false, false_and, not_true_eq_false, not_false_eq_true, or_true, true_or, or_false, false_or, Int32.lt_irrefl, Int32.le_refl, ez, e8, e81, q1, q3', k1', Nat.zero_add, Nat.sub_self]) only [nI_add, pk_mul, pk_sub, pk_div, znmod, nI_clamp, nIleT, nIleF, nIltT, nIltF, nIeqT, nIeqF, nIm1, nIm1q, zupE, zupN, vpT, nI_01, nI_11, ↓reduceIte, Option.bind_some, Option.toList_some, Option.toList_none, List.cons_append, List.nil_append, Nat.reduceAdd, Nat.reduceMul, Nat.reduceSub, Nat.reduceDiv, Nat.reduceMod, and_true, true_and, and_false, false_and, not_true_eq_false, not_false_eq_true, or_true, true_or, or_false, false_or, Int32.lt_irrefl, Int32.le_refl, ez, e8, e81, q1, q3', k1', Nat.zero_add, Nat.sub_self, b52_26, b52_31, b52_41, b52_46, b52_64, b52_73, b52_89, b52_95, b52_20]
        · simp (disch := first | omega | simp (disch := omega) only [nI_add, pk_mul, pk_sub, pk_div, znmod, nI_clamp, nIleT, nIleF, nIltT, nIltF, nIeqT, nIeqF, nIm1, nIm1q, zupE, zupN, vpT, nI_01, nI_11, ↓reduceIte, Option.bind_some, Option.toList_some, Option.toList_none, List.cons_append, List.nil_append, Nat.reduceAdd, Nat.reduceMul, Nat.reduceSub, Nat.reduceDiv, Nat.reduceMod, and_true, true_and, and_false, false_and, not_true_eq_false, not_false_eq_true, or_true, true_or, or_false, false_or, Int32.lt_irrefl, Int32.le_refl, ez, e8, e81, q1, q3', k1', Nat.zero_add, Nat.sub_self]) only [nI_add, pk_mul, pk_sub, pk_div, znmod, nI_clamp, nIleT, nIleF, nIltT, nIltF, nIeqT, nIeqF, nIm1, nIm1q, zupE, zupN, vpT, nI_01, nI_11, ↓reduceIte, Option.bind_some, Option.toList_some, Option.toList_none, List.cons_append, List.nil_append, Nat.reduceAdd, Nat.reduceMul, Nat.reduceSub, Nat.reduceDiv, Nat.reduceMod, and_true, true_and, and_false, false_and, not_true_eq_false, not_false_eq_true, or_true, true_or, or_false, false_or, Int32.lt_irrefl, Int32.le_refl, ez, e8, e81, q1, q3', k1', Nat.zero_add, Nat.sub_self, b52_26, b52_31, b52_41, b52_46, b52_64, b52_73, b52_89, b52_95, b52_20]
      · by_cases c2 : a i = t
        · exact lb1 a ha c2
        · have pz : p (a i) = 0 := hp t (a i) (by omega) (ha i) c
          have ep : p = fun x => p (yqs (a i) t x) := by
            funext x
            unfold yqs
            by_cases h1 : x = a i
            · rw [if_pos h1, h1, pz, c]
            · rw [if_neg h1]
              by_cases h2 : x = t
              · rw [if_pos h2, h2, pz, c]
              · rw [if_neg h2]
          have := lb1 (fun j => yqs (a i) t (a j)) (fun j => yqs_lt (ha i) (by omega) (ha j)) (by show yqs (a i) t (a i) = t; unfold yqs; rw [if_pos rfl])
          rw [← yqG_s (ha i) (by omega) (r + 1) i p, ← ep] at this
          exact this
    · obtain ⟨g2, bm2, bd2, l1, l2, l3, l4, l5⟩ := y52l hk hN hi hW hp ih u (t + 1) (by omega) _ bm1 bd1 S2 (fun q hq => by
        by_cases c2 : q = t
        · subst c2; omega
        · exact hz q (by omega))
      refine ⟨g2, bm2, bd2, fun d => b52_20.trans ?_, l2, by omega, fun a ha hl => ?_, ?_⟩
      · have k1' := k1 d
        have l1' := l1 d
        have es : p t + W i - W i = p t := by omega
        simp (disch := first | omega | simp (disch := omega) only [nI_add, pk_mul, pk_sub, pk_div, znmod, nI_clamp, nIleT, nIleF, nIltT, nIltF, nIeqT, nIeqF, nIm1, nIm1q, zupE, zupN, vpT, nI_01, nI_11, ↓reduceIte, Option.bind_some, Option.toList_some, Option.toList_none, List.cons_append, List.nil_append, Nat.reduceAdd, Nat.reduceMul, Nat.reduceSub, Nat.reduceDiv, Nat.reduceMod, and_true, true_and, and_false, false_and, not_true_eq_false, not_false_eq_true, or_true, true_or, or_false, false_or, Int32.lt_irrefl, Int32.le_refl, ez, e8, e81, q1, q3', k1', es]) only [nI_add, pk_mul, pk_sub, pk_div, znmod, nI_clamp, nIleT, nIleF, nIltT, nIltF, nIeqT, nIeqF, nIm1, nIm1q, zupE, zupN, vpT, nI_01, nI_11, ↓reduceIte, Option.bind_some, Option.toList_some, Option.toList_none, List.cons_append, List.nil_append, Nat.reduceAdd, Nat.reduceMul, Nat.reduceSub, Nat.reduceDiv, Nat.reduceMod, and_true, true_and, and_false, false_and, not_true_eq_false, not_false_eq_true, or_true, true_or, or_false, false_or, Int32.lt_irrefl, Int32.le_refl, ez, e8, e81, q1, q3', k1', es, b52_26, b52_31, b52_45, b52_46, b52_64, b52_73, b52_89]
        exact l1'
      · by_cases c2 : a i = t
        · exact Nat.le_trans l3 (lb1 a ha c2)
        · exact l4 a ha (by omega)
      · rcases l5 with ⟨l5, l6⟩ | l5
        · subst l5; subst l6
          exact at1
        · exact Or.inr l5
theorem y52 (hk1 : 1 ≤ k) (hk : k ≤ 4) (hN : N ≤ 7) (hn : h 8 3 0 3 = nI N) (hW : ∀ j, j < N → h 8 3 1 j = nI (W j) ∧ 1 ≤ W j ∧ W j ≤ 30) : ∀ r i, i + r = N → yqR L h k W r i
  | 0, i, hi => fun p g bm bd S hp => by
    have e8 : g 8 3 0 3 = nI N := by rw [S.1 8 (by decide)]; exact hn
    obtain ⟨g', bm', bd', a1, a2, a3, a4, a5⟩ := y53 (L := L) hk1 hk (by omega) S
    refine ⟨g', bm', bd', fun d => ?_, a2, a3, fun a ha => a4, ?_⟩
    · simp (disch := first | omega | simp (disch := omega) only [nI_add, pk_mul, pk_sub, pk_div, znmod, nI_clamp, nIleT, nIleF, nIltT, nIltF, nIeqT, nIeqF, nIm1, nIm1q, zupE, zupN, vpT, nI_01, nI_11, ↓reduceIte, Option.bind_some, Option.toList_some, Option.toList_none, List.cons_append, List.nil_append, Nat.reduceAdd, Nat.reduceMul, Nat.reduceSub, Nat.reduceDiv, Nat.reduceMod, and_true, true_and, and_false, false_and, not_true_eq_false, not_false_eq_true, or_true, true_or, or_false, false_or, Int32.lt_irrefl, Int32.le_refl, e8, a1]) only [nI_add, pk_mul, pk_sub, pk_div, znmod, nI_clamp, nIleT, nIleF, nIltT, nIltF, nIeqT, nIeqF, nIm1, nIm1q, zupE, zupN, vpT, nI_01, nI_11, ↓reduceIte, Option.bind_some, Option.toList_some, Option.toList_none, List.cons_append, List.nil_append, Nat.reduceAdd, Nat.reduceMul, Nat.reduceSub, Nat.reduceDiv, Nat.reduceMod, and_true, true_and, and_false, false_and, not_true_eq_false, not_false_eq_true, or_true, true_or, or_false, false_or, Int32.lt_irrefl, Int32.le_refl, e8, a1, b52_0, b52_8, b52_13]
    · rcases a5 with a5 | a5
      · exact Or.inl a5
      · exact Or.inr ⟨fun _ => 0, fun _ => (by show 0 < k; omega), a5⟩
  | r + 1, i, hi => fun p g bm bd S hp => by
    have e8 : g 8 3 0 3 = nI N := by rw [S.1 8 (by decide)]; exact hn
    obtain ⟨g', bm', bd', a1, a2, a3, a4, a5⟩ := y52l (L := L) hk hN hi hW hp (y52 hk1 hk hN hn hW r (i + 1) (by omega)) k 0 (by omega) g bm bd S (fun q hq => absurd hq (by omega))
    refine ⟨g', bm', bd', fun d => ?_, a2, a3, fun a ha => a4 a ha (Nat.zero_le _), a5⟩
    have a1' := a1 d
    simp (disch := first | omega | simp (disch := omega) only [nI_add, pk_mul, pk_sub, pk_div, znmod, nI_clamp, nIleT, nIleF, nIltT, nIltF, nIeqT, nIeqF, nIm1, nIm1q, zupE, zupN, vpT, nI_01, nI_11, ↓reduceIte, Option.bind_some, Option.toList_some, Option.toList_none, List.cons_append, List.nil_append, Nat.reduceAdd, Nat.reduceMul, Nat.reduceSub, Nat.reduceDiv, Nat.reduceMod, and_true, true_and, and_false, false_and, not_true_eq_false, not_false_eq_true, or_true, true_or, or_false, false_or, Int32.lt_irrefl, Int32.le_refl, e8]) only [nI_add, pk_mul, pk_sub, pk_div, znmod, nI_clamp, nIleT, nIleF, nIltT, nIltF, nIeqT, nIeqF, nIm1, nIm1q, zupE, zupN, vpT, nI_01, nI_11, ↓reduceIte, Option.bind_some, Option.toList_some, Option.toList_none, List.cons_append, List.nil_append, Nat.reduceAdd, Nat.reduceMul, Nat.reduceSub, Nat.reduceDiv, Nat.reduceMod, and_true, true_and, and_false, false_and, not_true_eq_false, not_false_eq_true, or_true, true_or, or_false, false_or, Int32.lt_irrefl, Int32.le_refl, e8, b52_0, b52_14]
    exact a1'
end PF
section PG
variable {L : Nat} {hm : zH} {N k : Nat} {W : Nat → Nat}
/-- one way of the reference's -/
theorem y272 {g : zH} {w : Nat} (hk1 : 1 ≤ k) (hk : k ≤ 4) (hN : N ≤ 7) (hw : w < 2 ^ 20) (y : yM hm g) (e59 : hm 12 0 0 59 = nI N) (hW : ∀ j, j < N → hm 12 0 61 j = nI (W j) ∧ W j ≤ 30) : ∃ g', (∀ d, zev L (d + 1) 272 0 [some (.inr (.inl (12, 0, 0))), some (.inl (nI w)), some (.inl (nI k)), none, none, none, none] [] g = some (some (.inl (nI (yqG W k (fun j => w / k ^ j % k) N 0 (fun _ => 0)))), g')) ∧ yM hm g' := by
  obtain ⟨g1, i1, y1, z1⟩ := zinv (P := fun j (g : zH) => fun d => zev L d 272 2 [some (.inr (.inl (12, 0, 0))), some (.inl (nI w)), some (.inl (nI k)), some (.inl (nI j)), none, none, none] [] g) (R := fun j g => yM hm g ∧ ∀ q, q < j → g 12 0 62 q = nI 0) (N := k) (fun j g hj ⟨y, z⟩ => by
    refine ⟨zup g 12 0 62 j (nI 0), funext fun d => b272_2.trans ?_, yM_u y rfl, fun q hq => ?_⟩
    · simp (disch := first | omega | simp (disch := omega) only [nI_add, pk_mul, pk_sub, pk_div, znmod, nI_clamp, nIleT, nIleF, nIltT, nIltF, nIeqT, nIeqF, nIm1, nIm1q, zupE, zupN, vpT, nI_01, nI_11, ↓reduceIte, Option.bind_some, Option.toList_some, Option.toList_none, List.cons_append, List.nil_append, Nat.reduceAdd, Nat.reduceMul, Nat.reduceSub, Nat.reduceDiv, Nat.reduceMod, and_true, true_and, and_false, false_and, not_true_eq_false, not_false_eq_true, or_true, true_or, or_false, false_or, Int32.lt_irrefl, Int32.le_refl]) only [nI_add, pk_mul, pk_sub, pk_div, znmod, nI_clamp, nIleT, nIleF, nIltT, nIltF, nIeqT, nIeqF, nIm1, nIm1q, zupE, zupN, vpT, nI_01, nI_11, ↓reduceIte, Option.bind_some, Option.toList_some, Option.toList_none, List.cons_append, List.nil_append, Nat.reduceAdd, Nat.reduceMul, Nat.reduceSub, Nat.reduceDiv, Nat.reduceMod, and_true, true_and, and_false, false_and, not_true_eq_false, not_false_eq_true, or_true, true_or, or_false, false_or, Int32.lt_irrefl, Int32.le_refl, b272_7, b272_14]
    · by_cases c : q = j
      · subst c; rw [zupE (by omega)]
      · rw [zupN (by omega)]; exact z q (by omega)) k (Nat.le_refl k) g ⟨y, fun q hq => absurd hq (by omega)⟩
  obtain ⟨⟨g2, p⟩, i2, y2, z2, v2⟩ := zinv (P := fun j (s : zH × (Nat → Nat)) => fun d => zev L d 272 25 [some (.inr (.inl (12, 0, 0))), some (.inl (nI w)), some (.inl (nI k)), some (.inl (nI (w/k^j))), some (.inl (nI j)), none, none] [] s.1) (R := fun j s => yM hm s.1 ∧ (∀ q, q < k → s.1 12 0 62 q = nI (s.2 q) ∧ s.2 q ≤ 30 * j) ∧ yqG W k (fun j => w / k ^ j % k) (N - j) j s.2 = yqG W k (fun j => w / k ^ j % k) N 0 (fun _ => 0)) (N := N) (fun j ⟨g, p⟩ hj ⟨y, z, v⟩ => by
    simp only [] at y z v
    obtain ⟨w1, w2⟩ := hW j hj
    have e59' : g 12 0 0 59 = nI N := by rw [yM_f y 59 (by decide)]; exact e59
    have e61 : g 12 0 61 j = nI (W j) := by rw [yM_s y 61 (by decide) (by decide)]; exact w1
    have hd : w / k ^ j % k < k := Nat.mod_lt _ (by omega)
    obtain ⟨p1, p2⟩ := z (w / k ^ j % k) hd
    have hwl : w / k ^ j ≤ w := Nat.div_le_self _ _
    have e1 : w / k ^ j / k = w / k ^ (j + 1) := by rw [Nat.div_div_eq_div_mul, Nat.pow_succ]
    refine ⟨(zup g 12 0 62 (w / k ^ j % k) (nI (p (w / k ^ j % k) + W j)), yqa p (w / k ^ j % k) (W j)), funext fun d => b272_25.trans ?_, yM_u y rfl, fun q hq => ?_, ?_⟩
    · have k0 : ¬ nI k = 0 := by
        intro e
        have := (nI_eq (a := k) (b := 0) (by omega) (by omega)).1 e
        omega
      have dv : nI (w / k ^ j) / nI k = nI (w / k ^ j / k) := by rw [pk_div (by omega) (by omega) (by omega)]
      have md : nI (w / k ^ j) - nI (w / k ^ j / k * k) = nI (w / k ^ j % k) := ydm _ _
      have hh : w / k ^ j / k ≤ w / k ^ j := Nat.div_le_self _ _
      have hh2 : w / k ^ j / k * k ≤ w / k ^ j := Nat.div_mul_le_self _ _
      simp (disch := first | omega | simp (disch := omega) only [nI_add, pk_mul, pk_sub, pk_div, znmod, nI_clamp, nIleT, nIleF, nIltT, nIltF, nIeqT, nIeqF, nIm1, nIm1q, zupE, zupN, vpT, nI_01, nI_11, ↓reduceIte, Option.bind_some, Option.toList_some, Option.toList_none, List.cons_append, List.nil_append, Nat.reduceAdd, Nat.reduceMul, Nat.reduceSub, Nat.reduceDiv, Nat.reduceMod, and_true, true_and, and_false, false_and, not_true_eq_false, not_false_eq_true, or_true, true_or, or_false, false_or, Int32.lt_irrefl, Int32.le_refl, e59']) only [nI_add, pk_mul, pk_sub, pk_div, znmod, nI_clamp, nIleT, nIleF, nIltT, nIltF, nIeqT, nIeqF, nIm1, nIm1q, zupE, zupN, vpT, nI_01, nI_11, ↓reduceIte, Option.bind_some, Option.toList_some, Option.toList_none, List.cons_append, List.nil_append, Nat.reduceAdd, Nat.reduceMul, Nat.reduceSub, Nat.reduceDiv, Nat.reduceMod, and_true, true_and, and_false, false_and, not_true_eq_false, not_false_eq_true, or_true, true_or, or_false, false_or, Int32.lt_irrefl, Int32.le_refl, e59']
      rw [b272_34 k0 (by rw [dv, pk_mul, md]; exact vp_in_nI (by omega) (by omega)) (vp_in_nI (by omega) (by omega)), b272_58 k0, dv, pk_mul, md]
      simp (disch := first | omega | simp (disch := omega) only [nI_add, pk_mul, pk_sub, pk_div, znmod, nI_clamp, nIleT, nIleF, nIltT, nIltF, nIeqT, nIeqF, nIm1, nIm1q, zupE, zupN, vpT, nI_01, nI_11, ↓reduceIte, Option.bind_some, Option.toList_some, Option.toList_none, List.cons_append, List.nil_append, Nat.reduceAdd, Nat.reduceMul, Nat.reduceSub, Nat.reduceDiv, Nat.reduceMod, and_true, true_and, and_false, false_and, not_true_eq_false, not_false_eq_true, or_true, true_or, or_false, false_or, Int32.lt_irrefl, Int32.le_refl, e61, p1, e1]) only [nI_add, pk_mul, pk_sub, pk_div, znmod, nI_clamp, nIleT, nIleF, nIltT, nIltF, nIeqT, nIeqF, nIm1, nIm1q, zupE, zupN, vpT, nI_01, nI_11, ↓reduceIte, Option.bind_some, Option.toList_some, Option.toList_none, List.cons_append, List.nil_append, Nat.reduceAdd, Nat.reduceMul, Nat.reduceSub, Nat.reduceDiv, Nat.reduceMod, and_true, true_and, and_false, false_and, not_true_eq_false, not_false_eq_true, or_true, true_or, or_false, false_or, Int32.lt_irrefl, Int32.le_refl, e61, p1, e1]
    · unfold yqa
      by_cases c : q = w / k ^ j % k
      · subst c
        show zup g 12 0 62 _ _ 12 0 62 _ = _ ∧ _
        rw [zupE (by omega)]
        simp only [if_true, ↓reduceIte]
        exact ⟨trivial, by omega⟩
      · show zup g 12 0 62 _ _ 12 0 62 q = nI (if q = w / k ^ j % k then _ else _) ∧ (if q = w / k ^ j % k then _ else _) ≤ _
        rw [zupN (by omega), if_neg c]
        have := (z q hq).2
        exact ⟨(z q hq).1, by omega⟩
    · rw [← v, show N - j = (N - (j + 1)) + 1 by omega, yqG]) N (Nat.le_refl N) (g1, fun _ => 0) ⟨y1, fun q hq => ⟨z1 q hq, Nat.zero_le _⟩, rfl⟩
  simp only [] at y2 z2 v2
  have hp : ∀ q, q < k → p q ≤ 210 := fun q hq => Nat.le_trans (z2 q hq).2 (by omega)
  have xb : ∀ n, n ≤ k → yqx p n ≤ 210 := fun n hn => yqx_lub n (fun q hq => hp q (by omega))
  have nb := yqn_u (p := p)
  obtain ⟨_, i3, _⟩ := zinv (P := fun j (_ : Unit) => fun d => zev L (d + 1) 272 79 [some (.inr (.inl (12, 0, 0))), some (.inl (nI w)), some (.inl (nI k)), some (.inl (nI (w/k^N))), some (.inl (nI (yqx p j))), some (.inl (nI (yqn p j))), some (.inl (nI j))] [] g2) (R := fun _ _ => True) (N := k) (fun j _ hj _ => by
    refine ⟨(), funext fun d => b272_79.trans ?_, trivial⟩
    obtain ⟨q1, q2⟩ := z2 j hj
    have q3 := hp j hj
    have b1 := xb j (by omega)
    have b2 := nb j
    have x1 : yqx p (j + 1) = if yqx p j < p j then p j else yqx p j := rfl
    have x2 : yqn p (j + 1) = if p j < yqn p j then p j else yqn p j := rfl
    have x1' : yqx p (j + 1) = if yqx p j ≤ p j then p j else yqx p j := by rw [x1]; split <;> split <;> omega
    have x2' : yqn p (j + 1) = if p j ≤ yqn p j then p j else yqn p j := by rw [x2]; split <;> split <;> omega
    by_cases c1 : yqx p j ≤ p j
    · rw [if_pos c1] at x1'
      by_cases c2 : p j ≤ yqn p j
      · rw [if_pos c2] at x2'
        simp (disch := first | omega | simp (disch := omega) only [nI_add, pk_mul, pk_sub, pk_div, znmod, nI_clamp, nIleT, nIleF, nIltT, nIltF, nIeqT, nIeqF, nIm1, nIm1q, zupE, zupN, vpT, nI_01, nI_11, ↓reduceIte, Option.bind_some, Option.toList_some, Option.toList_none, List.cons_append, List.nil_append, Nat.reduceAdd, Nat.reduceMul, Nat.reduceSub, Nat.reduceDiv, Nat.reduceMod, and_true, true_and, and_false, false_and, not_true_eq_false, not_false_eq_true, or_true, true_or, or_false, false_or, Int32.lt_irrefl, Int32.le_refl, q1, x1', x2', mGrt, mLess]) only [nI_add, pk_mul, pk_sub, pk_div, znmod, nI_clamp, nIleT, nIleF, nIltT, nIltF, nIeqT, nIeqF, nIm1, nIm1q, zupE, zupN, vpT, nI_01, nI_11, ↓reduceIte, Option.bind_some, Option.toList_some, Option.toList_none, List.cons_append, List.nil_append, Nat.reduceAdd, Nat.reduceMul, Nat.reduceSub, Nat.reduceDiv, Nat.reduceMod, and_true, true_and, and_false, false_and, not_true_eq_false, not_false_eq_true, or_true, true_or, or_false, false_or, Int32.lt_irrefl, Int32.le_refl, q1, x1', x2', mGrt, mLess, b272_85, b272_98, b272_113]
      · rw [if_neg c2] at x2'
        simp (disch := first | omega | simp (disch := omega) only [nI_add, pk_mul, pk_sub, pk_div, znmod, nI_clamp, nIleT, nIleF, nIltT, nIltF, nIeqT, nIeqF, nIm1, nIm1q, zupE, zupN, vpT, nI_01, nI_11, ↓reduceIte, Option.bind_some, Option.toList_some, Option.toList_none, List.cons_append, List.nil_append, Nat.reduceAdd, Nat.reduceMul, Nat.reduceSub, Nat.reduceDiv, Nat.reduceMod, and_true, true_and, and_false, false_and, not_true_eq_false, not_false_eq_true, or_true, true_or, or_false, false_or, Int32.lt_irrefl, Int32.le_refl, q1, x1', x2', mGrt, mLess]) only [nI_add, pk_mul, pk_sub, pk_div, znmod, nI_clamp, nIleT, nIleF, nIltT, nIltF, nIeqT, nIeqF, nIm1, nIm1q, zupE, zupN, vpT, nI_01, nI_11, ↓reduceIte, Option.bind_some, Option.toList_some, Option.toList_none, List.cons_append, List.nil_append, Nat.reduceAdd, Nat.reduceMul, Nat.reduceSub, Nat.reduceDiv, Nat.reduceMod, and_true, true_and, and_false, false_and, not_true_eq_false, not_false_eq_true, or_true, true_or, or_false, false_or, Int32.lt_irrefl, Int32.le_refl, q1, x1', x2', mGrt, mLess, b272_85, b272_98, b272_113]
    · rw [if_neg c1] at x1'
      by_cases c2 : p j ≤ yqn p j
      · rw [if_pos c2] at x2'
        simp (disch := first | omega | simp (disch := omega) only [nI_add, pk_mul, pk_sub, pk_div, znmod, nI_clamp, nIleT, nIleF, nIltT, nIltF, nIeqT, nIeqF, nIm1, nIm1q, zupE, zupN, vpT, nI_01, nI_11, ↓reduceIte, Option.bind_some, Option.toList_some, Option.toList_none, List.cons_append, List.nil_append, Nat.reduceAdd, Nat.reduceMul, Nat.reduceSub, Nat.reduceDiv, Nat.reduceMod, and_true, true_and, and_false, false_and, not_true_eq_false, not_false_eq_true, or_true, true_or, or_false, false_or, Int32.lt_irrefl, Int32.le_refl, q1, x1', x2', mGrt, mLess]) only [nI_add, pk_mul, pk_sub, pk_div, znmod, nI_clamp, nIleT, nIleF, nIltT, nIltF, nIeqT, nIeqF, nIm1, nIm1q, zupE, zupN, vpT, nI_01, nI_11, ↓reduceIte, Option.bind_some, Option.toList_some, Option.toList_none, List.cons_append, List.nil_append, Nat.reduceAdd, Nat.reduceMul, Nat.reduceSub, Nat.reduceDiv, Nat.reduceMod, and_true, true_and, and_false, false_and, not_true_eq_false, not_false_eq_true, or_true, true_or, or_false, false_or, Int32.lt_irrefl, Int32.le_refl, q1, x1', x2', mGrt, mLess, b272_85, b272_98, b272_113]
      · rw [if_neg c2] at x2'
        simp (disch := first | omega | simp (disch := omega) only [nI_add, pk_mul, pk_sub, pk_div, znmod, nI_clamp, nIleT, nIleF, nIltT, nIltF, nIeqT, nIeqF, nIm1, nIm1q, zupE, zupN, vpT, nI_01, nI_11, ↓reduceIte, Option.bind_some, Option.toList_some, Option.toList_none, List.cons_append, List.nil_append, Nat.reduceAdd, Nat.reduceMul, Nat.reduceSub, Nat.reduceDiv, Nat.reduceMod, and_true, true_and, and_false, false_and, not_true_eq_false, not_false_eq_true, or_true, true_or, or_false, false_or, Int32.lt_irrefl, Int32.le_refl, q1, x1', x2', mGrt, mLess]) only [nI_add, pk_mul, pk_sub, pk_div, znmod, nI_clamp, nIleT, nIleF, nIltT, nIltF, nIeqT, nIeqF, nIm1, nIm1q, zupE, zupN, vpT, nI_01, nI_11, ↓reduceIte, Option.bind_some, Option.toList_some, Option.toList_none, List.cons_append, List.nil_append, Nat.reduceAdd, Nat.reduceMul, Nat.reduceSub, Nat.reduceDiv, Nat.reduceMod, and_true, true_and, and_false, false_and, not_true_eq_false, not_false_eq_true, or_true, true_or, or_false, false_or, Int32.lt_irrefl, Int32.le_refl, q1, x1', x2', mGrt, mLess, b272_85, b272_98, b272_113]) k (Nat.le_refl _) () trivial
  have e59' : g2 12 0 0 59 = nI N := by rw [yM_f y2 59 (by decide)]; exact e59
  refine ⟨g2, fun d => ?_, y2⟩
  rw [b272_0]
  refine Eq.trans (congrFun i1 (d + 1)) (b272_2.trans ?_)
  have i2' := congrFun i2 (d + 1)
  have i3' := congrFun i3 d
  simp only [Nat.pow_zero, Nat.div_one] at i2'
  simp (disch := first | omega | simp (disch := omega) only [nI_add, pk_mul, pk_sub, pk_div, znmod, nI_clamp, nIleT, nIleF, nIltT, nIltF, nIeqT, nIeqF, nIm1, nIm1q, zupE, zupN, vpT, nI_01, nI_11, ↓reduceIte, Option.bind_some, Option.toList_some, Option.toList_none, List.cons_append, List.nil_append, Nat.reduceAdd, Nat.reduceMul, Nat.reduceSub, Nat.reduceDiv, Nat.reduceMod, and_true, true_and, and_false, false_and, not_true_eq_false, not_false_eq_true, or_true, true_or, or_false, false_or, Int32.lt_irrefl, Int32.le_refl]) only [nI_add, pk_mul, pk_sub, pk_div, znmod, nI_clamp, nIleT, nIleF, nIltT, nIltF, nIeqT, nIeqF, nIm1, nIm1q, zupE, zupN, vpT, nI_01, nI_11, ↓reduceIte, Option.bind_some, Option.toList_some, Option.toList_none, List.cons_append, List.nil_append, Nat.reduceAdd, Nat.reduceMul, Nat.reduceSub, Nat.reduceDiv, Nat.reduceMod, and_true, true_and, and_false, false_and, not_true_eq_false, not_false_eq_true, or_true, true_or, or_false, false_or, Int32.lt_irrefl, Int32.le_refl, b272_20]
  refine Eq.trans i2' (b272_25.trans ?_)
  simp (disch := first | omega | simp (disch := omega) only [nI_add, pk_mul, pk_sub, pk_div, znmod, nI_clamp, nIleT, nIleF, nIltT, nIltF, nIeqT, nIeqF, nIm1, nIm1q, zupE, zupN, vpT, nI_01, nI_11, ↓reduceIte, Option.bind_some, Option.toList_some, Option.toList_none, List.cons_append, List.nil_append, Nat.reduceAdd, Nat.reduceMul, Nat.reduceSub, Nat.reduceDiv, Nat.reduceMod, and_true, true_and, and_false, false_and, not_true_eq_false, not_false_eq_true, or_true, true_or, or_false, false_or, Int32.lt_irrefl, Int32.le_refl, e59']) only [nI_add, pk_mul, pk_sub, pk_div, znmod, nI_clamp, nIleT, nIleF, nIltT, nIltF, nIeqT, nIeqF, nIm1, nIm1q, zupE, zupN, vpT, nI_01, nI_11, ↓reduceIte, Option.bind_some, Option.toList_some, Option.toList_none, List.cons_append, List.nil_append, Nat.reduceAdd, Nat.reduceMul, Nat.reduceSub, Nat.reduceDiv, Nat.reduceMod, and_true, true_and, and_false, false_and, not_true_eq_false, not_false_eq_true, or_true, true_or, or_false, false_or, Int32.lt_irrefl, Int32.le_refl, e59', b272_68]
  refine Eq.trans i3' (b272_79.trans ?_)
  have n1 : yqn p k ≤ yqx p k := Nat.le_trans (yqn_le k (by omega : 0 < k)) (yqx_le k (by omega : 0 < k))
  have b1 := xb k (Nat.le_refl k)
  rw [← v2, Nat.sub_self]
  have hF : 1000 * yqx p k + yqx p k - yqn p k = yqG W k (fun j => w / k ^ j % k) 0 N p := by
    show _ = 1000 * yqx p k + (yqx p k - yqn p k)
    omega
  simp (disch := first | omega | simp (disch := omega) only [nI_add, pk_mul, pk_sub, pk_div, znmod, nI_clamp, nIleT, nIleF, nIltT, nIltF, nIeqT, nIeqF, nIm1, nIm1q, zupE, zupN, vpT, nI_01, nI_11, ↓reduceIte, Option.bind_some, Option.toList_some, Option.toList_none, List.cons_append, List.nil_append, Nat.reduceAdd, Nat.reduceMul, Nat.reduceSub, Nat.reduceDiv, Nat.reduceMod, and_true, true_and, and_false, false_and, not_true_eq_false, not_false_eq_true, or_true, true_or, or_false, false_or, Int32.lt_irrefl, Int32.le_refl, hF]) only [nI_add, pk_mul, pk_sub, pk_div, znmod, nI_clamp, nIleT, nIleF, nIltT, nIltF, nIeqT, nIeqF, nIm1, nIm1q, zupE, zupN, vpT, nI_01, nI_11, ↓reduceIte, Option.bind_some, Option.toList_some, Option.toList_none, List.cons_append, List.nil_append, Nat.reduceAdd, Nat.reduceMul, Nat.reduceSub, Nat.reduceDiv, Nat.reduceMod, and_true, true_and, and_false, false_and, not_true_eq_false, not_false_eq_true, or_true, true_or, or_false, false_or, Int32.lt_irrefl, Int32.le_refl, hF, b272_121]
theorem y273 {g : zH} {x2 : Int32} (hk1 : 1 ≤ k) (hk : k ≤ 4) (hN : N ≤ 7) (y : yM hm g) (e59 : hm 12 0 0 59 = nI N) (hW : ∀ j, j < N → hm 12 0 61 j = nI (W j) ∧ W j ≤ 30) : ∃ g' b, (∀ d, zev L (d + 2) 273 27 [some (.inr (.inl (12, 0, 0))), some (.inl (nI k)), some (.inl x2), none, none, none] [] g = zev L (d + 2) 273 86 [some (.inr (.inl (12, 0, 0))), some (.inl (nI k)), some (.inl x2), some (.inl (nI (k^N))), some (.inl (nI b)), some (.inl (nI (k^N)))] [] g') ∧ yM hm g' ∧ b ≤ 211000 ∧ (∀ a, (∀ j, a j < k) → b ≤ yqG W k a N 0 (fun _ => 0)) ∧ ∃ a, (∀ j, a j < k) ∧ b = yqG W k a N 0 (fun _ => 0) := by
  have pw : ∀ j, j ≤ N → k ^ j ≤ 4 ^ 7 := fun j hj => Nat.le_trans (Nat.pow_le_pow_left hk j) (Nat.pow_le_pow_right (by omega) (by omega))
  have p1 : 0 < k ^ N := Nat.pow_pos hk1
  have e59' : ∀ g, yM hm g → g 12 0 0 59 = nI N := fun g y => by rw [yM_f y 59 (by decide)]; exact e59
  have eg := e59' g y
  obtain ⟨_, i1, _⟩ := zinv (P := fun j (_ : Unit) => fun d => zev L d 273 32 [some (.inr (.inl (12, 0, 0))), some (.inl (nI k)), some (.inl x2), some (.inl (nI (k^j))), some (.inl (nI j)), none] [] g) (R := fun _ _ => True) (N := N) (fun j _ hj _ => by
    refine ⟨(), funext fun d => b273_32.trans ?_, trivial⟩
    have := pw j (by omega)
    have e : k ^ j * k = k ^ (j + 1) := (Nat.pow_succ k j).symm
    simp (disch := first | omega | simp (disch := omega) only [nI_add, pk_mul, pk_sub, pk_div, znmod, nI_clamp, nIleT, nIleF, nIltT, nIltF, nIeqT, nIeqF, nIm1, nIm1q, zupE, zupN, vpT, nI_01, nI_11, ↓reduceIte, Option.bind_some, Option.toList_some, Option.toList_none, List.cons_append, List.nil_append, Nat.reduceAdd, Nat.reduceMul, Nat.reduceSub, Nat.reduceDiv, Nat.reduceMod, and_true, true_and, and_false, false_and, not_true_eq_false, not_false_eq_true, or_true, true_or, or_false, false_or, Int32.lt_irrefl, Int32.le_refl, eg, e]) only [nI_add, pk_mul, pk_sub, pk_div, znmod, nI_clamp, nIleT, nIleF, nIltT, nIltF, nIeqT, nIeqF, nIm1, nIm1q, zupE, zupN, vpT, nI_01, nI_11, ↓reduceIte, Option.bind_some, Option.toList_some, Option.toList_none, List.cons_append, List.nil_append, Nat.reduceAdd, Nat.reduceMul, Nat.reduceSub, Nat.reduceDiv, Nat.reduceMod, and_true, true_and, and_false, false_and, not_true_eq_false, not_false_eq_true, or_true, true_or, or_false, false_or, Int32.lt_irrefl, Int32.le_refl, eg, e, b273_41]) N (Nat.le_refl _) () trivial
  have pN := pw N (Nat.le_refl N)
  obtain ⟨⟨g2, b⟩, i2, y2, hb, l2, a2⟩ := zinv (P := fun j (s : zH × Nat) => fun d => zev L (d + 2) 273 59 [some (.inr (.inl (12, 0, 0))), some (.inl (nI k)), some (.inl x2), some (.inl (nI (k^N))), some (.inl (nI s.2)), some (.inl (nI j))] [] s.1) (R := fun j s => yM hm s.1 ∧ ((0 < j → s.2 ≤ 211000) ∧ (j = 0 → s.2 = 100000000)) ∧ (∀ w, w < j → s.2 ≤ yqG W k (fun j => w / k ^ j % k) N 0 (fun _ => 0)) ∧ (j = 0 ∨ ∃ w, w < j ∧ s.2 = yqG W k (fun j => w / k ^ j % k) N 0 (fun _ => 0))) (N := k ^ N) (fun j ⟨g, b⟩ hj ⟨y, hb, l, a⟩ => by
    simp only [] at y hb l a
    obtain ⟨g', q1, q2⟩ := y272 (L := L) (W := W) (w := j) hk1 hk hN (by omega) y e59 hW
    have q3 := yqG_le (W := W) (k := k) (a := fun i => j / k ^ i % k) hN (fun j hj => (hW j hj).2) N 0 (fun _ => 0) (by omega) (fun q hq => by omega)
    by_cases c : yqG W k (fun i => j / k ^ i % k) N 0 (fun _ => 0) ≤ b
    · refine ⟨(g', yqG W k (fun i => j / k ^ i % k) N 0 (fun _ => 0)), funext fun d => b273_59.trans ?_, q2, ⟨fun _ => q3, fun q => by omega⟩, fun w hw => ?_, Or.inr ⟨j, by omega, rfl⟩⟩
      · have q1' := q1 d
        simp (disch := first | omega | simp (disch := omega) only [nI_add, pk_mul, pk_sub, pk_div, znmod, nI_clamp, nIleT, nIleF, nIltT, nIltF, nIeqT, nIeqF, nIm1, nIm1q, zupE, zupN, vpT, nI_01, nI_11, ↓reduceIte, Option.bind_some, Option.toList_some, Option.toList_none, List.cons_append, List.nil_append, Nat.reduceAdd, Nat.reduceMul, Nat.reduceSub, Nat.reduceDiv, Nat.reduceMod, and_true, true_and, and_false, false_and, not_true_eq_false, not_false_eq_true, or_true, true_or, or_false, false_or, Int32.lt_irrefl, Int32.le_refl, q1', mLess]) only [nI_add, pk_mul, pk_sub, pk_div, znmod, nI_clamp, nIleT, nIleF, nIltT, nIltF, nIeqT, nIeqF, nIm1, nIm1q, zupE, zupN, vpT, nI_01, nI_11, ↓reduceIte, Option.bind_some, Option.toList_some, Option.toList_none, List.cons_append, List.nil_append, Nat.reduceAdd, Nat.reduceMul, Nat.reduceSub, Nat.reduceDiv, Nat.reduceMod, and_true, true_and, and_false, false_and, not_true_eq_false, not_false_eq_true, or_true, true_or, or_false, false_or, Int32.lt_irrefl, Int32.le_refl, q1', mLess, b273_65, b273_75, b273_78]
      · by_cases c2 : w = j
        · subst c2; exact Nat.le_refl _
        · exact Nat.le_trans c (l w (by omega))
    · refine ⟨(g', b), funext fun d => b273_59.trans ?_, q2, ⟨fun _ => (by show b ≤ _; omega), fun q => by omega⟩, fun w hw => ?_, ?_⟩
      · have q1' := q1 d
        simp (disch := first | omega | simp (disch := omega) only [nI_add, pk_mul, pk_sub, pk_div, znmod, nI_clamp, nIleT, nIleF, nIltT, nIltF, nIeqT, nIeqF, nIm1, nIm1q, zupE, zupN, vpT, nI_01, nI_11, ↓reduceIte, Option.bind_some, Option.toList_some, Option.toList_none, List.cons_append, List.nil_append, Nat.reduceAdd, Nat.reduceMul, Nat.reduceSub, Nat.reduceDiv, Nat.reduceMod, and_true, true_and, and_false, false_and, not_true_eq_false, not_false_eq_true, or_true, true_or, or_false, false_or, Int32.lt_irrefl, Int32.le_refl, q1', mLess]) only [nI_add, pk_mul, pk_sub, pk_div, znmod, nI_clamp, nIleT, nIleF, nIltT, nIltF, nIeqT, nIeqF, nIm1, nIm1q, zupE, zupN, vpT, nI_01, nI_11, ↓reduceIte, Option.bind_some, Option.toList_some, Option.toList_none, List.cons_append, List.nil_append, Nat.reduceAdd, Nat.reduceMul, Nat.reduceSub, Nat.reduceDiv, Nat.reduceMod, and_true, true_and, and_false, false_and, not_true_eq_false, not_false_eq_true, or_true, true_or, or_false, false_or, Int32.lt_irrefl, Int32.le_refl, q1', mLess, b273_65, b273_75, b273_78]
      · by_cases c2 : w = j
        · subst c2; show b ≤ _; omega
        · exact l w (by omega)
      · rcases a with a | ⟨w, hw, e⟩
        · omega
        · exact Or.inr ⟨w, by omega, e⟩) (k ^ N) (Nat.le_refl _) (g, 100000000) ⟨y, ⟨fun q => absurd q (by omega), fun _ => rfl⟩, fun w hw => absurd hw (by omega), Or.inl rfl⟩
  simp only [] at y2 hb l2 a2
  refine ⟨g2, b, fun d => ?_, y2, by omega, fun a ha => ?_, ?_⟩
  · have i1' := congrFun i1 (d + 2)
    have i2' := congrFun i2 d
    simp only [Nat.pow_zero] at i1'
    rw [b273_27]
    refine Eq.trans i1' (b273_32.trans ?_)
    simp (disch := first | omega | simp (disch := omega) only [nI_add, pk_mul, pk_sub, pk_div, znmod, nI_clamp, nIleT, nIleF, nIltT, nIltF, nIeqT, nIeqF, nIm1, nIm1q, zupE, zupN, vpT, nI_01, nI_11, ↓reduceIte, Option.bind_some, Option.toList_some, Option.toList_none, List.cons_append, List.nil_append, Nat.reduceAdd, Nat.reduceMul, Nat.reduceSub, Nat.reduceDiv, Nat.reduceMod, and_true, true_and, and_false, false_and, not_true_eq_false, not_false_eq_true, or_true, true_or, or_false, false_or, Int32.lt_irrefl, Int32.le_refl, eg]) only [nI_add, pk_mul, pk_sub, pk_div, znmod, nI_clamp, nIleT, nIleF, nIltT, nIltF, nIeqT, nIeqF, nIm1, nIm1q, zupE, zupN, vpT, nI_01, nI_11, ↓reduceIte, Option.bind_some, Option.toList_some, Option.toList_none, List.cons_append, List.nil_append, Nat.reduceAdd, Nat.reduceMul, Nat.reduceSub, Nat.reduceDiv, Nat.reduceMod, and_true, true_and, and_false, false_and, not_true_eq_false, not_false_eq_true, or_true, true_or, or_false, false_or, Int32.lt_irrefl, Int32.le_refl, eg, b273_51]
    refine Eq.trans i2' (b273_59.trans ?_)
    simp (disch := first | omega | simp (disch := omega) only [nI_add, pk_mul, pk_sub, pk_div, znmod, nI_clamp, nIleT, nIleF, nIltT, nIltF, nIeqT, nIeqF, nIm1, nIm1q, zupE, zupN, vpT, nI_01, nI_11, ↓reduceIte, Option.bind_some, Option.toList_some, Option.toList_none, List.cons_append, List.nil_append, Nat.reduceAdd, Nat.reduceMul, Nat.reduceSub, Nat.reduceDiv, Nat.reduceMod, and_true, true_and, and_false, false_and, not_true_eq_false, not_false_eq_true, or_true, true_or, or_false, false_or, Int32.lt_irrefl, Int32.le_refl]) only [nI_add, pk_mul, pk_sub, pk_div, znmod, nI_clamp, nIleT, nIleF, nIltT, nIltF, nIeqT, nIeqF, nIm1, nIm1q, zupE, zupN, vpT, nI_01, nI_11, ↓reduceIte, Option.bind_some, Option.toList_some, Option.toList_none, List.cons_append, List.nil_append, Nat.reduceAdd, Nat.reduceMul, Nat.reduceSub, Nat.reduceDiv, Nat.reduceMod, and_true, true_and, and_false, false_and, not_true_eq_false, not_false_eq_true, or_true, true_or, or_false, false_or, Int32.lt_irrefl, Int32.le_refl]
  · obtain ⟨w, hw, e⟩ := yqd ha N
    have := l2 w hw
    rw [yqG_c (b := a) N 0 _ (fun j _ hj => e j (by omega))] at this
    exact this
  · rcases a2 with a2 | ⟨w, hw, e⟩
    · omega
    · exact ⟨_, fun j => Nat.mod_lt _ (by omega), e⟩
end PG
section PH
variable {L d : Nat} {hc hm : zH} {x1 x2 : Int32}
theorem o_pens (R : Rel hc hm) : zS2 (zev L (d + 20) 145 0 [some (.inr (.inl (11, 0, 0))), some (.inl x1), some (.inl x2)] [] hc) (zev L (d + 20) 273 0 [some (.inr (.inl (12, 0, 0))), some (.inl x1), some (.inl x2), none, none, none] [] hm) Rel := by
  have R' := R
  obtain ⟨P, H, ⟨rM, rp, rb, rl, rf, rh, rk, r0, r1, r2, r3, r4⟩, ra, rt, re, ri, rs⟩ := R
  obtain ⟨N, hN, e1, e2, hv⟩ := r3
  obtain ⟨W, hW⟩ : ∃ W : Nat → Nat, ∀ j, j < N → hm 12 0 61 j = nI (W j) ∧ hc 8 3 1 j = nI (W j) ∧ 1 ≤ W j ∧ W j ≤ 30 := ⟨fun j => (hc 8 3 1 j).toNatClampNeg, fun j hj => by
    obtain ⟨q1, a, q2, q3, q4⟩ := hv j hj
    have e : (hc 8 3 1 j).toNatClampNeg = a := by rw [q4, nI_clamp (by omega)]
    show hm 12 0 61 j = nI (hc 8 3 1 j).toNatClampNeg ∧ hc 8 3 1 j = nI (hc 8 3 1 j).toNatClampNeg ∧ 1 ≤ (hc 8 3 1 j).toNatClampNeg ∧ (hc 8 3 1 j).toNatClampNeg ≤ 30
    rw [e]
    exact ⟨q1.trans q4, q4, q2, q3⟩⟩
  rcases zarg1 x1 1 4 (by omega) (by omega) with ⟨k, hk1, hk, rfl⟩ | q
  · rcases zarg x2 1 (by omega) with ⟨b, hb, rfl⟩ | q2
    · obtain ⟨g1, i1, f1, z1⟩ := zinv (P := fun j (g : zH) => fun d => zev L d 51 16 [some (.inr (.inl (5, 0, 0))), some (.inr (.inl (8, 3, 0))), some (.inl (nI k)), some (.inl (nI j))] [] g) (R := fun j g => (∀ K, K ≠ 5 → g K = hc K) ∧ (∀ q, q < j → g 5 0 2 q = nI 0) ∧ g 5 0 0 2 = nI 1000 ∧ g 5 0 0 3 = nI 1000) (N := 4) (fun j g hj ⟨f, z, z2, z3⟩ => by
        refine ⟨zup g 5 0 2 j (nI 0), funext fun d => b51_16.trans ?_, fun K hK => by rw [zupK hK, f K hK], fun q hq => ?_, by rw [zupN (by omega)]; exact z2, by rw [zupN (by omega)]; exact z3⟩
        · simp (disch := first | omega | simp (disch := omega) only [nI_add, pk_mul, pk_sub, pk_div, znmod, nI_clamp, nIleT, nIleF, nIltT, nIltF, nIeqT, nIeqF, nIm1, nIm1q, zupE, zupN, vpT, nI_01, nI_11, ↓reduceIte, Option.bind_some, Option.toList_some, Option.toList_none, List.cons_append, List.nil_append, Nat.reduceAdd, Nat.reduceMul, Nat.reduceSub, Nat.reduceDiv, Nat.reduceMod, and_true, true_and, and_false, false_and, not_true_eq_false, not_false_eq_true, or_true, true_or, or_false, false_or, Int32.lt_irrefl, Int32.le_refl]) only [nI_add, pk_mul, pk_sub, pk_div, znmod, nI_clamp, nIleT, nIleF, nIltT, nIltF, nIeqT, nIeqF, nIm1, nIm1q, zupE, zupN, vpT, nI_01, nI_11, ↓reduceIte, Option.bind_some, Option.toList_some, Option.toList_none, List.cons_append, List.nil_append, Nat.reduceAdd, Nat.reduceMul, Nat.reduceSub, Nat.reduceDiv, Nat.reduceMod, and_true, true_and, and_false, false_and, not_true_eq_false, not_false_eq_true, or_true, true_or, or_false, false_or, Int32.lt_irrefl, Int32.le_refl, b51_21, b51_28]
        · by_cases c : q = j
          · subst c; rw [zupE (by omega)]
          · rw [zupN (by omega)]; exact z q (by omega)) 4 (Nat.le_refl 4) (zup (zup hc 5 0 0 2 (nI 1000)) 5 0 0 3 (nI 1000)) ⟨fun K hK => by rw [zupK hK, zupK hK], fun q hq => absurd hq (by omega), by rw [zupN (by omega), zupE (by omega)], by rw [zupE (by omega)]⟩
      obtain ⟨g2, bm, bd, k1, ⟨f2, _, k22, k23, kB⟩, k3, k4, k5⟩ := y52 (L := L) (h := hc) (W := W) hk1 hk hN e1 (fun j hj => (hW j hj).2) N 0 (by omega) (fun _ => 0) g1 1000 1000 ⟨f1, fun q hq => ⟨z1.1 q hq, Nat.zero_le _⟩, z1.2.1, z1.2.2, Or.inl ⟨rfl, rfl⟩⟩ (fun _ _ _ _ _ => rfl)
      obtain ⟨g3, B, m1, y3, hB, l3, a3⟩ := y273 (L := L) (W := W) (x2 := nI b) (g := zup hm 12 0 0 0 (nI 0)) hk1 hk hN (yM_u yM_r rfl) e2 (fun j hj => ⟨(hW j hj).1, (hW j hj).2.2.2⟩)
      have q0 := yqG_le (W := W) (k := k) (a := fun _ => 0) hN (fun j hj => (hW j hj).2.2.2) N 0 (fun _ => 0) (by omega) (fun q hq => by omega)
      have q1 := k4 (fun _ => 0) (fun _ => by omega)
      have eB : 1000 * bm + bd = B := by
        apply Nat.le_antisymm
        · obtain ⟨a, ha, e⟩ := a3
          rw [e]; exact k4 a ha
        · rcases k5 with ⟨k5, k6⟩ | ⟨a, ha, e⟩
          · omega
          · rw [e]; exact l3 a ha
      have bb : bm ≤ 300 ∧ bd ≤ 300 := by
        rcases kB with kB | kB
        · omega
        · exact kB
      have yc : yC hc g2 := fun K i s j h => by
        by_cases q : K = 5
        · subst q; cases h
        · rw [f2 K q]
      have c1 : zev L (d + 19) 51 0 [some (.inr (.inl (5, 0, 0))), some (.inr (.inl (8, 3, 0))), some (.inl (nI k)), none] [] hc = some (none, g2) := by
        rw [b51_0, b51_7, b51_14]
        refine Eq.trans (congrFun i1 (d + 19)) (b51_16.trans ?_)
        have k1' := k1 (d + 17 - N)
        rw [show d + 17 - N + N + 1 = d + 18 by omega] at k1'
        simp (disch := first | omega | simp (disch := omega) only [nI_add, pk_mul, pk_sub, pk_div, znmod, nI_clamp, nIleT, nIleF, nIltT, nIltF, nIeqT, nIeqF, nIm1, nIm1q, zupE, zupN, vpT, nI_01, nI_11, ↓reduceIte, Option.bind_some, Option.toList_some, Option.toList_none, List.cons_append, List.nil_append, Nat.reduceAdd, Nat.reduceMul, Nat.reduceSub, Nat.reduceDiv, Nat.reduceMod, and_true, true_and, and_false, false_and, not_true_eq_false, not_false_eq_true, or_true, true_or, or_false, false_or, Int32.lt_irrefl, Int32.le_refl, k1']) only [nI_add, pk_mul, pk_sub, pk_div, znmod, nI_clamp, nIleT, nIleF, nIltT, nIltF, nIeqT, nIeqF, nIm1, nIm1q, zupE, zupN, vpT, nI_01, nI_11, ↓reduceIte, Option.bind_some, Option.toList_some, Option.toList_none, List.cons_append, List.nil_append, Nat.reduceAdd, Nat.reduceMul, Nat.reduceSub, Nat.reduceDiv, Nat.reduceMod, and_true, true_and, and_false, false_and, not_true_eq_false, not_false_eq_true, or_true, true_or, or_false, false_or, Int32.lt_irrefl, Int32.le_refl, k1', b51_34, b51_41]
      have m1' := m1 (d + 18)
      have d1 : B / 1000 = bm := by omega
      have d2 : B % 1000 = bd := by omega
      have hb2 : b = 0 ∨ b = 1 := by omega
      rcases hb2 with rfl | rfl
      · refine ⟨nI bm, g2, g3, ?_, ?_, Rel_y R' yc y3⟩
        · simp (disch := first | omega | simp (disch := omega) only [nI_add, pk_mul, pk_sub, pk_div, znmod, nI_clamp, nIleT, nIleF, nIltT, nIltF, nIeqT, nIeqF, nIm1, nIm1q, zupE, zupN, vpT, nI_01, nI_11, ↓reduceIte, Option.bind_some, Option.toList_some, Option.toList_none, List.cons_append, List.nil_append, Nat.reduceAdd, Nat.reduceMul, Nat.reduceSub, Nat.reduceDiv, Nat.reduceMod, and_true, true_and, and_false, false_and, not_true_eq_false, not_false_eq_true, or_true, true_or, or_false, false_or, Int32.lt_irrefl, Int32.le_refl, kw, c1, k22]) only [nI_add, pk_mul, pk_sub, pk_div, znmod, nI_clamp, nIleT, nIleF, nIltT, nIltF, nIeqT, nIeqF, nIm1, nIm1q, zupE, zupN, vpT, nI_01, nI_11, ↓reduceIte, Option.bind_some, Option.toList_some, Option.toList_none, List.cons_append, List.nil_append, Nat.reduceAdd, Nat.reduceMul, Nat.reduceSub, Nat.reduceDiv, Nat.reduceMod, and_true, true_and, and_false, false_and, not_true_eq_false, not_false_eq_true, or_true, true_or, or_false, false_or, Int32.lt_irrefl, Int32.le_refl, kw, c1, k22, b145_0, b145_6, b145_9, b145_15, b145_18, b145_20, b145_35, b145_39, b145_49, b145_56]
        · simp (disch := first | omega | simp (disch := omega) only [nI_add, pk_mul, pk_sub, pk_div, znmod, nI_clamp, nIleT, nIleF, nIltT, nIltF, nIeqT, nIeqF, nIm1, nIm1q, zupE, zupN, vpT, nI_01, nI_11, ↓reduceIte, Option.bind_some, Option.toList_some, Option.toList_none, List.cons_append, List.nil_append, Nat.reduceAdd, Nat.reduceMul, Nat.reduceSub, Nat.reduceDiv, Nat.reduceMod, and_true, true_and, and_false, false_and, not_true_eq_false, not_false_eq_true, or_true, true_or, or_false, false_or, Int32.lt_irrefl, Int32.le_refl, mIn, m1']) only [nI_add, pk_mul, pk_sub, pk_div, znmod, nI_clamp, nIleT, nIleF, nIltT, nIltF, nIeqT, nIeqF, nIm1, nIm1q, zupE, zupN, vpT, nI_01, nI_11, ↓reduceIte, Option.bind_some, Option.toList_some, Option.toList_none, List.cons_append, List.nil_append, Nat.reduceAdd, Nat.reduceMul, Nat.reduceSub, Nat.reduceDiv, Nat.reduceMod, and_true, true_and, and_false, false_and, not_true_eq_false, not_false_eq_true, or_true, true_or, or_false, false_or, Int32.lt_irrefl, Int32.le_refl, mIn, m1', b273_0, b273_5, b273_12, b273_15, b273_22]
          simp (disch := first | omega | simp (disch := omega) only [nI_add, pk_mul, pk_sub, pk_div, znmod, nI_clamp, nIleT, nIleF, nIltT, nIltF, nIeqT, nIeqF, nIm1, nIm1q, zupE, zupN, vpT, nI_01, nI_11, ↓reduceIte, Option.bind_some, Option.toList_some, Option.toList_none, List.cons_append, List.nil_append, Nat.reduceAdd, Nat.reduceMul, Nat.reduceSub, Nat.reduceDiv, Nat.reduceMod, and_true, true_and, and_false, false_and, not_true_eq_false, not_false_eq_true, or_true, true_or, or_false, false_or, Int32.lt_irrefl, Int32.le_refl, d1]) only [nI_add, pk_mul, pk_sub, pk_div, znmod, nI_clamp, nIleT, nIleF, nIltT, nIltF, nIeqT, nIeqF, nIm1, nIm1q, zupE, zupN, vpT, nI_01, nI_11, ↓reduceIte, Option.bind_some, Option.toList_some, Option.toList_none, List.cons_append, List.nil_append, Nat.reduceAdd, Nat.reduceMul, Nat.reduceSub, Nat.reduceDiv, Nat.reduceMod, and_true, true_and, and_false, false_and, not_true_eq_false, not_false_eq_true, or_true, true_or, or_false, false_or, Int32.lt_irrefl, Int32.le_refl, d1, b273_86, b273_90, b273_105]
      · refine ⟨nI bd, g2, g3, ?_, ?_, Rel_y R' yc y3⟩
        · simp (disch := first | omega | simp (disch := omega) only [nI_add, pk_mul, pk_sub, pk_div, znmod, nI_clamp, nIleT, nIleF, nIltT, nIltF, nIeqT, nIeqF, nIm1, nIm1q, zupE, zupN, vpT, nI_01, nI_11, ↓reduceIte, Option.bind_some, Option.toList_some, Option.toList_none, List.cons_append, List.nil_append, Nat.reduceAdd, Nat.reduceMul, Nat.reduceSub, Nat.reduceDiv, Nat.reduceMod, and_true, true_and, and_false, false_and, not_true_eq_false, not_false_eq_true, or_true, true_or, or_false, false_or, Int32.lt_irrefl, Int32.le_refl, kw, c1, k23]) only [nI_add, pk_mul, pk_sub, pk_div, znmod, nI_clamp, nIleT, nIleF, nIltT, nIltF, nIeqT, nIeqF, nIm1, nIm1q, zupE, zupN, vpT, nI_01, nI_11, ↓reduceIte, Option.bind_some, Option.toList_some, Option.toList_none, List.cons_append, List.nil_append, Nat.reduceAdd, Nat.reduceMul, Nat.reduceSub, Nat.reduceDiv, Nat.reduceMod, and_true, true_and, and_false, false_and, not_true_eq_false, not_false_eq_true, or_true, true_or, or_false, false_or, Int32.lt_irrefl, Int32.le_refl, kw, c1, k23, b145_0, b145_6, b145_9, b145_15, b145_18, b145_20, b145_35, b145_39, b145_49, b145_56]
        · simp (disch := first | omega | simp (disch := omega) only [nI_add, pk_mul, pk_sub, pk_div, znmod, nI_clamp, nIleT, nIleF, nIltT, nIltF, nIeqT, nIeqF, nIm1, nIm1q, zupE, zupN, vpT, nI_01, nI_11, ↓reduceIte, Option.bind_some, Option.toList_some, Option.toList_none, List.cons_append, List.nil_append, Nat.reduceAdd, Nat.reduceMul, Nat.reduceSub, Nat.reduceDiv, Nat.reduceMod, and_true, true_and, and_false, false_and, not_true_eq_false, not_false_eq_true, or_true, true_or, or_false, false_or, Int32.lt_irrefl, Int32.le_refl, mIn, m1']) only [nI_add, pk_mul, pk_sub, pk_div, znmod, nI_clamp, nIleT, nIleF, nIltT, nIltF, nIeqT, nIeqF, nIm1, nIm1q, zupE, zupN, vpT, nI_01, nI_11, ↓reduceIte, Option.bind_some, Option.toList_some, Option.toList_none, List.cons_append, List.nil_append, Nat.reduceAdd, Nat.reduceMul, Nat.reduceSub, Nat.reduceDiv, Nat.reduceMod, and_true, true_and, and_false, false_and, not_true_eq_false, not_false_eq_true, or_true, true_or, or_false, false_or, Int32.lt_irrefl, Int32.le_refl, mIn, m1', b273_0, b273_5, b273_12, b273_15, b273_22]
          simp (disch := first | omega | simp (disch := omega) only [nI_add, pk_mul, pk_sub, pk_div, znmod, nI_clamp, nIleT, nIleF, nIltT, nIltF, nIeqT, nIeqF, nIm1, nIm1q, zupE, zupN, vpT, nI_01, nI_11, ↓reduceIte, Option.bind_some, Option.toList_some, Option.toList_none, List.cons_append, List.nil_append, Nat.reduceAdd, Nat.reduceMul, Nat.reduceSub, Nat.reduceDiv, Nat.reduceMod, and_true, true_and, and_false, false_and, not_true_eq_false, not_false_eq_true, or_true, true_or, or_false, false_or, Int32.lt_irrefl, Int32.le_refl, d2]) only [nI_add, pk_mul, pk_sub, pk_div, znmod, nI_clamp, nIleT, nIleF, nIltT, nIltF, nIeqT, nIeqF, nIm1, nIm1q, zupE, zupN, vpT, nI_01, nI_11, ↓reduceIte, Option.bind_some, Option.toList_some, Option.toList_none, List.cons_append, List.nil_append, Nat.reduceAdd, Nat.reduceMul, Nat.reduceSub, Nat.reduceDiv, Nat.reduceMod, and_true, true_and, and_false, false_and, not_true_eq_false, not_false_eq_true, or_true, true_or, or_false, false_or, Int32.lt_irrefl, Int32.le_refl, d2, b273_86, b273_99, b273_105]
    · simp (disch := first | omega | simp (disch := omega) only [nI_add, pk_mul, pk_sub, pk_div, znmod, nI_clamp, nIleT, nIleF, nIltT, nIltF, nIeqT, nIeqF, nIm1, nIm1q, zupE, zupN, vpT, nI_01, nI_11, ↓reduceIte, Option.bind_some, Option.toList_some, Option.toList_none, List.cons_append, List.nil_append, Nat.reduceAdd, Nat.reduceMul, Nat.reduceSub, Nat.reduceDiv, Nat.reduceMod, and_true, true_and, and_false, false_and, not_true_eq_false, not_false_eq_true, or_true, true_or, or_false, false_or, Int32.lt_irrefl, Int32.le_refl, kw, mIn, q2]) only [nI_add, pk_mul, pk_sub, pk_div, znmod, nI_clamp, nIleT, nIleF, nIltT, nIltF, nIeqT, nIeqF, nIm1, nIm1q, zupE, zupN, vpT, nI_01, nI_11, ↓reduceIte, Option.bind_some, Option.toList_some, Option.toList_none, List.cons_append, List.nil_append, Nat.reduceAdd, Nat.reduceMul, Nat.reduceSub, Nat.reduceDiv, Nat.reduceMod, and_true, true_and, and_false, false_and, not_true_eq_false, not_false_eq_true, or_true, true_or, or_false, false_or, Int32.lt_irrefl, Int32.le_refl, kw, mIn, q2, b145_0, b145_6, b145_9, b145_15, b145_18, b145_20, b145_35, b145_39, b145_49, b145_56, b273_0, b273_5, b273_12, b273_15, b273_22, b273_25]
      exact zS2_no R'
  · simp (disch := first | omega | simp (disch := omega) only [nI_add, pk_mul, pk_sub, pk_div, znmod, nI_clamp, nIleT, nIleF, nIltT, nIltF, nIeqT, nIeqF, nIm1, nIm1q, zupE, zupN, vpT, nI_01, nI_11, ↓reduceIte, Option.bind_some, Option.toList_some, Option.toList_none, List.cons_append, List.nil_append, Nat.reduceAdd, Nat.reduceMul, Nat.reduceSub, Nat.reduceDiv, Nat.reduceMod, and_true, true_and, and_false, false_and, not_true_eq_false, not_false_eq_true, or_true, true_or, or_false, false_or, Int32.lt_irrefl, Int32.le_refl, kw, mIn, q]) only [nI_add, pk_mul, pk_sub, pk_div, znmod, nI_clamp, nIleT, nIleF, nIltT, nIltF, nIeqT, nIeqF, nIm1, nIm1q, zupE, zupN, vpT, nI_01, nI_11, ↓reduceIte, Option.bind_some, Option.toList_some, Option.toList_none, List.cons_append, List.nil_append, Nat.reduceAdd, Nat.reduceMul, Nat.reduceSub, Nat.reduceDiv, Nat.reduceMod, and_true, true_and, and_false, false_and, not_true_eq_false, not_false_eq_true, or_true, true_or, or_false, false_or, Int32.lt_irrefl, Int32.le_refl, kw, mIn, q, b145_0, b145_6, b145_9, b145_15, b145_18, b145_20, b145_35, b145_39, b145_49, b145_56, b273_0, b273_5, b273_12, b273_15, b273_22, b273_25]
    exact zS2_no R'
end PH
