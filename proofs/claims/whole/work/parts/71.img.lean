/-! the image of the reference: its cells in their order -/
def ic (p : Nat) : Nat × Nat :=
  if p < 121 then (2, p) else if p < 131 then (0, [6, 7, 34, 36, 38, 48, 51, 57, 59, 62].getD (p - 121) 0) else
  if p < 151 then (if (p - 131) % 2 = 0 then (9, (p - 131) / 2) else (10, (p - 131) / 2)) else if p < 163 then (40, p - 151) else
  if p < 195 then (if (p - 163) % 2 = 0 then (50, (p - 163) / 2) else (51, (p - 163) / 2)) else if p < 204 then (53, p - 195) else
  if p < 209 then (59, p - 204) else if p < 216 then (61, p - 209) else if p < 222 then (64, p - 216) else if p < 302 then (36, p - 222) else
  if p < 382 then (38, p - 302) else if p < 982 then (11, p - 382) else if p < 983 then (19, 0) else
  if p < 1047 then (if (p - 983) % 4 = 0 then (20, (p - 983) / 4) else if (p - 983) % 4 = 1 then (21, (p - 983) / 4) else if (p - 983) % 4 = 2 then (22, (p - 983) / 4) else (23, (p - 983) / 4)) else
  if (p - 1047) % 2 = 0 then (24, (p - 1047) / 2) else (25, (p - 1047) / 2)
/-- which cells are the image's -/
def icf (s j : Nat) : Bool := if s = 0 then [6, 7, 34, 36, 38, 48, 51, 57, 59, 62].contains j else [2, 9, 10, 40, 50, 51, 53, 59, 61, 64, 36, 38, 11, 19, 20, 21, 22, 23, 24, 25].contains s
theorem ic_pf {q : Nat} (h : q < 1847) : ipos (ic q).1 (ic q).2 = q ∧ icf (ic q).1 (ic q).2 = true := by
  by_cases c1 : q < 121
  · have e : ic q = (2, q) := if_pos c1
    rw [e]
    exact ⟨rfl, rfl⟩
  by_cases c2 : q < 131
  · have e : ic q = (0, [6, 7, 34, 36, 38, 48, 51, 57, 59, 62].getD (q - 121) 0) := (if_neg c1).trans (if_pos c2)
    rw [e]
    have : q = 121 ∨ q = 122 ∨ q = 123 ∨ q = 124 ∨ q = 125 ∨ q = 126 ∨ q = 127 ∨ q = 128 ∨ q = 129 ∨ q = 130 := by omega
    rcases this with rfl | rfl | rfl | rfl | rfl | rfl | rfl | rfl | rfl | rfl <;> exact ⟨rfl, rfl⟩
  by_cases c3 : q < 151
  · by_cases m0 : (q - 131) % 2 = 0
    · have e : ic q = (9, (q - 131) / 2) := (if_neg c1).trans ((if_neg c2).trans ((if_pos c3).trans (if_pos m0)))
      rw [e]
      refine ⟨?_, rfl⟩
      show 131 + 2 * _ = q
      omega
    · have e : ic q = (10, (q - 131) / 2) := (if_neg c1).trans ((if_neg c2).trans ((if_pos c3).trans (if_neg m0)))
      rw [e]
      refine ⟨?_, rfl⟩
      show 132 + 2 * _ = q
      omega
  by_cases c4 : q < 163
  · have e : ic q = (40, q - 151) := (if_neg c1).trans ((if_neg c2).trans ((if_neg c3).trans (if_pos c4)))
    rw [e]
    refine ⟨?_, rfl⟩
    show 151 + _ = q
    omega
  by_cases c5 : q < 195
  · by_cases m0 : (q - 163) % 2 = 0
    · have e : ic q = (50, (q - 163) / 2) := (if_neg c1).trans ((if_neg c2).trans ((if_neg c3).trans ((if_neg c4).trans ((if_pos c5).trans (if_pos m0)))))
      rw [e]
      refine ⟨?_, rfl⟩
      show 163 + 2 * _ = q
      omega
    · have e : ic q = (51, (q - 163) / 2) := (if_neg c1).trans ((if_neg c2).trans ((if_neg c3).trans ((if_neg c4).trans ((if_pos c5).trans (if_neg m0)))))
      rw [e]
      refine ⟨?_, rfl⟩
      show 164 + 2 * _ = q
      omega
  by_cases c6 : q < 204
  · have e : ic q = (53, q - 195) := (if_neg c1).trans ((if_neg c2).trans ((if_neg c3).trans ((if_neg c4).trans ((if_neg c5).trans (if_pos c6)))))
    rw [e]
    refine ⟨?_, rfl⟩
    show 195 + _ = q
    omega
  by_cases c7 : q < 209
  · have e : ic q = (59, q - 204) := (if_neg c1).trans ((if_neg c2).trans ((if_neg c3).trans ((if_neg c4).trans ((if_neg c5).trans ((if_neg c6).trans (if_pos c7))))))
    rw [e]
    refine ⟨?_, rfl⟩
    show 204 + _ = q
    omega
  by_cases c8 : q < 216
  · have e : ic q = (61, q - 209) := (if_neg c1).trans ((if_neg c2).trans ((if_neg c3).trans ((if_neg c4).trans ((if_neg c5).trans ((if_neg c6).trans ((if_neg c7).trans (if_pos c8)))))))
    rw [e]
    refine ⟨?_, rfl⟩
    show 209 + _ = q
    omega
  by_cases c9 : q < 222
  · have e : ic q = (64, q - 216) := (if_neg c1).trans ((if_neg c2).trans ((if_neg c3).trans ((if_neg c4).trans ((if_neg c5).trans ((if_neg c6).trans ((if_neg c7).trans ((if_neg c8).trans (if_pos c9))))))))
    rw [e]
    refine ⟨?_, rfl⟩
    show 216 + _ = q
    omega
  by_cases c10 : q < 302
  · have e : ic q = (36, q - 222) := (if_neg c1).trans ((if_neg c2).trans ((if_neg c3).trans ((if_neg c4).trans ((if_neg c5).trans ((if_neg c6).trans ((if_neg c7).trans ((if_neg c8).trans ((if_neg c9).trans (if_pos c10)))))))))
    rw [e]
    refine ⟨?_, rfl⟩
    show 222 + _ = q
    omega
  by_cases c11 : q < 382
  · have e : ic q = (38, q - 302) := (if_neg c1).trans ((if_neg c2).trans ((if_neg c3).trans ((if_neg c4).trans ((if_neg c5).trans ((if_neg c6).trans ((if_neg c7).trans ((if_neg c8).trans ((if_neg c9).trans ((if_neg c10).trans (if_pos c11))))))))))
    rw [e]
    refine ⟨?_, rfl⟩
    show 302 + _ = q
    omega
  by_cases c12 : q < 982
  · have e : ic q = (11, q - 382) := (if_neg c1).trans ((if_neg c2).trans ((if_neg c3).trans ((if_neg c4).trans ((if_neg c5).trans ((if_neg c6).trans ((if_neg c7).trans ((if_neg c8).trans ((if_neg c9).trans ((if_neg c10).trans ((if_neg c11).trans (if_pos c12)))))))))))
    rw [e]
    refine ⟨?_, rfl⟩
    show 382 + _ = q
    omega
  by_cases c13 : q < 983
  · have e : ic q = (19, 0) := (if_neg c1).trans ((if_neg c2).trans ((if_neg c3).trans ((if_neg c4).trans ((if_neg c5).trans ((if_neg c6).trans ((if_neg c7).trans ((if_neg c8).trans ((if_neg c9).trans ((if_neg c10).trans ((if_neg c11).trans ((if_neg c12).trans (if_pos c13))))))))))))
    rw [e]
    refine ⟨?_, rfl⟩
    show 982 + 0 = q
    omega
  by_cases c14 : q < 1047
  · by_cases m0 : (q - 983) % 4 = 0
    · have e : ic q = (20, (q - 983) / 4) := (if_neg c1).trans ((if_neg c2).trans ((if_neg c3).trans ((if_neg c4).trans ((if_neg c5).trans ((if_neg c6).trans ((if_neg c7).trans ((if_neg c8).trans ((if_neg c9).trans ((if_neg c10).trans ((if_neg c11).trans ((if_neg c12).trans ((if_neg c13).trans ((if_pos c14).trans (if_pos m0))))))))))))))
      rw [e]
      refine ⟨?_, rfl⟩
      show 983 + 4 * _ = q
      omega
    by_cases m1 : (q - 983) % 4 = 1
    · have e : ic q = (21, (q - 983) / 4) := (if_neg c1).trans ((if_neg c2).trans ((if_neg c3).trans ((if_neg c4).trans ((if_neg c5).trans ((if_neg c6).trans ((if_neg c7).trans ((if_neg c8).trans ((if_neg c9).trans ((if_neg c10).trans ((if_neg c11).trans ((if_neg c12).trans ((if_neg c13).trans ((if_pos c14).trans ((if_neg m0).trans (if_pos m1)))))))))))))))
      rw [e]
      refine ⟨?_, rfl⟩
      show 984 + 4 * _ = q
      omega
    by_cases m2 : (q - 983) % 4 = 2
    · have e : ic q = (22, (q - 983) / 4) := (if_neg c1).trans ((if_neg c2).trans ((if_neg c3).trans ((if_neg c4).trans ((if_neg c5).trans ((if_neg c6).trans ((if_neg c7).trans ((if_neg c8).trans ((if_neg c9).trans ((if_neg c10).trans ((if_neg c11).trans ((if_neg c12).trans ((if_neg c13).trans ((if_pos c14).trans ((if_neg m0).trans ((if_neg m1).trans (if_pos m2))))))))))))))))
      rw [e]
      refine ⟨?_, rfl⟩
      show 985 + 4 * _ = q
      omega
    · have e : ic q = (23, (q - 983) / 4) := (if_neg c1).trans ((if_neg c2).trans ((if_neg c3).trans ((if_neg c4).trans ((if_neg c5).trans ((if_neg c6).trans ((if_neg c7).trans ((if_neg c8).trans ((if_neg c9).trans ((if_neg c10).trans ((if_neg c11).trans ((if_neg c12).trans ((if_neg c13).trans ((if_pos c14).trans ((if_neg m0).trans ((if_neg m1).trans (if_neg m2))))))))))))))))
      rw [e]
      refine ⟨?_, rfl⟩
      show 986 + 4 * _ = q
      omega
  by_cases m0 : (q - 1047) % 2 = 0
  · have e : ic q = (24, (q - 1047) / 2) := (if_neg c1).trans ((if_neg c2).trans ((if_neg c3).trans ((if_neg c4).trans ((if_neg c5).trans ((if_neg c6).trans ((if_neg c7).trans ((if_neg c8).trans ((if_neg c9).trans ((if_neg c10).trans ((if_neg c11).trans ((if_neg c12).trans ((if_neg c13).trans ((if_neg c14).trans (if_pos m0))))))))))))))
    rw [e]
    refine ⟨?_, rfl⟩
    show 1047 + 2 * _ = q
    omega
  · have e : ic q = (25, (q - 1047) / 2) := (if_neg c1).trans ((if_neg c2).trans ((if_neg c3).trans ((if_neg c4).trans ((if_neg c5).trans ((if_neg c6).trans ((if_neg c7).trans ((if_neg c8).trans ((if_neg c9).trans ((if_neg c10).trans ((if_neg c11).trans ((if_neg c12).trans ((if_neg c13).trans ((if_neg c14).trans (if_neg m0))))))))))))))
    rw [e]
    refine ⟨?_, rfl⟩
    show 1048 + 2 * _ = q
    omega
theorem ic_pos {q : Nat} (h : q < 1847) : ipos (ic q).1 (ic q).2 = q := (ic_pf h).1
theorem ic_f {q : Nat} (h : q < 1847) : icf (ic q).1 (ic q).2 = true := (ic_pf h).2
def IMs (hm : zH) (m p : Nat) (g : zH) : Prop := g 12 0 0 65 = nI m ∧ g 12 0 0 67 = nI p ∧
  (m = 1 → (∀ q, q < p → g 12 0 69 q = hm 12 0 (ic q).1 (ic q).2) ∧ ∀ s j, s ≠ 69 → ¬ (s = 0 ∧ (j = 65 ∨ j = 67)) → g 12 0 s j = hm 12 0 s j) ∧
  (m = 0 → (∀ q, q < p → g 12 0 (ic q).1 (ic q).2 = hm 12 0 69 q) ∧ ∀ s j, icf s j = false → ¬ (s = 0 ∧ (j = 65 ∨ j = 67)) → g 12 0 s j = hm 12 0 s j)
section IMG
variable {L : Nat} {hm g : zH} {m p : Nat}
theorem imStep {s j : Nat} (I : IMs hm m p g) (hp : p < 1847) (hm1 : m = 0 ∨ m = 1) (e : ic p = (s, j)) : ∃ y g1, (∀ d, zev L d 280 0 [some (.inr (.inl (12, 0, 0))), some (.inl (g 12 0 s j))] [] g = some (some (.inl y), g1)) ∧ IMs hm m (p + 1) (zup g1 12 0 s j y) := by
  obtain ⟨i1, i2, i3, i4⟩ := I
  have hf := ic_f hp
  rw [e] at hf
  have hf : icf s j = true := hf
  have n69 : s ≠ 69 := fun h => by subst h; cases hf
  have n0 : ¬ (s = 0 ∧ (j = 65 ∨ j = 67)) := fun h => by
    obtain ⟨rfl, rfl | rfl⟩ := h <;> cases hf
  have pj : ∀ q, q < 1847 → (ic q).1 = s → (ic q).2 = j → q = p := fun q hq h1 h2 => by
    have a := ic_pos hq
    have b := ic_pos hp
    rw [e] at b
    rw [h1, h2] at a
    exact a.symm.trans b
  rcases hm1 with rfl | rfl
  · obtain ⟨k1, k2⟩ := i4 rfl
    have e69 : g 12 0 69 p = hm 12 0 69 p := k2 69 p rfl (by omega)
    refine ⟨hm 12 0 69 p, zup g 12 0 0 67 (nI (p + 1)), fun d => ?_, ?_, ?_, fun h => (by cases h), fun _ => ⟨fun q hq => ?_, fun s' j' h1 h2 => ?_⟩⟩
    · simp (disch := first | omega | simp (disch := omega) only [nI_add, pk_mul, pk_sub, pk_div, znmod, nI_clamp, nIleT, nIleF, nIltT, nIltF, nIeqT, nIeqF, nIm1, nIm1q, zupE, zupN, vpT, nI_01, nI_11, ↓reduceIte, Option.bind_some, Option.toList_some, Option.toList_none, List.cons_append, List.nil_append, Nat.reduceAdd, Nat.reduceMul, Nat.reduceSub, Nat.reduceDiv, Nat.reduceMod, and_true, true_and, and_false, false_and, not_true_eq_false, not_false_eq_true, or_true, true_or, or_false, false_or, Int32.lt_irrefl, Int32.le_refl, i1, i2, e69, Nat.add_sub_cancel]) only [nI_add, pk_mul, pk_sub, pk_div, znmod, nI_clamp, nIleT, nIleF, nIltT, nIltF, nIeqT, nIeqF, nIm1, nIm1q, zupE, zupN, vpT, nI_01, nI_11, ↓reduceIte, Option.bind_some, Option.toList_some, Option.toList_none, List.cons_append, List.nil_append, Nat.reduceAdd, Nat.reduceMul, Nat.reduceSub, Nat.reduceDiv, Nat.reduceMod, and_true, true_and, and_false, false_and, not_true_eq_false, not_false_eq_true, or_true, true_or, or_false, false_or, Int32.lt_irrefl, Int32.le_refl, i1, i2, e69, Nat.add_sub_cancel, b280_0, b280_10, b280_17, b280_29, b280_41]
    · rw [zupN (by omega), zupN (by omega)]; exact i1
    · rw [zupN (by omega), zupE (by omega)]
    · by_cases c : q = p
      · subst c
        rw [e, zupE (by exact ⟨rfl, rfl, rfl, rfl⟩)]
      · have c2 : ¬ ((ic q).1 = s ∧ (ic q).2 = j) := fun h => c (pj q (by omega) h.1 h.2)
        have hfq := ic_f (q := q) (by omega)
        have n0q : ¬ ((ic q).1 = 0 ∧ (ic q).2 = 67) := fun h => by
          rw [h.1, h.2] at hfq; cases hfq
        rw [zupN (by omega), zupN (by omega)]
        exact k1 q (by omega)
    · have : ¬ (s' = s ∧ j' = j) := fun h => by
        rw [h.1, h.2, hf] at h1; cases h1
      rw [zupN (by omega), zupN (by omega)]
      exact k2 s' j' h1 h2
  · obtain ⟨k1, k2⟩ := i3 rfl
    have ev : g 12 0 s j = hm 12 0 s j := k2 s j n69 n0
    refine ⟨hm 12 0 s j, zup (zup g 12 0 0 67 (nI (p + 1))) 12 0 69 p (hm 12 0 s j), fun d => ?_, ?_, ?_, fun _ => ⟨fun q hq => ?_, fun s' j' h1 h2 => ?_⟩, fun h => (by cases h)⟩
    · rw [ev]
      simp (disch := first | omega | simp (disch := omega) only [nI_add, pk_mul, pk_sub, pk_div, znmod, nI_clamp, nIleT, nIleF, nIltT, nIltF, nIeqT, nIeqF, nIm1, nIm1q, zupE, zupN, vpT, nI_01, nI_11, ↓reduceIte, Option.bind_some, Option.toList_some, Option.toList_none, List.cons_append, List.nil_append, Nat.reduceAdd, Nat.reduceMul, Nat.reduceSub, Nat.reduceDiv, Nat.reduceMod, and_true, true_and, and_false, false_and, not_true_eq_false, not_false_eq_true, or_true, true_or, or_false, false_or, Int32.lt_irrefl, Int32.le_refl, i1, i2, Nat.add_sub_cancel]) only [nI_add, pk_mul, pk_sub, pk_div, znmod, nI_clamp, nIleT, nIleF, nIltT, nIltF, nIeqT, nIeqF, nIm1, nIm1q, zupE, zupN, vpT, nI_01, nI_11, ↓reduceIte, Option.bind_some, Option.toList_some, Option.toList_none, List.cons_append, List.nil_append, Nat.reduceAdd, Nat.reduceMul, Nat.reduceSub, Nat.reduceDiv, Nat.reduceMod, and_true, true_and, and_false, false_and, not_true_eq_false, not_false_eq_true, or_true, true_or, or_false, false_or, Int32.lt_irrefl, Int32.le_refl, i1, i2, Nat.add_sub_cancel, b280_0, b280_10, b280_17, b280_29, b280_41]
    · rw [zupN (by omega), zupN (by omega), zupN (by omega)]; exact i1
    · rw [zupN (by omega), zupN (by omega), zupE (by omega)]
    · rw [zupN (by omega)]
      by_cases c : q = p
      · subst c
        rw [e, zupE (by omega)]
      · rw [zupN (by omega), zupN (by omega)]
        exact k1 q (by omega)
    · by_cases c : s' = s ∧ j' = j
      · rw [zupE (by omega), c.1, c.2]
      · rw [zupN (by omega), zupN (by omega), zupN (by omega)]
        exact k2 s' j' h1 h2
end IMG
