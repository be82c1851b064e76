/-! asking THE LAW: both sides -/
theorem yA1_c {i : Nat} {h g : zH} (h1 : yA1 h g) : yTc i h g := fun k i' s j e => by
  by_cases hk : k = 1
  · subst hk
    unfold ytc at e
    rw [show ycc 1 i' s j = true from rfl] at e
    cases e
  · exact h1 k i' s j hk
theorem yA2_m {h g : zH} (h1 : yA2 h g) : yTm h g := fun s j e => by
  by_cases h4 : s = 41
  · subst h4; exact absurd e (by unfold ytm ysc; rw [if_neg (by decide)]; decide)
  · by_cases h5 : s = 42
    · subst h5; exact absurd e (by unfold ytm ysc; rw [if_neg (by decide)]; decide)
    · exact h1 s j h4 h5
section AL
variable {L dc dm : Nat} {hc hm : zH} {i P H a b p q t w : Nat}
theorem yAsk (rM : RMk (hc 3 i) (hm 12 0 2) (hm 12 0 9) (hm 12 0 10) P H) (tc : TC i P H hc hm) (mt : MT a b H hc hm) (hp : p < P) (hq : q < P) (ht : t < 5) (hw : w ≤ 2) (hwt : w ≠ 0 → t = 0) :
    ∃ n hc' hm', n ≤ yCap w ∧ zev L (dc + 3) 89 0 [some (.inr (.inl (9, 0, 0))), some (.inl (nI w)), some (.inl (nI p)), some (.inl (nI q)), some (.inl (nI t)), none, none, none] [] hc = some (some (.inl (nI n)), hc') ∧
      (w = 0 → zev L (dm + 4) 219 0 [some (.inr (.inl (12, 0, 0))), some (.inl (nI p)), some (.inl (nI q)), some (.inl (nI t))] [] hm = some (some (.inl (nI n)), hm')) ∧ (w = 1 → zev L (dm + 4) 220 0 [some (.inr (.inl (12, 0, 0))), some (.inl (nI p)), some (.inl (nI q))] [] hm = some (some (.inl (nI n)), hm')) ∧ (w = 2 → zev L (dm + 4) 221 0 [some (.inr (.inl (12, 0, 0))), some (.inl (nI p)), some (.inl (nI q))] [] hm = some (some (.inl (nI n)), hm')) ∧ yA1 hc hc' ∧ yA2 hm hm' := by
  obtain ⟨o, ho⟩ : ∃ o, o = 1 ∧ w ≠ 2 ∨ o = 0 ∧ w = 2 := by
    by_cases h : w = 2
    · exact ⟨0, Or.inr ⟨rfl, h⟩⟩
    · exact ⟨1, Or.inl ⟨rfl, h⟩⟩
  obtain ⟨hc1, x7, k1, k2, v0, v1, v2, v3, v4, v5, v6, v7, v8, v9, v10⟩ := kGive (L := L) rM tc mt hp hq ht ho hw
  obtain ⟨hm1, l1, l2, u0, u1, u2, u3, u4, u5, u6, u7, u8, u9, u10⟩ := mLooks (L := L) rM tc mt hp hq ht ho
  have rl : RLw (hc1 2 0) (hm1 12 0 19 0) (hm1 12 0 20) (hm1 12 0 21) (hm1 12 0 22) (hm1 12 0 23) (hm1 12 0 24) (hm1 12 0 25) := by
    have z0 : hc1 2 0 = hc 2 0 := funext fun s => funext fun j => k2 2 0 s j (by omega)
    have z1 : ∀ s, s ≠ 41 → s ≠ 42 → hm1 12 0 s = hm 12 0 s := fun s h1 h2 => funext fun j => l2 s j h1 h2
    rw [z0, z1 19 (by omega) (by omega), z1 20 (by omega) (by omega), z1 21 (by omega) (by omega), z1 22 (by omega) (by omega), z1 23 (by omega) (by omega), z1 24 (by omega) (by omega), z1 25 (by omega) (by omega)]
    exact tc.2.2.2.2.2.1
  have hg : ∀ k, k < 11 → hc1 1 0 2 k = hm1 12 0 41 k := by
    intro k hk
    have : k = 0 ∨ k = 1 ∨ k = 2 ∨ k = 3 ∨ k = 4 ∨ k = 5 ∨ k = 6 ∨ k = 7 ∨ k = 8 ∨ k = 9 ∨ k = 10 := by omega
    rcases this with rfl | rfl | rfl | rfl | rfl | rfl | rfl | rfl | rfl | rfl | rfl
    · rw [v0, u0]
    · rw [v1, u1]
    · rw [v2, u2]
    · rw [v3, u3]
    · rw [v4, u4]
    · rw [v5, u5]
    · rw [v6, u6]
    · rw [v7, u7]
    · rw [v8, u8]
    · rw [v9, u9]
    · rw [v10, u10]
  obtain ⟨n, hc', hm', hn, q1, q2, q3, q4⟩ := yTells (L := L) (dc := dc) (dm := dm) hw rl hg
  have b42 : hm1 12 0 0 42 = hm 12 0 0 42 := l2 0 42 (by omega) (by omega)
  have hy1 : yA1 hc hc' := fun k i' s j hk => (q3 k i' s j (by omega)).trans (k2 k i' s j hk)
  have hy2 : yA2 hm hm' := fun s j h1 h2 => (q4 12 0 s j (by omega)).trans (l2 s j h1 h2)
  refine ⟨n, hc', hm', hn, ?_, fun hw0 => ?_, fun hw1 => ?_, fun hw2 => ?_, hy1, hy2⟩
  · rw [k1 dc, q1]
    exact b89_218
  · subst hw0
    have ho1 : o = 1 := by omega
    subst ho1
    have hu : yUs (hm1 12 0 41) 0 = nI 20 * hm 12 0 0 42 := by show nI 20 * hm1 12 0 41 3 = _; rw [u3]
    have hcp : yCap 0 = 1000 := rfl
    rw [hu, hcp] at q2
    simp (disch := first | omega | simp (disch := omega) only [nI_add, pk_mul, pk_sub, pk_div, znmod, nI_clamp, nIleT, nIleF, nIltT, nIltF, nIeqT, nIeqF, nIm1, nIm1q, zupE, zupN, vpT, nI_01, nI_11, ↓reduceIte, Option.bind_some, Option.toList_some, Option.toList_none, List.cons_append, List.nil_append, Nat.reduceAdd, Nat.reduceMul, Nat.reduceSub, Nat.reduceDiv, Nat.reduceMod, and_true, true_and, and_false, false_and, not_true_eq_false, not_false_eq_true, or_true, true_or, or_false, false_or, Int32.lt_irrefl, Int32.le_refl, l1, b42, q2]) only [nI_add, pk_mul, pk_sub, pk_div, znmod, nI_clamp, nIleT, nIleF, nIltT, nIltF, nIeqT, nIeqF, nIm1, nIm1q, zupE, zupN, vpT, nI_01, nI_11, ↓reduceIte, Option.bind_some, Option.toList_some, Option.toList_none, List.cons_append, List.nil_append, Nat.reduceAdd, Nat.reduceMul, Nat.reduceSub, Nat.reduceDiv, Nat.reduceMod, and_true, true_and, and_false, false_and, not_true_eq_false, not_false_eq_true, or_true, true_or, or_false, false_or, Int32.lt_irrefl, Int32.le_refl, l1, b42, q2, b219_0, b219_8, b219_23]
  · subst hw1
    have ho1 : o = 1 := by omega
    subst ho1
    have ht0 := hwt (by omega)
    subst ht0
    have e89 : hm1 12 0 2 (89 + p) = hm1 12 0 41 7 := by
      rw [u7, l2 2 (89 + p) (by omega) (by omega)]
      exact (rM.2.2.2.2.2.2.1 p (by have := rM.1.2.2.1; omega)).1
    have hu : yUs (hm1 12 0 41) 1 = nI 100 - nI 10 * hm1 12 0 41 7 := rfl
    have hcp : yCap 1 = 1000 := rfl
    have hP := rM.1.2.2.1
    rw [hu, hcp] at q2
    simp (disch := first | omega | simp (disch := omega) only [nI_add, pk_mul, pk_sub, pk_div, znmod, nI_clamp, nIleT, nIleF, nIltT, nIltF, nIeqT, nIeqF, nIm1, nIm1q, zupE, zupN, vpT, nI_01, nI_11, ↓reduceIte, Option.bind_some, Option.toList_some, Option.toList_none, List.cons_append, List.nil_append, Nat.reduceAdd, Nat.reduceMul, Nat.reduceSub, Nat.reduceDiv, Nat.reduceMod, and_true, true_and, and_false, false_and, not_true_eq_false, not_false_eq_true, or_true, true_or, or_false, false_or, Int32.lt_irrefl, Int32.le_refl, l1, e89, q2]) only [nI_add, pk_mul, pk_sub, pk_div, znmod, nI_clamp, nIleT, nIleF, nIltT, nIltF, nIeqT, nIeqF, nIm1, nIm1q, zupE, zupN, vpT, nI_01, nI_11, ↓reduceIte, Option.bind_some, Option.toList_some, Option.toList_none, List.cons_append, List.nil_append, Nat.reduceAdd, Nat.reduceMul, Nat.reduceSub, Nat.reduceDiv, Nat.reduceMod, and_true, true_and, and_false, false_and, not_true_eq_false, not_false_eq_true, or_true, true_or, or_false, false_or, Int32.lt_irrefl, Int32.le_refl, l1, e89, q2, b220_0, b220_8, b220_31]
  · subst hw2
    have ho1 : o = 0 := by omega
    subst ho1
    have ht0 := hwt (by omega)
    subst ht0
    have hu : yUs (hm1 12 0 41) 2 = hm1 12 0 41 5 - nI 10 * hm 12 0 0 42 := by show hm1 12 0 41 5 - nI 10 * hm1 12 0 41 3 = _; rw [u3]
    have hcp : yCap 2 = 9999 := rfl
    rw [hu, hcp] at q2
    simp (disch := first | omega | simp (disch := omega) only [nI_add, pk_mul, pk_sub, pk_div, znmod, nI_clamp, nIleT, nIleF, nIltT, nIltF, nIeqT, nIeqF, nIm1, nIm1q, zupE, zupN, vpT, nI_01, nI_11, ↓reduceIte, Option.bind_some, Option.toList_some, Option.toList_none, List.cons_append, List.nil_append, Nat.reduceAdd, Nat.reduceMul, Nat.reduceSub, Nat.reduceDiv, Nat.reduceMod, and_true, true_and, and_false, false_and, not_true_eq_false, not_false_eq_true, or_true, true_or, or_false, false_or, Int32.lt_irrefl, Int32.le_refl, l1, b42, q2]) only [nI_add, pk_mul, pk_sub, pk_div, znmod, nI_clamp, nIleT, nIleF, nIltT, nIltF, nIeqT, nIeqF, nIm1, nIm1q, zupE, zupN, vpT, nI_01, nI_11, ↓reduceIte, Option.bind_some, Option.toList_some, Option.toList_none, List.cons_append, List.nil_append, Nat.reduceAdd, Nat.reduceMul, Nat.reduceSub, Nat.reduceDiv, Nat.reduceMod, and_true, true_and, and_false, false_and, not_true_eq_false, not_false_eq_true, or_true, true_or, or_false, false_or, Int32.lt_irrefl, Int32.le_refl, l1, b42, q2, b221_0, b221_8, b221_30]
end AL
/-- the relation of a trade out of the whole one, and back -/
theorem TC_of {hc hm : zH} {P H : Nat} (h : RWv (hc 3 0) (hc 10 0 2) (hc 2 0) (hc 2 1) (hc 2 2) (hc 2 3) (hc 8 0) (hc 8 1) (hc 8 2) (hc 8 3) (hc 8 4) (hm 12 0) P H) (rs : RSt (hc 0 0 2 0) (hc 8) (hc 9 0 0 4) (hc 9 0 0 5) (hm 12 0 0 5) (hc 14 0 0) (hc 15 0 0) (hc 15 0 1) (hm 12 0 18)) : TC 0 P H hc hm := by
  obtain ⟨rM, rp, rb, rl, rf, rh, rk, _⟩ := h
  obtain ⟨⟨a, b, c, _⟩, _⟩ := rs
  exact ⟨Or.inl rfl, a, b.trans c.symm, Or.inl c, rp, rl, rf, rh, rk⟩
section AM
variable {L d : Nat} {hc hm : zH} {x1 x2 x3 x4 : Int32}
theorem Rel_ask {hc' hm' : zH} (R : Rel hc hm) (h1 : yC hc hc') (h2 : yM hm hm') : Rel hc' hm' := Rel_y R h1 h2
theorem yA1_C {h g : zH} (h1 : yA1 h g) : yC h g := fun k i s j e => by
  by_cases hk : k = 1
  · subst hk; cases e
  · exact h1 k i s j hk
theorem yA2_M {h g : zH} (h1 : yA2 h g) : yM h g := fun s j e => by
  by_cases h4 : s = 41
  · subst h4; exact absurd e (by unfold ysc; rw [if_neg (by decide)]; decide)
  · by_cases h5 : s = 42
    · subst h5; exact absurd e (by unfold ysc; rw [if_neg (by decide)]; decide)
    · exact h1 s j h4 h5
end AM
