/-! what of the cells is scratch; operation ring -/
def yst (s : Nat) : Bool := [2, 3, 5, 9, 10, 11, 12, 18, 19, 20, 21, 22, 23, 24, 25, 36, 38, 40, 50, 51, 53, 59, 61, 64, 69].contains s
def ysf (j : Nat) : Bool := [3, 5, 6, 7, 12, 32, 33, 34, 36, 38, 48, 51, 57, 59, 62, 66].contains j
def ysc (s j : Nat) : Bool := if s = 0 then !ysf j else !yst s
/-- the reference's heap but for scratch -/
def yM (hm g : zH) : Prop := ∀ s j, ysc s j = false → g 12 0 s j = hm 12 0 s j
theorem yM_r {hm : zH} : yM hm hm := fun _ _ _ => rfl
theorem yM_t {a b c : zH} (h1 : yM a b) (h2 : yM b c) : yM a c := fun s j h => (h2 s j h).trans (h1 s j h)
theorem yM_u {hm g : zH} {s j : Nat} {v : Int32} (h : yM hm g) (e : ysc s j = true) : yM hm (zup g 12 0 s j v) := fun s' j' h' => by
  by_cases c : s' = s ∧ j' = j
  · obtain ⟨rfl, rfl⟩ := c
    rw [e] at h'
    cases h'
  · rw [zupN (by omega)]
    exact h s' j' h'
theorem yM_s {hm g : zH} (h : yM hm g) (s : Nat) (hs : s ≠ 0) (e : yst s = true) : g 12 0 s = hm 12 0 s := funext fun j => h s j (by unfold ysc; rw [if_neg hs, e]; rfl)
theorem yM_f {hm g : zH} (h : yM hm g) (j : Nat) (e : ysf j = true) : g 12 0 0 j = hm 12 0 0 j := h 0 j (by unfold ysc; rw [if_pos rfl, e]; rfl)
theorem Rel_yM {hc hm g : zH} (R : Rel hc hm) (h : yM hm g) : Rel hc g := by
  obtain ⟨P, H, ⟨rM, rp, rb, rl, rf, rh, rk, r0, r1, r2, r3, r4⟩, ra, rt, re, ri, rs⟩ := R
  refine Rel_mk P H ?_ ?_ ?_ ?_ ?_ ?_ ?_ ?_ ?_ ?_ ?_ ?_ ?_ ?_ ?_ ?_ ?_
  · rw [yM_s h 2 (by decide) (by decide), yM_s h 9 (by decide) (by decide), yM_s h 10 (by decide) (by decide)]; exact rM
  · rw [yM_f h 6 (by decide), yM_f h 7 (by decide)]; exact rp
  · rw [yM_s h 11 (by decide) (by decide)]; exact rb
  · rw [yM_s h 19 (by decide) (by decide), yM_s h 20 (by decide) (by decide), yM_s h 21 (by decide) (by decide), yM_s h 22 (by decide) (by decide), yM_s h 23 (by decide) (by decide), yM_s h 24 (by decide) (by decide), yM_s h 25 (by decide) (by decide)]; exact rl
  · rw [yM_s h 36 (by decide) (by decide), yM_f h 34 (by decide)]; exact rf
  · rw [yM_s h 38 (by decide) (by decide), yM_f h 36 (by decide)]; exact rh
  · rw [yM_s h 40 (by decide) (by decide), yM_f h 38 (by decide)]; exact rk
  · rw [yM_s h 50 (by decide) (by decide), yM_s h 51 (by decide) (by decide), yM_f h 48 (by decide)]; exact r0
  · rw [yM_s h 53 (by decide) (by decide), yM_f h 51 (by decide)]; exact r1
  · rw [yM_s h 59 (by decide) (by decide), yM_f h 57 (by decide)]; exact r2
  · rw [yM_s h 61 (by decide) (by decide), yM_f h 59 (by decide)]; exact r3
  · rw [yM_s h 64 (by decide) (by decide), yM_f h 62 (by decide)]; exact r4
  · rw [yM_s h 3 (by decide) (by decide), yM_s h 9 (by decide) (by decide), yM_s h 10 (by decide) (by decide), yM_f h 3 (by decide)]; exact ra
  · rw [yM_s h 12 (by decide) (by decide), yM_f h 12 (by decide)]; exact rt
  · rw [yM_f h 32 (by decide), yM_f h 33 (by decide)]; exact re
  · rw [yM_s h 69 (by decide) (by decide), yM_f h 66 (by decide)]; exact ri
  · rw [yM_s h 18 (by decide) (by decide), yM_f h 5 (by decide)]; exact rs
/-- scratch of the class -/
def ycc (k i s j : Nat) : Bool := match k with
  | 0 => !(Nat.beq s 2 && Nat.beq j 0)
  | 1 => true
  | 2 => Nat.beq i 8
  | 3 => Nat.beq i 2
  | 5 => true
  | 6 => Nat.beq s 0 && !(Nat.beq j 4) && !(Nat.beq j 5)
  | 7 => Nat.beq s 2 || Nat.beq s 3
  | 9 => !(Nat.beq s 0 && (Nat.beq j 4 || Nat.beq j 5))
  | _ => false
def yC (hc g : zH) : Prop := ∀ k i s j, ycc k i s j = false → g k i s j = hc k i s j
theorem yC_r {hc : zH} : yC hc hc := fun _ _ _ _ _ => rfl
theorem yC_t {a b c : zH} (h1 : yC a b) (h2 : yC b c) : yC a c := fun k i s j h => (h2 k i s j h).trans (h1 k i s j h)
theorem yC_u {hc g : zH} {k i s j : Nat} {v : Int32} (h : yC hc g) (e : ycc k i s j = true) : yC hc (zup g k i s j v) := fun k' i' s' j' h' => by
  by_cases c : k' = k ∧ i' = i ∧ s' = s ∧ j' = j
  · obtain ⟨rfl, rfl, rfl, rfl⟩ := c
    rw [e] at h'
    cases h'
  · rw [zupN c]
    exact h k' i' s' j' h'
theorem RPa_c {k3 k3' : Nat → Nat → Nat → Int32} {p rows w s : Nat → Int32} {c : Int32} {P H : Nat} (h : ∀ i, 3 ≤ i → i < 9 → k3' i = k3 i) (R : RPa k3 p c rows w s P H) : RPa k3' p c rows w s P H := by
  obtain ⟨n, C, hn, hC, e1, e2, e3, hk⟩ := R
  refine ⟨n, C, hn, hC, e1, e2, e3, fun k hk' => ?_⟩
  rw [h _ (by omega) (by omega)]
  exact hk k hk'
theorem Rel_yC {hc hm g : zH} (R : Rel hc hm) (h : yC hc g) : Rel g hm := by
  obtain ⟨P, H, ⟨rM, rp, rb, rl, rf, rh, rk, r0, r1, r2, r3, r4⟩, ra, rt, re, ri, rs⟩ := R
  have f1 : ∀ k i, (∀ s j, ycc k i s j = false) → g k i = hc k i := fun k i q => funext fun s => funext fun j => h k i s j (q s j)
  have f2 : ∀ k i s, (∀ j, ycc k i s j = false) → g k i s = hc k i s := fun k i s q => funext fun j => h k i s j (q j)
  refine Rel_mk P H ?_ ?_ ?_ ?_ ?_ ?_ ?_ ?_ ?_ ?_ ?_ ?_ ?_ ?_ ?_ ?_ ?_
  · rw [f1 3 0 (fun _ _ => rfl)]; exact rM
  · exact rp
  · rw [f1 10 0 (fun _ _ => rfl)]; exact rb
  · rw [f1 2 0 (fun _ _ => rfl)]; exact rl
  · rw [f1 2 1 (fun _ _ => rfl)]; exact rf
  · rw [f1 2 2 (fun _ _ => rfl)]; exact rh
  · rw [f1 2 3 (fun _ _ => rfl)]; exact rk
  · rw [f1 8 0 (fun _ _ => rfl)]; exact r0
  · rw [f1 8 1 (fun _ _ => rfl)]; exact r1
  · rw [f1 8 2 (fun _ _ => rfl)]; exact r2
  · rw [f1 8 3 (fun _ _ => rfl)]; exact r3
  · rw [f1 8 4 (fun _ _ => rfl)]; exact r4
  · rw [f1 4 0 (fun _ _ => rfl)]
    refine RPa_c (fun i h1 h2 => f1 3 i (fun _ _ => ?_)) ra
    have : i = 3 ∨ i = 4 ∨ i = 5 ∨ i = 6 ∨ i = 7 ∨ i = 8 := by omega
    rcases this with rfl | rfl | rfl | rfl | rfl | rfl <;> rfl
  · rw [f2 7 0 1 (fun _ => rfl), h 7 0 0 3 rfl]; exact rt
  · rw [h 6 0 0 4 rfl, h 6 0 0 5 rfl]; exact re
  · rw [f1 3 1 (fun _ _ => rfl), f1 10 1 (fun _ _ => rfl), f1 2 4 (fun _ _ => rfl), f1 2 5 (fun _ _ => rfl), f1 2 6 (fun _ _ => rfl), f1 2 7 (fun _ _ => rfl), f1 8 5 (fun _ _ => rfl), f1 8 6 (fun _ _ => rfl), f1 8 7 (fun _ _ => rfl), f1 8 8 (fun _ _ => rfl), f1 8 9 (fun _ _ => rfl), h 11 0 0 9 rfl]; exact ri
  · have e8 : g 8 = hc 8 := funext fun i => f1 8 i (fun _ _ => rfl)
    rw [e8, h 0 0 2 0 rfl, h 9 0 0 4 rfl, h 9 0 0 5 rfl, f1 14 0 (fun _ _ => rfl), f1 15 0 (fun _ _ => rfl)]; exact rs
theorem Rel_y {hc hm gc gm : zH} (R : Rel hc hm) (h1 : yC hc gc) (h2 : yM hm gm) : Rel gc gm := Rel_yM (Rel_yC R h1) h2
/-! ring -/
def ycat (n : Nat) : Nat := [1, 1, 2, 5, 14, 42, 132, 429, 1430, 4862, 16796, 58786, 208012].getD n 0
theorem yrg : ∀ i, i < 12 → (lN (ycat i) * lN 2 * (nI (2 * i + 1)).toInt64) / (nI (i + 2)).toInt64 = lN (ycat (i + 1)) := by decide +kernel
theorem yrg0 : ∀ i, i < 12 → ((nI (i + 2)).toInt64 = 0) = False := by decide +kernel
theorem yrgE : ∀ i, i < 13 → (lN (ycat i) - lN (ycat i) / lN 1000000007 * lN 1000000007).toInt32 = nI (ycat i) := by decide +kernel
/-- how far the sum has come -/
def yps (k : Nat) : Nat → Nat
  | 0 => if k = 0 then 1 else 0
  | i + 1 => yps k i + ycat i * ycat (k - 1 - i)
theorem yps_ok : ∀ k, k < 13 → yps k k = ycat k := by decide +kernel
theorem yps_lt : ∀ k, k < 13 → ∀ i, i < 13 → i ≤ k → yps k i < 1000000 := by decide +kernel
theorem ycat_lt : ∀ k, k < 13 → ycat k < 1000000 := by decide +kernel
theorem ycm_lt : ∀ k, k < 13 → ∀ i, i < 13 → i < k → ycat i * ycat (k - 1 - i) < 1000000 := by decide +kernel
section RG
variable {L d : Nat} {hc hm h : zH} {x1 x2 x3 x4 x5 x : Int32}
theorem mAdded {a b : Nat} (ha : a < 1000000007) (hb : b < 1000000007) : zev L d 160 0 [some (.inr (.inl (12, 0, 0))), some (.inl (nI a)), some (.inl (nI b))] [] h = some (some (.inl (nI ((a + b) % 1000000007))), h) := by
  by_cases c : a < 1000000007 - b
  · have e : (a + b) % 1000000007 = a + b := Nat.mod_eq_of_lt (by omega)
    simp (disch := first | omega | simp (disch := omega) only [nI_add, pk_mul, pk_sub, pk_div, znmod, nI_clamp, nIleT, nIleF, nIltT, nIltF, nIeqT, nIeqF, nIm1, nIm1q, zupE, zupN, vpT, nI_01, nI_11, ↓reduceIte, Option.bind_some, Option.toList_some, Option.toList_none, List.cons_append, List.nil_append, Nat.reduceAdd, Nat.reduceMul, Nat.reduceSub, Nat.reduceDiv, Nat.reduceMod, and_true, true_and, and_false, false_and, not_true_eq_false, not_false_eq_true, or_true, true_or, or_false, false_or, Int32.lt_irrefl, Int32.le_refl, e]) only [nI_add, pk_mul, pk_sub, pk_div, znmod, nI_clamp, nIleT, nIleF, nIltT, nIltF, nIeqT, nIeqF, nIm1, nIm1q, zupE, zupN, vpT, nI_01, nI_11, ↓reduceIte, Option.bind_some, Option.toList_some, Option.toList_none, List.cons_append, List.nil_append, Nat.reduceAdd, Nat.reduceMul, Nat.reduceSub, Nat.reduceDiv, Nat.reduceMod, and_true, true_and, and_false, false_and, not_true_eq_false, not_false_eq_true, or_true, true_or, or_false, false_or, Int32.lt_irrefl, Int32.le_refl, e, b160_0, b160_8, b160_17, b160_20]
  · have e : (a + b) % 1000000007 = a - (1000000007 - b) := by omega
    simp (disch := first | omega | simp (disch := omega) only [nI_add, pk_mul, pk_sub, pk_div, znmod, nI_clamp, nIleT, nIleF, nIltT, nIltF, nIeqT, nIeqF, nIm1, nIm1q, zupE, zupN, vpT, nI_01, nI_11, ↓reduceIte, Option.bind_some, Option.toList_some, Option.toList_none, List.cons_append, List.nil_append, Nat.reduceAdd, Nat.reduceMul, Nat.reduceSub, Nat.reduceDiv, Nat.reduceMod, and_true, true_and, and_false, false_and, not_true_eq_false, not_false_eq_true, or_true, true_or, or_false, false_or, Int32.lt_irrefl, Int32.le_refl, e]) only [nI_add, pk_mul, pk_sub, pk_div, znmod, nI_clamp, nIleT, nIleF, nIltT, nIltF, nIeqT, nIeqF, nIm1, nIm1q, zupE, zupN, vpT, nI_01, nI_11, ↓reduceIte, Option.bind_some, Option.toList_some, Option.toList_none, List.cons_append, List.nil_append, Nat.reduceAdd, Nat.reduceMul, Nat.reduceSub, Nat.reduceDiv, Nat.reduceMod, and_true, true_and, and_false, false_and, not_true_eq_false, not_false_eq_true, or_true, true_or, or_false, false_or, Int32.lt_irrefl, Int32.le_refl, e, b160_0, b160_8, b160_17, b160_20]
theorem mTimesL : ∀ (n s t u w : Nat), n < 2 ^ 31 → s < 1000000007 → t < 1000000007 → zev L (d + 1) 256 8 [some (.inr (.inl (12, 0, 0))), some (.inl (nI u)), some (.inl (nI w)), some (.inl (nI s)), some (.inl (nI t)), some (.inl (nI n))] [] h = some (some (.inl (nI ((s + t * n) % 1000000007))), h) := by
  intro n
  induction n using Nat.strongRecOn with
  | ind n ih =>
    intro s t u w hn hs ht
    refine b256_8.trans ?_
    by_cases h0 : n = 0
    · subst h0
      have e : (s + t * 0) % 1000000007 = s := by rw [Nat.mul_zero, Nat.add_zero, Nat.mod_eq_of_lt hs]
      simp (disch := first | omega | simp (disch := omega) only [nI_add, pk_mul, pk_sub, pk_div, znmod, nI_clamp, nIleT, nIleF, nIltT, nIltF, nIeqT, nIeqF, nIm1, nIm1q, zupE, zupN, vpT, nI_01, nI_11, ↓reduceIte, Option.bind_some, Option.toList_some, Option.toList_none, List.cons_append, List.nil_append, Nat.reduceAdd, Nat.reduceMul, Nat.reduceSub, Nat.reduceDiv, Nat.reduceMod, and_true, true_and, and_false, false_and, not_true_eq_false, not_false_eq_true, or_true, true_or, or_false, false_or, Int32.lt_irrefl, Int32.le_refl, e]) only [nI_add, pk_mul, pk_sub, pk_div, znmod, nI_clamp, nIleT, nIleF, nIltT, nIltF, nIeqT, nIeqF, nIm1, nIm1q, zupE, zupN, vpT, nI_01, nI_11, ↓reduceIte, Option.bind_some, Option.toList_some, Option.toList_none, List.cons_append, List.nil_append, Nat.reduceAdd, Nat.reduceMul, Nat.reduceSub, Nat.reduceDiv, Nat.reduceMod, and_true, true_and, and_false, false_and, not_true_eq_false, not_false_eq_true, or_true, true_or, or_false, false_or, Int32.lt_irrefl, Int32.le_refl, e, b256_13, b256_21, b256_28, b256_29, b256_37, b256_48]
    · have ht2 : (t + t) % 1000000007 < 1000000007 := Nat.mod_lt _ (by decide)
      by_cases c : n % 2 = 1
      · have hs2 : (s + t) % 1000000007 < 1000000007 := Nat.mod_lt _ (by decide)
        have e : ((s + t) % 1000000007 + (t + t) % 1000000007 * (n / 2)) % 1000000007 = (s + t * n) % 1000000007 := by
          rw [Nat.add_mod, Nat.mod_mod, Nat.mul_mod, Nat.mod_mod, ← Nat.mul_mod, ← Nat.add_mod]
          congr 1
          have h1 : n = 2 * (n / 2) + 1 := by omega
          have h2 : t * n = t * (2 * (n / 2) + 1) := by rw [← h1]
          rw [h2, Nat.mul_add, Nat.mul_one, Nat.add_mul, ← Nat.mul_assoc, Nat.mul_comm t 2, Nat.two_mul, Nat.add_mul]
          omega
        have q := ih (n / 2) (by omega) ((s + t) % 1000000007) ((t + t) % 1000000007) u w (by omega) hs2 ht2
        simp (disch := first | omega | simp (disch := omega) only [nI_add, pk_mul, pk_sub, pk_div, znmod, nI_clamp, nIleT, nIleF, nIltT, nIltF, nIeqT, nIeqF, nIm1, nIm1q, zupE, zupN, vpT, nI_01, nI_11, ↓reduceIte, Option.bind_some, Option.toList_some, Option.toList_none, List.cons_append, List.nil_append, Nat.reduceAdd, Nat.reduceMul, Nat.reduceSub, Nat.reduceDiv, Nat.reduceMod, and_true, true_and, and_false, false_and, not_true_eq_false, not_false_eq_true, or_true, true_or, or_false, false_or, Int32.lt_irrefl, Int32.le_refl, c, mAdded, q, e]) only [nI_add, pk_mul, pk_sub, pk_div, znmod, nI_clamp, nIleT, nIleF, nIltT, nIltF, nIeqT, nIeqF, nIm1, nIm1q, zupE, zupN, vpT, nI_01, nI_11, ↓reduceIte, Option.bind_some, Option.toList_some, Option.toList_none, List.cons_append, List.nil_append, Nat.reduceAdd, Nat.reduceMul, Nat.reduceSub, Nat.reduceDiv, Nat.reduceMod, and_true, true_and, and_false, false_and, not_true_eq_false, not_false_eq_true, or_true, true_or, or_false, false_or, Int32.lt_irrefl, Int32.le_refl, c, mAdded, q, e, b256_13, b256_21, b256_28, b256_29, b256_37, b256_48]
      · have c' : n % 2 = 0 := by omega
        have e : (s + (t + t) % 1000000007 * (n / 2)) % 1000000007 = (s + t * n) % 1000000007 := by
          rw [Nat.add_mod, Nat.mul_mod, Nat.mod_mod, ← Nat.mul_mod, ← Nat.add_mod]
          congr 1
          have h1 : n = 2 * (n / 2) := by omega
          have h2 : t * n = t * (2 * (n / 2)) := by rw [← h1]
          rw [h2, ← Nat.mul_assoc, Nat.mul_comm t 2, Nat.two_mul]
        have q := ih (n / 2) (by omega) s ((t + t) % 1000000007) u w (by omega) hs ht2
        simp (disch := first | omega | simp (disch := omega) only [nI_add, pk_mul, pk_sub, pk_div, znmod, nI_clamp, nIleT, nIleF, nIltT, nIltF, nIeqT, nIeqF, nIm1, nIm1q, zupE, zupN, vpT, nI_01, nI_11, ↓reduceIte, Option.bind_some, Option.toList_some, Option.toList_none, List.cons_append, List.nil_append, Nat.reduceAdd, Nat.reduceMul, Nat.reduceSub, Nat.reduceDiv, Nat.reduceMod, and_true, true_and, and_false, false_and, not_true_eq_false, not_false_eq_true, or_true, true_or, or_false, false_or, Int32.lt_irrefl, Int32.le_refl, c', mAdded, q, e]) only [nI_add, pk_mul, pk_sub, pk_div, znmod, nI_clamp, nIleT, nIleF, nIltT, nIltF, nIeqT, nIeqF, nIm1, nIm1q, zupE, zupN, vpT, nI_01, nI_11, ↓reduceIte, Option.bind_some, Option.toList_some, Option.toList_none, List.cons_append, List.nil_append, Nat.reduceAdd, Nat.reduceMul, Nat.reduceSub, Nat.reduceDiv, Nat.reduceMod, and_true, true_and, and_false, false_and, not_true_eq_false, not_false_eq_true, or_true, true_or, or_false, false_or, Int32.lt_irrefl, Int32.le_refl, c', mAdded, q, e, b256_13, b256_21, b256_28, b256_29, b256_37, b256_48]
theorem mTimes {v n : Nat} (hv : v < 1000000007) (hn : n < 2 ^ 31) : zev L (d + 1) 256 0 [some (.inr (.inl (12, 0, 0))), some (.inl (nI v)), some (.inl (nI n)), none, none, none] [] h = some (some (.inl (nI (v * n % 1000000007))), h) := by
  have q := mTimesL (L := L) (d := d) (h := h) n 0 v v n hn (by omega) hv
  rw [Nat.zero_add] at q
  exact b256_0.trans q
theorem kRing {m : Nat} (hm : m ≤ 12) : zev L d 47 0 [some (.inr (.inl (5, 0, 0))), some (.inl (nI (2*m))), none, none, none] [] h = some (some (.inl (nI (ycat m))), h) := by
  have e0 : 2 * m / 2 = m := by omega
  have e1 : 2 * m % 2 = 0 := by omega
  have e2 : 2 * m - m * 2 = 0 := by omega
  obtain ⟨_, k1, _⟩ := zinv (P := fun j (_ : Unit) => zev L d 47 13 [some (.inr (.inl (5, 0, 0))), some (.inl (nI (2 * m))), some (.inr (.inr (lN (ycat j)))), none, some (.inl (nI j))] [] h) (R := fun _ _ => True) (N := m) (fun j _ hj _ => by
    refine ⟨(), b47_13.trans ?_, trivial⟩
    have f1 := yrg j (by omega)
    have f2 := yrg0 j (by omega)
    simp (disch := first | omega | simp (disch := omega) only [nI_add, pk_mul, pk_sub, pk_div, znmod, nI_clamp, nIleT, nIleF, nIltT, nIltF, nIeqT, nIeqF, nIm1, nIm1q, zupE, zupN, vpT, nI_01, nI_11, ↓reduceIte, Option.bind_some, Option.toList_some, Option.toList_none, List.cons_append, List.nil_append, Nat.reduceAdd, Nat.reduceMul, Nat.reduceSub, Nat.reduceDiv, Nat.reduceMod, and_true, true_and, and_false, false_and, not_true_eq_false, not_false_eq_true, or_true, true_or, or_false, false_or, Int32.lt_irrefl, Int32.le_refl, e0, f1, f2]) only [nI_add, pk_mul, pk_sub, pk_div, znmod, nI_clamp, nIleT, nIleF, nIltT, nIltF, nIeqT, nIeqF, nIm1, nIm1q, zupE, zupN, vpT, nI_01, nI_11, ↓reduceIte, Option.bind_some, Option.toList_some, Option.toList_none, List.cons_append, List.nil_append, Nat.reduceAdd, Nat.reduceMul, Nat.reduceSub, Nat.reduceDiv, Nat.reduceMod, and_true, true_and, and_false, false_and, not_true_eq_false, not_false_eq_true, or_true, true_or, or_false, false_or, Int32.lt_irrefl, Int32.le_refl, e0, f1, f2, b47_6, b47_21, b47_47]) m (Nat.le_refl m) () trivial
  have k2 := k1.trans b47_13
  have f3 := yrgE m (by omega)
  have f4 : ycat 0 = 1 := rfl
  simp (disch := first | omega | simp (disch := omega) only [nI_add, pk_mul, pk_sub, pk_div, znmod, nI_clamp, nIleT, nIleF, nIltT, nIltF, nIeqT, nIeqF, nIm1, nIm1q, zupE, zupN, vpT, nI_01, nI_11, ↓reduceIte, Option.bind_some, Option.toList_some, Option.toList_none, List.cons_append, List.nil_append, Nat.reduceAdd, Nat.reduceMul, Nat.reduceSub, Nat.reduceDiv, Nat.reduceMod, and_true, true_and, and_false, false_and, not_true_eq_false, not_false_eq_true, or_true, true_or, or_false, false_or, Int32.lt_irrefl, Int32.le_refl, e0, f3, f4]) only [nI_add, pk_mul, pk_sub, pk_div, znmod, nI_clamp, nIleT, nIleF, nIltT, nIltF, nIeqT, nIeqF, nIm1, nIm1q, zupE, zupN, vpT, nI_01, nI_11, ↓reduceIte, Option.bind_some, Option.toList_some, Option.toList_none, List.cons_append, List.nil_append, Nat.reduceAdd, Nat.reduceMul, Nat.reduceSub, Nat.reduceDiv, Nat.reduceMod, and_true, true_and, and_false, false_and, not_true_eq_false, not_false_eq_true, or_true, true_or, or_false, false_or, Int32.lt_irrefl, Int32.le_refl, e0, f3, f4, b47_6, b47_21, b47_47] at k2
  simp (disch := first | omega | simp (disch := omega) only [nI_add, pk_mul, pk_sub, pk_div, znmod, nI_clamp, nIleT, nIleF, nIltT, nIltF, nIeqT, nIeqF, nIm1, nIm1q, zupE, zupN, vpT, nI_01, nI_11, ↓reduceIte, Option.bind_some, Option.toList_some, Option.toList_none, List.cons_append, List.nil_append, Nat.reduceAdd, Nat.reduceMul, Nat.reduceSub, Nat.reduceDiv, Nat.reduceMod, and_true, true_and, and_false, false_and, not_true_eq_false, not_false_eq_true, or_true, true_or, or_false, false_or, Int32.lt_irrefl, Int32.le_refl, e0, e1, e2, k2]) only [nI_add, pk_mul, pk_sub, pk_div, znmod, nI_clamp, nIleT, nIleF, nIltT, nIltF, nIeqT, nIeqF, nIm1, nIm1q, zupE, zupN, vpT, nI_01, nI_11, ↓reduceIte, Option.bind_some, Option.toList_some, Option.toList_none, List.cons_append, List.nil_append, Nat.reduceAdd, Nat.reduceMul, Nat.reduceSub, Nat.reduceDiv, Nat.reduceMod, and_true, true_and, and_false, false_and, not_true_eq_false, not_false_eq_true, or_true, true_or, or_false, false_or, Int32.lt_irrefl, Int32.le_refl, e0, e1, e2, k2, b47_0, b47_6, b47_8, b47_21, b47_47]
theorem o_ring (R : Rel hc hm) : zS2 (zev L (d + 20) 136 0 [some (.inr (.inl (11, 0, 0))), some (.inl x1)] [] hc) (zev L (d + 20) 257 0 [some (.inr (.inl (12, 0, 0))), some (.inl x1), none, none] [] hm) Rel := by
  rcases zarg x1 24 (by omega) with ⟨n, hn, rfl⟩ | q
  · by_cases c : n % 2 = 1
    · have e2 : n - n / 2 * 2 = 1 := by omega
      simp (disch := first | omega | simp (disch := omega) only [nI_add, pk_mul, pk_sub, pk_div, znmod, nI_clamp, nIleT, nIleF, nIltT, nIltF, nIeqT, nIeqF, nIm1, nIm1q, zupE, zupN, vpT, nI_01, nI_11, ↓reduceIte, Option.bind_some, Option.toList_some, Option.toList_none, List.cons_append, List.nil_append, Nat.reduceAdd, Nat.reduceMul, Nat.reduceSub, Nat.reduceDiv, Nat.reduceMod, and_true, true_and, and_false, false_and, not_true_eq_false, not_false_eq_true, or_true, true_or, or_false, false_or, Int32.lt_irrefl, Int32.le_refl, kw, mIn, c, e2]) only [nI_add, pk_mul, pk_sub, pk_div, znmod, nI_clamp, nIleT, nIleF, nIltT, nIltF, nIeqT, nIeqF, nIm1, nIm1q, zupE, zupN, vpT, nI_01, nI_11, ↓reduceIte, Option.bind_some, Option.toList_some, Option.toList_none, List.cons_append, List.nil_append, Nat.reduceAdd, Nat.reduceMul, Nat.reduceSub, Nat.reduceDiv, Nat.reduceMod, and_true, true_and, and_false, false_and, not_true_eq_false, not_false_eq_true, or_true, true_or, or_false, false_or, Int32.lt_irrefl, Int32.le_refl, kw, mIn, c, e2, b136_0, b136_7, b136_10, b136_18, b136_21, b136_22, b47_0, b47_6, b47_8, b47_13, b47_21, b47_47, b257_0, b257_5, b257_13, b257_16, b257_18, b257_25, b257_27, b257_36, b257_45, b257_49, b257_50, b257_51, b257_53, b257_58, b257_90, b257_93, b257_94, b257_100, b257_106]
      exact zS2_no R
    · obtain ⟨m, rfl⟩ : ∃ m, n = 2 * m := ⟨n / 2, by omega⟩
      have e0 : 2 * m / 2 = m := by omega
      have e1 : 2 * m % 2 = 0 := by omega
      have e2 : 2 * m - m * 2 = 0 := by omega
      obtain ⟨s, k1, r1, r2⟩ := zinv (P := fun k (s : zH × Option zV) => zev L (d + 19 + 1) 257 29 [some (.inr (.inl (12, 0, 0))), some (.inl (nI (2 * m))), some (.inl (nI k)), s.2] [] s.1)
        (R := fun k s => (∀ j, j < k → s.1 12 0 55 j = nI (ycat j)) ∧ yM hm s.1) (N := m + 1) (fun k s hk hr => by
          obtain ⟨g, a⟩ := s
          obtain ⟨hr1, hr2⟩ := hr
          simp only at hr1 hr2
          obtain ⟨s', j1, j2, j3, j4⟩ := zinv (P := fun i (g : zH) => zev L (d + 19 + 1) 257 53 [some (.inr (.inl (12, 0, 0))), some (.inl (nI (2 * m))), some (.inl (nI k)), some (.inl (nI i))] [] g)
            (R := fun i g => (∀ j, j < k → g 12 0 55 j = nI (ycat j)) ∧ g 12 0 55 k = nI (yps k i) ∧ yM hm g) (N := k) (fun i g hi hq => by
              obtain ⟨q1, q2, q3⟩ := hq
              have u1 := q1 i hi
              have u2 := q1 (k - 1 - i) (by omega)
              have w1 := ycat_lt i (by omega)
              have w2 := ycat_lt (k - 1 - i) (by omega)
              have w3 := ycm_lt k (by omega) i (by omega) hi
              have w4 := yps_lt k (by omega) i (by omega) (by omega)
              have w5 := yps_lt k (by omega) (i + 1) (by omega) (by omega)
              have w6 : ycat i * ycat (k - 1 - i) % 1000000007 = ycat i * ycat (k - 1 - i) := Nat.mod_eq_of_lt (by omega)
              have w7 : (yps k i + ycat i * ycat (k - 1 - i)) % 1000000007 = yps k (i + 1) := by
                rw [yps] at w5 ⊢
                exact Nat.mod_eq_of_lt (by omega)
              refine ⟨zup g 12 0 55 k (nI (yps k (i + 1))), b257_53.trans ?_, fun j hj => ?_, ?_, yM_u q3 rfl⟩
              · simp (disch := first | omega | simp (disch := omega) only [nI_add, pk_mul, pk_sub, pk_div, znmod, nI_clamp, nIleT, nIleF, nIltT, nIltF, nIeqT, nIeqF, nIm1, nIm1q, zupE, zupN, vpT, nI_01, nI_11, ↓reduceIte, Option.bind_some, Option.toList_some, Option.toList_none, List.cons_append, List.nil_append, Nat.reduceAdd, Nat.reduceMul, Nat.reduceSub, Nat.reduceDiv, Nat.reduceMod, and_true, true_and, and_false, false_and, not_true_eq_false, not_false_eq_true, or_true, true_or, or_false, false_or, Int32.lt_irrefl, Int32.le_refl, u1, u2, q2, mTimes, w6, mAdded, w7]) only [nI_add, pk_mul, pk_sub, pk_div, znmod, nI_clamp, nIleT, nIleF, nIltT, nIltF, nIeqT, nIeqF, nIm1, nIm1q, zupE, zupN, vpT, nI_01, nI_11, ↓reduceIte, Option.bind_some, Option.toList_some, Option.toList_none, List.cons_append, List.nil_append, Nat.reduceAdd, Nat.reduceMul, Nat.reduceSub, Nat.reduceDiv, Nat.reduceMod, and_true, true_and, and_false, false_and, not_true_eq_false, not_false_eq_true, or_true, true_or, or_false, false_or, Int32.lt_irrefl, Int32.le_refl, u1, u2, q2, mTimes, w6, mAdded, w7, b257_0, b257_5, b257_13, b257_16, b257_18, b257_25, b257_27, b257_36, b257_45, b257_49, b257_50, b257_51, b257_58, b257_90, b257_93, b257_94, b257_100, b257_106]
              · rw [zupN (by omega)]; exact q1 j hj
              · rw [zupE (by omega)]) k (Nat.le_refl k) (zup g 12 0 55 k (nI (yps k 0))) ⟨fun j hj => by rw [zupN (by omega)]; exact hr1 j hj, by rw [zupE (by omega)], yM_u hr2 rfl⟩
          have j5 := j1.trans b257_53
          refine ⟨(s', some (.inl (nI k))), b257_29.trans ?_, fun j hj => ?_, j4⟩
          · have z0 : yps k 0 = if k = 0 then 1 else 0 := rfl
            simp (disch := first | omega | simp (disch := omega) only [nI_add, pk_mul, pk_sub, pk_div, znmod, nI_clamp, nIleT, nIleF, nIltT, nIltF, nIeqT, nIeqF, nIm1, nIm1q, zupE, zupN, vpT, nI_01, nI_11, ↓reduceIte, Option.bind_some, Option.toList_some, Option.toList_none, List.cons_append, List.nil_append, Nat.reduceAdd, Nat.reduceMul, Nat.reduceSub, Nat.reduceDiv, Nat.reduceMod, and_true, true_and, and_false, false_and, not_true_eq_false, not_false_eq_true, or_true, true_or, or_false, false_or, Int32.lt_irrefl, Int32.le_refl]) only [nI_add, pk_mul, pk_sub, pk_div, znmod, nI_clamp, nIleT, nIleF, nIltT, nIltF, nIeqT, nIeqF, nIm1, nIm1q, zupE, zupN, vpT, nI_01, nI_11, ↓reduceIte, Option.bind_some, Option.toList_some, Option.toList_none, List.cons_append, List.nil_append, Nat.reduceAdd, Nat.reduceMul, Nat.reduceSub, Nat.reduceDiv, Nat.reduceMod, and_true, true_and, and_false, false_and, not_true_eq_false, not_false_eq_true, or_true, true_or, or_false, false_or, Int32.lt_irrefl, Int32.le_refl, b257_0, b257_5, b257_13, b257_16, b257_18, b257_25, b257_27, b257_36, b257_45, b257_49, b257_50, b257_51, b257_58, b257_90, b257_93, b257_94, b257_100, b257_106] at j5
            by_cases hk0 : k = 0
            · rw [if_pos hk0] at z0
              subst hk0
              rw [z0] at j5
              simp (disch := first | omega | simp (disch := omega) only [nI_add, pk_mul, pk_sub, pk_div, znmod, nI_clamp, nIleT, nIleF, nIltT, nIltF, nIeqT, nIeqF, nIm1, nIm1q, zupE, zupN, vpT, nI_01, nI_11, ↓reduceIte, Option.bind_some, Option.toList_some, Option.toList_none, List.cons_append, List.nil_append, Nat.reduceAdd, Nat.reduceMul, Nat.reduceSub, Nat.reduceDiv, Nat.reduceMod, and_true, true_and, and_false, false_and, not_true_eq_false, not_false_eq_true, or_true, true_or, or_false, false_or, Int32.lt_irrefl, Int32.le_refl, e0, j5]) only [nI_add, pk_mul, pk_sub, pk_div, znmod, nI_clamp, nIleT, nIleF, nIltT, nIltF, nIeqT, nIeqF, nIm1, nIm1q, zupE, zupN, vpT, nI_01, nI_11, ↓reduceIte, Option.bind_some, Option.toList_some, Option.toList_none, List.cons_append, List.nil_append, Nat.reduceAdd, Nat.reduceMul, Nat.reduceSub, Nat.reduceDiv, Nat.reduceMod, and_true, true_and, and_false, false_and, not_true_eq_false, not_false_eq_true, or_true, true_or, or_false, false_or, Int32.lt_irrefl, Int32.le_refl, e0, j5, b257_0, b257_5, b257_13, b257_16, b257_18, b257_25, b257_27, b257_36, b257_45, b257_49, b257_50, b257_51, b257_58, b257_90, b257_93, b257_94, b257_100, b257_106]
            · rw [if_neg hk0] at z0
              rw [z0] at j5
              simp (disch := first | omega | simp (disch := omega) only [nI_add, pk_mul, pk_sub, pk_div, znmod, nI_clamp, nIleT, nIleF, nIltT, nIltF, nIeqT, nIeqF, nIm1, nIm1q, zupE, zupN, vpT, nI_01, nI_11, ↓reduceIte, Option.bind_some, Option.toList_some, Option.toList_none, List.cons_append, List.nil_append, Nat.reduceAdd, Nat.reduceMul, Nat.reduceSub, Nat.reduceDiv, Nat.reduceMod, and_true, true_and, and_false, false_and, not_true_eq_false, not_false_eq_true, or_true, true_or, or_false, false_or, Int32.lt_irrefl, Int32.le_refl, e0, j5]) only [nI_add, pk_mul, pk_sub, pk_div, znmod, nI_clamp, nIleT, nIleF, nIltT, nIltF, nIeqT, nIeqF, nIm1, nIm1q, zupE, zupN, vpT, nI_01, nI_11, ↓reduceIte, Option.bind_some, Option.toList_some, Option.toList_none, List.cons_append, List.nil_append, Nat.reduceAdd, Nat.reduceMul, Nat.reduceSub, Nat.reduceDiv, Nat.reduceMod, and_true, true_and, and_false, false_and, not_true_eq_false, not_false_eq_true, or_true, true_or, or_false, false_or, Int32.lt_irrefl, Int32.le_refl, e0, j5, b257_0, b257_5, b257_13, b257_16, b257_18, b257_25, b257_27, b257_36, b257_45, b257_49, b257_50, b257_51, b257_58, b257_90, b257_93, b257_94, b257_100, b257_106]
          · by_cases e : j = k
            · subst e
              show s' 12 0 55 j = _
              rw [j3, yps_ok _ (by omega)]
            · exact j2 j (by omega)) (m + 1) (Nat.le_refl _) (zup hm 12 0 0 0 (nI 0), none) ⟨fun j hj => absurd hj (by omega), yM_u yM_r rfl⟩
      have k2 := k1.trans b257_29
      have f5 := r1 m (by omega)
      simp (disch := first | omega | simp (disch := omega) only [nI_add, pk_mul, pk_sub, pk_div, znmod, nI_clamp, nIleT, nIleF, nIltT, nIltF, nIeqT, nIeqF, nIm1, nIm1q, zupE, zupN, vpT, nI_01, nI_11, ↓reduceIte, Option.bind_some, Option.toList_some, Option.toList_none, List.cons_append, List.nil_append, Nat.reduceAdd, Nat.reduceMul, Nat.reduceSub, Nat.reduceDiv, Nat.reduceMod, and_true, true_and, and_false, false_and, not_true_eq_false, not_false_eq_true, or_true, true_or, or_false, false_or, Int32.lt_irrefl, Int32.le_refl, e0, f5]) only [nI_add, pk_mul, pk_sub, pk_div, znmod, nI_clamp, nIleT, nIleF, nIltT, nIltF, nIeqT, nIeqF, nIm1, nIm1q, zupE, zupN, vpT, nI_01, nI_11, ↓reduceIte, Option.bind_some, Option.toList_some, Option.toList_none, List.cons_append, List.nil_append, Nat.reduceAdd, Nat.reduceMul, Nat.reduceSub, Nat.reduceDiv, Nat.reduceMod, and_true, true_and, and_false, false_and, not_true_eq_false, not_false_eq_true, or_true, true_or, or_false, false_or, Int32.lt_irrefl, Int32.le_refl, e0, f5, b257_0, b257_5, b257_13, b257_16, b257_18, b257_25, b257_27, b257_36, b257_45, b257_49, b257_50, b257_51, b257_58, b257_90, b257_93, b257_94, b257_100, b257_106] at k2
      simp (disch := first | omega | simp (disch := omega) only [nI_add, pk_mul, pk_sub, pk_div, znmod, nI_clamp, nIleT, nIleF, nIltT, nIltF, nIeqT, nIeqF, nIm1, nIm1q, zupE, zupN, vpT, nI_01, nI_11, ↓reduceIte, Option.bind_some, Option.toList_some, Option.toList_none, List.cons_append, List.nil_append, Nat.reduceAdd, Nat.reduceMul, Nat.reduceSub, Nat.reduceDiv, Nat.reduceMod, and_true, true_and, and_false, false_and, not_true_eq_false, not_false_eq_true, or_true, true_or, or_false, false_or, Int32.lt_irrefl, Int32.le_refl, kw, mIn, kRing, e0, e1, e2, k2]) only [nI_add, pk_mul, pk_sub, pk_div, znmod, nI_clamp, nIleT, nIleF, nIltT, nIltF, nIeqT, nIeqF, nIm1, nIm1q, zupE, zupN, vpT, nI_01, nI_11, ↓reduceIte, Option.bind_some, Option.toList_some, Option.toList_none, List.cons_append, List.nil_append, Nat.reduceAdd, Nat.reduceMul, Nat.reduceSub, Nat.reduceDiv, Nat.reduceMod, and_true, true_and, and_false, false_and, not_true_eq_false, not_false_eq_true, or_true, true_or, or_false, false_or, Int32.lt_irrefl, Int32.le_refl, kw, mIn, kRing, e0, e1, e2, k2, b136_0, b136_7, b136_10, b136_18, b136_21, b136_22, b257_0, b257_5, b257_13, b257_16, b257_18, b257_25, b257_27, b257_36, b257_45, b257_49, b257_50, b257_51, b257_53, b257_58, b257_90, b257_93, b257_94, b257_100, b257_106]
      exact ⟨_, _, _, rfl, rfl, Rel_yM R r2⟩
  · simp (disch := first | omega | simp (disch := omega) only [nI_add, pk_mul, pk_sub, pk_div, znmod, nI_clamp, nIleT, nIleF, nIltT, nIltF, nIeqT, nIeqF, nIm1, nIm1q, zupE, zupN, vpT, nI_01, nI_11, ↓reduceIte, Option.bind_some, Option.toList_some, Option.toList_none, List.cons_append, List.nil_append, Nat.reduceAdd, Nat.reduceMul, Nat.reduceSub, Nat.reduceDiv, Nat.reduceMod, and_true, true_and, and_false, false_and, not_true_eq_false, not_false_eq_true, or_true, true_or, or_false, false_or, Int32.lt_irrefl, Int32.le_refl, kw, mIn, q]) only [nI_add, pk_mul, pk_sub, pk_div, znmod, nI_clamp, nIleT, nIleF, nIltT, nIltF, nIeqT, nIeqF, nIm1, nIm1q, zupE, zupN, vpT, nI_01, nI_11, ↓reduceIte, Option.bind_some, Option.toList_some, Option.toList_none, List.cons_append, List.nil_append, Nat.reduceAdd, Nat.reduceMul, Nat.reduceSub, Nat.reduceDiv, Nat.reduceMod, and_true, true_and, and_false, false_and, not_true_eq_false, not_false_eq_true, or_true, true_or, or_false, false_or, Int32.lt_irrefl, Int32.le_refl, kw, mIn, q, b136_0, b136_7, b136_10, b136_18, b136_21, b136_22, b257_0, b257_5, b257_13, b257_16, b257_18, b257_25, b257_27, b257_36, b257_45, b257_49, b257_50, b257_51, b257_53, b257_58, b257_90, b257_93, b257_94, b257_100, b257_106]
    exact zS2_no R
end RG
