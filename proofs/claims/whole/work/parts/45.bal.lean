/-! operation balance -/
def yW (W : Nat → Nat) (ob : Bool) : Nat → Nat → Int32 → Bool
  | 0, _, v => decide (v = nI 0)
  | r + 1, i, v => yW W ob r (i + 1) v || (yW W ob r (i + 1) (v - nI (W i)) || (ob && yW W ob r (i + 1) (v + nI (W i))))
theorem yc1 (v a b : Int32) : v - a - b = v - b - a := by simp only [Int32.sub_eq_add_neg]; ac_rfl
theorem yc2 (v a b : Int32) : v - a + b = v + b - a := by simp only [Int32.sub_eq_add_neg]; ac_rfl
theorem yc3 (v a b : Int32) : v + a + b = v + b + a := by ac_rfl
theorem yc4 (v a b : Int32) : v - a - b = v - (a + b) := by rw [Int32.sub_eq_add_neg, Int32.sub_eq_add_neg, Int32.sub_eq_add_neg, Int32.neg_add, Int32.sub_eq_add_neg, Int32.add_assoc]
theorem yW_b {W : Nat → Nat} {ob : Bool} : ∀ (r i : Nat) (v : Int32), yW W ob (r + 1) i v = (yW W ob r i v || (yW W ob r i (v - nI (W (i + r))) || (ob && yW W ob r i (v + nI (W (i + r))))))
  | 0, i, v => rfl
  | r + 1, i, v => by
    rw [yW, yW_b r, yW_b r, yW_b r]
    rw [yW, yW, yW]
    rw [show i + 1 + r = i + (r + 1) by omega]
    rw [yc1 v (nI (W i)) (nI (W (i + (r + 1)))), yc2 v (nI (W i)) (nI (W (i + (r + 1)))), yc3 v (nI (W i)) (nI (W (i + (r + 1)))), ← yc2 v (nI (W (i + (r + 1)))) (nI (W i))]
    cases ob
    · simp only [Bool.false_and, Bool.or_false]
      ac_rfl
    · simp only [Bool.true_and]
      ac_rfl
def ysm (W : Nat → Nat) (ob : Bool) (way : Nat) : Nat → Int32
  | 0 => nI 0
  | k + 1 => if way / 3 ^ k % 3 = 1 then ysm W ob way k + nI (W k) else if way / 3 ^ k % 3 = 2 then (if ob = true then ysm W ob way k - nI (W k) else nI 100000000) else ysm W ob way k
theorem ysm_c {W : Nat → Nat} {ob : Bool} {w w' k : Nat} (h : ∀ j, j < k → w / 3 ^ j % 3 = w' / 3 ^ j % 3) : ysm W ob w k = ysm W ob w' k := by
  induction k with
  | zero => rfl
  | succ k ih => rw [ysm, ysm, ih (fun j hj => h j (by omega)), h k (by omega)]
theorem ydg {w k j : Nat} (hj : j < k) : w % 3 ^ k / 3 ^ j % 3 = w / 3 ^ j % 3 := by
  have e : 3 ^ k = 3 ^ j * (3 * 3 ^ (k - j - 1)) := by
    rw [← Nat.pow_succ', ← Nat.pow_add]
    congr 1
    omega
  rw [e, Nat.mod_mul_right_div_self, Nat.mod_mul_right_mod]
def yE (W : Nat → Nat) (ob : Bool) (k : Nat) (v : Int32) : Prop := ∃ w, w < 3 ^ k ∧ ysm W ob w k = v
theorem yE_s {W : Nat → Nat} {ob : Bool} {k : Nat} {v : Int32} : yE W ob (k + 1) v ↔ yE W ob k v ∨ (∃ s, yE W ob k s ∧ v = s + nI (W k)) ∨ (∃ s, yE W ob k s ∧ v = if ob = true then s - nI (W k) else nI 100000000) := by
  have hp : 0 < 3 ^ k := Nat.pow_pos (by decide)
  constructor
  · rintro ⟨w, hw, e⟩
    have hw' : w % 3 ^ k < 3 ^ k := Nat.mod_lt _ hp
    have e1 : ysm W ob (w % 3 ^ k) k = ysm W ob w k := ysm_c (fun j hj => ydg hj)
    rw [ysm] at e
    by_cases c1 : w / 3 ^ k % 3 = 1
    · rw [if_pos c1] at e
      exact Or.inr (Or.inl ⟨_, ⟨w % 3 ^ k, hw', e1⟩, e.symm⟩)
    · rw [if_neg c1] at e
      by_cases c2 : w / 3 ^ k % 3 = 2
      · rw [if_pos c2] at e
        exact Or.inr (Or.inr ⟨_, ⟨w % 3 ^ k, hw', e1⟩, e.symm⟩)
      · rw [if_neg c2] at e
        exact Or.inl ⟨w % 3 ^ k, hw', e1.trans e⟩
  · have mk : ∀ g w, g < 3 → w < 3 ^ k → (w + 3 ^ k * g < 3 ^ (k + 1) ∧ (w + 3 ^ k * g) / 3 ^ k % 3 = g ∧ ysm W ob (w + 3 ^ k * g) k = ysm W ob w k) := by
      intro g w hg hw
      have hd : (w + 3 ^ k * g) / 3 ^ k = g := by rw [Nat.add_mul_div_left _ _ hp, Nat.div_eq_of_lt hw, Nat.zero_add]
      have hm : (w + 3 ^ k * g) % 3 ^ k = w := by rw [Nat.add_mul_mod_self_left, Nat.mod_eq_of_lt hw]
      refine ⟨?_, by rw [hd]; exact Nat.mod_eq_of_lt hg, ?_⟩
      · have h2 : 3 ^ k * g ≤ 3 ^ k * 2 := Nat.mul_le_mul_left _ (by omega)
        rw [Nat.pow_succ]
        omega
      · refine (ysm_c (fun j hj => ?_))
        rw [← ydg (w := w + 3 ^ k * g) hj, hm]
    rintro (⟨w, hw, e⟩ | ⟨s, ⟨w, hw, e⟩, ev⟩ | ⟨s, ⟨w, hw, e⟩, ev⟩)
    · obtain ⟨a, b, c⟩ := mk 0 w (by omega) hw
      refine ⟨w + 3 ^ k * 0, a, ?_⟩
      rw [ysm, b, if_neg (by decide), if_neg (by decide), c, e]
    · obtain ⟨a, b, c⟩ := mk 1 w (by omega) hw
      refine ⟨w + 3 ^ k * 1, a, ?_⟩
      rw [ysm, b, if_pos rfl, c, e, ev]
    · obtain ⟨a, b, c⟩ := mk 2 w (by omega) hw
      refine ⟨w + 3 ^ k * 2, a, ?_⟩
      rw [ysm, b, if_neg (by decide), if_pos rfl, c, e, ev]
theorem yi1 (s v a : Int32) : v = s + a ↔ s = v - a := by
  constructor
  · intro e; rw [e, Int32.add_sub_cancel]
  · intro e; rw [e, Int32.sub_add_cancel]
theorem yi2 (s v a : Int32) : v = s - a ↔ s = v + a := by
  constructor
  · intro e; rw [e, Int32.sub_add_cancel]
  · intro e; rw [e, Int32.add_sub_cancel]
theorem yW_E {W : Nat → Nat} : ∀ (k : Nat) (v : Int32), yW W true k 0 v = true ↔ yE W true k v
  | 0, v => by
    show decide (v = nI 0) = true ↔ _
    rw [decide_eq_true_eq]
    constructor
    · intro e; exact ⟨0, by decide, e.symm⟩
    · rintro ⟨w, _, e⟩; exact e.symm
  | k + 1, v => by
    rw [yW_b, Nat.zero_add, Bool.or_eq_true, Bool.or_eq_true, Bool.true_and, yW_E k, yW_E k, yW_E k, yE_s]
    constructor
    · rintro (h | h | h)
      · exact Or.inl h
      · exact Or.inr (Or.inl ⟨_, h, (yi1 _ _ _).2 rfl⟩)
      · exact Or.inr (Or.inr ⟨_, h, (yi2 _ _ _).2 rfl⟩)
    · rintro (h | ⟨s, h, e⟩ | ⟨s, h, e⟩)
      · exact Or.inl h
      · rw [yi1] at e; rw [e] at h; exact Or.inr (Or.inl h)
      · rw [if_pos rfl, yi2] at e; rw [e] at h; exact Or.inr (Or.inr h)
theorem yW_neg {W : Nat → Nat} (hW : ∀ j, j < 5 → W j ≤ 200) : ∀ (k a b : Nat), k ≤ 5 → a < b → b + 200 * k < 2 ^ 30 → yW W false k 0 (nI a - nI b) = false
  | 0, a, b, _, h, hb => by
    show decide (nI a - nI b = nI 0) = false
    rw [decide_eq_false_iff_not]
    intro e
    have := pk_sneg (a := a) (b := b) (by omega) h
    rw [e] at this
    exact absurd this (by decide)
  | k + 1, a, b, hk, h, hb => by
    have hw := hW k (by omega)
    rw [yW_b, Nat.zero_add, yc4, nI_add, yW_neg hW k a b (by omega) h (by omega), yW_neg hW k a (b + W k) (by omega) (by omega) (by omega)]
    rfl
theorem ysm_p {W : Nat → Nat} (hW : ∀ j, j < 5 → W j ≤ 200) {w : Nat} : ∀ k, k ≤ 5 → ∃ p, ysm W false w k = nI p ∧ p ≤ 100000000 + 200 * k
  | 0, _ => ⟨0, rfl, by omega⟩
  | k + 1, hk => by
    obtain ⟨p, e, hp⟩ := ysm_p hW (w := w) k (by omega)
    have hw := hW k (by omega)
    rw [ysm]
    split
    · exact ⟨p + W k, by rw [e, nI_add], by omega⟩
    · split
      · exact ⟨100000000, rfl, by omega⟩
      · exact ⟨p, e, by omega⟩
theorem yW_F {W : Nat → Nat} (hW : ∀ j, j < 5 → W j ≤ 200) : ∀ (k s : Nat), k ≤ 5 → s ≤ 1000 → (yW W false k 0 (nI s) = true ↔ yE W false k (nI s))
  | 0, s, _, _ => by
    show decide (nI s = nI 0) = true ↔ _
    rw [decide_eq_true_eq]
    constructor
    · intro e; exact ⟨0, by decide, e.symm⟩
    · rintro ⟨w, _, e⟩; exact e.symm
  | k + 1, s, hk, hs => by
    have hw := hW k (by omega)
    rw [yW_b, Nat.zero_add, Bool.false_and, Bool.or_false, Bool.or_eq_true, yW_F hW k s (by omega) hs, yE_s]
    by_cases c : W k ≤ s
    · rw [pk_sub c, yW_F hW k (s - W k) (by omega) (by omega)]
      constructor
      · rintro (h | h)
        · exact Or.inl h
        · exact Or.inr (Or.inl ⟨_, h, by rw [nI_add, Nat.sub_add_cancel c]⟩)
      · rintro (h | ⟨u, h, e⟩ | ⟨u, h, e⟩)
        · exact Or.inl h
        · rw [yi1, pk_sub c] at e; rw [e] at h; exact Or.inr h
        · rw [if_neg (by decide)] at e
          exact absurd ((nI_eq (by omega) (by omega)).1 e) (by omega)
    · rw [yW_neg hW k s (W k) (by omega) (by omega) (by omega)]
      constructor
      · rintro (h | h)
        · exact Or.inl h
        · cases h
      · rintro (h | ⟨u, ⟨w, hw', eu⟩, e⟩ | ⟨u, h, e⟩)
        · exact Or.inl h
        · obtain ⟨p, ep, hp⟩ := ysm_p hW (w := w) k (by omega)
          rw [← eu, ep, nI_add] at e
          exact absurd ((nI_eq (by omega) (by omega)).1 e) (by omega)
        · rw [if_neg (by decide)] at e
          exact absurd ((nI_eq (by omega) (by omega)).1 e) (by omega)
theorem ysm_t {W : Nat → Nat} (hW : ∀ j, j < 5 → W j ≤ 200) {w : Nat} : ∀ k, k ≤ 5 → ∃ p q, ysm W true w k = nI p - nI q ∧ p + q ≤ 200 * k
  | 0, _ => ⟨0, 0, show nI 0 = nI 0 - nI 0 by decide, by omega⟩
  | k + 1, hk => by
    obtain ⟨p, q, e, hp⟩ := ysm_t hW (w := w) k (by omega)
    have hw := hW k (by omega)
    rw [ysm]
    split
    · exact ⟨p + W k, q, by rw [e, yc2, nI_add], by omega⟩
    · split
      · exact ⟨p, q + W k, by rw [if_pos rfl, e, yc4, nI_add], by omega⟩
      · exact ⟨p, q, e, by omega⟩
theorem yE_1001 {W : Nat → Nat} (hW : ∀ j, j < 5 → W j ≤ 200) {k : Nat} (hk : k ≤ 5) : ¬ yE W true k (nI 1001) := by
  rintro ⟨w, _, e⟩
  obtain ⟨p, q, e2, hp⟩ := ysm_t hW (w := w) k hk
  rw [e2] at e
  have := congrArg Int32.toInt e
  rw [pk_sub_toInt (by omega) (by omega), nI_toInt (by omega)] at this
  omega
def yWm (W : Nat → Nat) (ob : Bool) (N : Nat) (v : Int32) : Bool := !(zallB (fun w => decide (¬ ysm W ob w N = v)) (3 ^ N))
theorem zallB_of {g : Nat → Bool} : ∀ {n : Nat}, (∀ j, j < n → g j = true) → zallB g n = true
  | 0, _ => rfl
  | n + 1, h => by rw [zallB, zallB_of (fun j hj => h j (by omega)), h n (by omega)]; rfl
theorem yWm_E {W : Nat → Nat} {ob : Bool} {N : Nat} {v : Int32} : yWm W ob N v = true ↔ yE W ob N v := by
  unfold yWm
  constructor
  · intro h
    rw [Bool.not_eq_true'] at h
    apply Classical.byContradiction
    intro hn
    have : zallB (fun w => decide (¬ ysm W ob w N = v)) (3 ^ N) = true := zallB_of (fun j hj => decide_eq_true (fun e => hn ⟨j, hj, e⟩))
    rw [h] at this
    cases this
  · rintro ⟨w, hw, e⟩
    cases hz : zallB (fun w => decide (¬ ysm W ob w N = v)) (3 ^ N)
    · rfl
    · have := zallB_all hz w hw
      simp [e] at this
theorem zfst_none {g : Nat → Bool} {N : Nat} (h : zfst g N = none) : ∀ j, j < N → g j = false := by
  induction N with
  | zero => intro j hj; exact absurd hj (Nat.not_lt_zero _)
  | succ n ih =>
    intro j hj
    rw [zfst] at h
    cases e : zfst g n with
    | some i => rw [e] at h; cases h
    | none =>
      rw [e] at h
      simp only at h
      by_cases c : j = n
      · subst c
        cases hg : g j
        · rfl
        · rw [hg, if_pos rfl] at h; cases h
      · exact ih e j (by omega)
theorem yWeq {a b : Bool} (h : a = true ↔ b = true) : a = b := by cases a <;> cases b <;> simp_all
section BA
variable {L d : Nat} {hc hm h : zH} {x1 x2 x3 x4 x5 x : Int32}
theorem kWeigh {W : Nat → Nat} {N : Nat} {ob : Bool} (hN : N ≤ 5) (e : h 8 2 0 3 = nI N) (hv : ∀ k, k < N → h 8 2 1 k = nI (W k)) : ∀ (r i d : Nat) (v : Int32), i + r = N → zev L (d + r) 49 0 [some (.inr (.inl (5, 0, 0))), some (.inr (.inl (8, 2, 0))), some (.inl (nI i)), some (.inl v), some (.inl (nI (ob.toNat)))] [] h = some (some (.inl (nI (yW W ob r i v).toNat)), h)
  | 0, i, d, v, hi => by
    by_cases c : v = nI 0
    · have e1 : yW W ob 0 i v = true := decide_eq_true c
      simp (disch := first | omega | simp (disch := omega) only [nI_add, pk_mul, pk_sub, pk_div, znmod, nI_clamp, nIleT, nIleF, nIltT, nIltF, nIeqT, nIeqF, nIm1, nIm1q, zupE, zupN, vpT, nI_01, nI_11, ↓reduceIte, Option.bind_some, Option.toList_some, Option.toList_none, List.cons_append, List.nil_append, Nat.reduceAdd, Nat.reduceMul, Nat.reduceSub, Nat.reduceDiv, Nat.reduceMod, and_true, true_and, and_false, false_and, not_true_eq_false, not_false_eq_true, or_true, true_or, or_false, false_or, Int32.lt_irrefl, Int32.le_refl, e, c, e1, Bool.toNat_true, Nat.add_zero]) only [nI_add, pk_mul, pk_sub, pk_div, znmod, nI_clamp, nIleT, nIleF, nIltT, nIltF, nIeqT, nIeqF, nIm1, nIm1q, zupE, zupN, vpT, nI_01, nI_11, ↓reduceIte, Option.bind_some, Option.toList_some, Option.toList_none, List.cons_append, List.nil_append, Nat.reduceAdd, Nat.reduceMul, Nat.reduceSub, Nat.reduceDiv, Nat.reduceMod, and_true, true_and, and_false, false_and, not_true_eq_false, not_false_eq_true, or_true, true_or, or_false, false_or, Int32.lt_irrefl, Int32.le_refl, e, c, e1, Bool.toNat_true, Nat.add_zero, b49_0, b49_8, b49_12, b49_16, b49_17, b49_18, b49_29, b49_32, b49_50, b49_53, b49_58, b49_75, b49_78, b49_82, b49_83]
      rw [show yW W ob 0 i (nI 0) = true from rfl]
      rfl
    · have e1 : yW W ob 0 i v = false := decide_eq_false c
      simp (disch := first | omega | simp (disch := omega) only [nI_add, pk_mul, pk_sub, pk_div, znmod, nI_clamp, nIleT, nIleF, nIltT, nIltF, nIeqT, nIeqF, nIm1, nIm1q, zupE, zupN, vpT, nI_01, nI_11, ↓reduceIte, Option.bind_some, Option.toList_some, Option.toList_none, List.cons_append, List.nil_append, Nat.reduceAdd, Nat.reduceMul, Nat.reduceSub, Nat.reduceDiv, Nat.reduceMod, and_true, true_and, and_false, false_and, not_true_eq_false, not_false_eq_true, or_true, true_or, or_false, false_or, Int32.lt_irrefl, Int32.le_refl, e, c, e1, Bool.toNat_false, Nat.add_zero]) only [nI_add, pk_mul, pk_sub, pk_div, znmod, nI_clamp, nIleT, nIleF, nIltT, nIltF, nIeqT, nIeqF, nIm1, nIm1q, zupE, zupN, vpT, nI_01, nI_11, ↓reduceIte, Option.bind_some, Option.toList_some, Option.toList_none, List.cons_append, List.nil_append, Nat.reduceAdd, Nat.reduceMul, Nat.reduceSub, Nat.reduceDiv, Nat.reduceMod, and_true, true_and, and_false, false_and, not_true_eq_false, not_false_eq_true, or_true, true_or, or_false, false_or, Int32.lt_irrefl, Int32.le_refl, e, c, e1, Bool.toNat_false, Nat.add_zero, b49_0, b49_8, b49_12, b49_16, b49_17, b49_18, b49_29, b49_32, b49_50, b49_53, b49_58, b49_75, b49_78, b49_82, b49_83]
  | r + 1, i, d, v, hi => by
    have ez : zaln L 8 2 1 = 5 := rfl
    have q1 := kWeigh (ob := ob) hN e hv r (i + 1) d v (by omega)
    have q2 := kWeigh (ob := ob) hN e hv r (i + 1) d (v - nI (W i)) (by omega)
    have q3 := kWeigh (ob := ob) hN e hv r (i + 1) d (v + nI (W i)) (by omega)
    have w := hv i (by omega)
    rw [yW, ← Nat.add_assoc]
    refine b49_0.trans ?_
    cases c1 : yW W ob r (i + 1) v
    · cases c2 : yW W ob r (i + 1) (v - nI (W i))
      · cases ob
        · rw [Bool.toNat_false] at q1 q2
          simp (disch := first | omega | simp (disch := omega) only [nI_add, pk_mul, pk_sub, pk_div, znmod, nI_clamp, nIleT, nIleF, nIltT, nIltF, nIeqT, nIeqF, nIm1, nIm1q, zupE, zupN, vpT, nI_01, nI_11, ↓reduceIte, Option.bind_some, Option.toList_some, Option.toList_none, List.cons_append, List.nil_append, Nat.reduceAdd, Nat.reduceMul, Nat.reduceSub, Nat.reduceDiv, Nat.reduceMod, and_true, true_and, and_false, false_and, not_true_eq_false, not_false_eq_true, or_true, true_or, or_false, false_or, Int32.lt_irrefl, Int32.le_refl, e, w, ez, q1, q2, c1, c2, Bool.toNat_true, Bool.toNat_false, Bool.false_or, Bool.false_and, Bool.true_and]) only [nI_add, pk_mul, pk_sub, pk_div, znmod, nI_clamp, nIleT, nIleF, nIltT, nIltF, nIeqT, nIeqF, nIm1, nIm1q, zupE, zupN, vpT, nI_01, nI_11, ↓reduceIte, Option.bind_some, Option.toList_some, Option.toList_none, List.cons_append, List.nil_append, Nat.reduceAdd, Nat.reduceMul, Nat.reduceSub, Nat.reduceDiv, Nat.reduceMod, and_true, true_and, and_false, false_and, not_true_eq_false, not_false_eq_true, or_true, true_or, or_false, false_or, Int32.lt_irrefl, Int32.le_refl, e, w, ez, q1, q2, c1, c2, Bool.toNat_true, Bool.toNat_false, Bool.false_or, Bool.false_and, Bool.true_and, b49_8, b49_12, b49_16, b49_17, b49_18, b49_29, b49_32, b49_50, b49_53, b49_58, b49_75, b49_78, b49_82, b49_83]
        · rw [Bool.toNat_true] at q1 q2 q3
          cases c3 : yW W true r (i + 1) (v + nI (W i))
          · simp (disch := first | omega | simp (disch := omega) only [nI_add, pk_mul, pk_sub, pk_div, znmod, nI_clamp, nIleT, nIleF, nIltT, nIltF, nIeqT, nIeqF, nIm1, nIm1q, zupE, zupN, vpT, nI_01, nI_11, ↓reduceIte, Option.bind_some, Option.toList_some, Option.toList_none, List.cons_append, List.nil_append, Nat.reduceAdd, Nat.reduceMul, Nat.reduceSub, Nat.reduceDiv, Nat.reduceMod, and_true, true_and, and_false, false_and, not_true_eq_false, not_false_eq_true, or_true, true_or, or_false, false_or, Int32.lt_irrefl, Int32.le_refl, e, w, ez, q1, q2, q3, c1, c2, c3, Bool.toNat_true, Bool.toNat_false, Bool.false_or, Bool.false_and, Bool.true_and]) only [nI_add, pk_mul, pk_sub, pk_div, znmod, nI_clamp, nIleT, nIleF, nIltT, nIltF, nIeqT, nIeqF, nIm1, nIm1q, zupE, zupN, vpT, nI_01, nI_11, ↓reduceIte, Option.bind_some, Option.toList_some, Option.toList_none, List.cons_append, List.nil_append, Nat.reduceAdd, Nat.reduceMul, Nat.reduceSub, Nat.reduceDiv, Nat.reduceMod, and_true, true_and, and_false, false_and, not_true_eq_false, not_false_eq_true, or_true, true_or, or_false, false_or, Int32.lt_irrefl, Int32.le_refl, e, w, ez, q1, q2, q3, c1, c2, c3, Bool.toNat_true, Bool.toNat_false, Bool.false_or, Bool.false_and, Bool.true_and, b49_8, b49_12, b49_16, b49_17, b49_18, b49_29, b49_32, b49_50, b49_53, b49_58, b49_75, b49_78, b49_82, b49_83]
          · simp (disch := first | omega | simp (disch := omega) only [nI_add, pk_mul, pk_sub, pk_div, znmod, nI_clamp, nIleT, nIleF, nIltT, nIltF, nIeqT, nIeqF, nIm1, nIm1q, zupE, zupN, vpT, nI_01, nI_11, ↓reduceIte, Option.bind_some, Option.toList_some, Option.toList_none, List.cons_append, List.nil_append, Nat.reduceAdd, Nat.reduceMul, Nat.reduceSub, Nat.reduceDiv, Nat.reduceMod, and_true, true_and, and_false, false_and, not_true_eq_false, not_false_eq_true, or_true, true_or, or_false, false_or, Int32.lt_irrefl, Int32.le_refl, e, w, ez, q1, q2, q3, c1, c2, c3, Bool.toNat_true, Bool.toNat_false, Bool.false_or, Bool.false_and, Bool.true_and]) only [nI_add, pk_mul, pk_sub, pk_div, znmod, nI_clamp, nIleT, nIleF, nIltT, nIltF, nIeqT, nIeqF, nIm1, nIm1q, zupE, zupN, vpT, nI_01, nI_11, ↓reduceIte, Option.bind_some, Option.toList_some, Option.toList_none, List.cons_append, List.nil_append, Nat.reduceAdd, Nat.reduceMul, Nat.reduceSub, Nat.reduceDiv, Nat.reduceMod, and_true, true_and, and_false, false_and, not_true_eq_false, not_false_eq_true, or_true, true_or, or_false, false_or, Int32.lt_irrefl, Int32.le_refl, e, w, ez, q1, q2, q3, c1, c2, c3, Bool.toNat_true, Bool.toNat_false, Bool.false_or, Bool.false_and, Bool.true_and, b49_8, b49_12, b49_16, b49_17, b49_18, b49_29, b49_32, b49_50, b49_53, b49_58, b49_75, b49_78, b49_82, b49_83]
      · simp (disch := first | omega | simp (disch := omega) only [nI_add, pk_mul, pk_sub, pk_div, znmod, nI_clamp, nIleT, nIleF, nIltT, nIltF, nIeqT, nIeqF, nIm1, nIm1q, zupE, zupN, vpT, nI_01, nI_11, ↓reduceIte, Option.bind_some, Option.toList_some, Option.toList_none, List.cons_append, List.nil_append, Nat.reduceAdd, Nat.reduceMul, Nat.reduceSub, Nat.reduceDiv, Nat.reduceMod, and_true, true_and, and_false, false_and, not_true_eq_false, not_false_eq_true, or_true, true_or, or_false, false_or, Int32.lt_irrefl, Int32.le_refl, e, w, ez, q1, q2, c1, c2, Bool.toNat_true, Bool.toNat_false, Bool.false_or, Bool.true_or]) only [nI_add, pk_mul, pk_sub, pk_div, znmod, nI_clamp, nIleT, nIleF, nIltT, nIltF, nIeqT, nIeqF, nIm1, nIm1q, zupE, zupN, vpT, nI_01, nI_11, ↓reduceIte, Option.bind_some, Option.toList_some, Option.toList_none, List.cons_append, List.nil_append, Nat.reduceAdd, Nat.reduceMul, Nat.reduceSub, Nat.reduceDiv, Nat.reduceMod, and_true, true_and, and_false, false_and, not_true_eq_false, not_false_eq_true, or_true, true_or, or_false, false_or, Int32.lt_irrefl, Int32.le_refl, e, w, ez, q1, q2, c1, c2, Bool.toNat_true, Bool.toNat_false, Bool.false_or, Bool.true_or, b49_8, b49_12, b49_16, b49_17, b49_18, b49_29, b49_32, b49_50, b49_53, b49_58, b49_75, b49_78, b49_82, b49_83]
    · simp (disch := first | omega | simp (disch := omega) only [nI_add, pk_mul, pk_sub, pk_div, znmod, nI_clamp, nIleT, nIleF, nIltT, nIltF, nIeqT, nIeqF, nIm1, nIm1q, zupE, zupN, vpT, nI_01, nI_11, ↓reduceIte, Option.bind_some, Option.toList_some, Option.toList_none, List.cons_append, List.nil_append, Nat.reduceAdd, Nat.reduceMul, Nat.reduceSub, Nat.reduceDiv, Nat.reduceMod, and_true, true_and, and_false, false_and, not_true_eq_false, not_false_eq_true, or_true, true_or, or_false, false_or, Int32.lt_irrefl, Int32.le_refl, e, w, ez, q1, c1, Bool.toNat_true, Bool.toNat_false, Bool.true_or]) only [nI_add, pk_mul, pk_sub, pk_div, znmod, nI_clamp, nIleT, nIleF, nIltT, nIltF, nIeqT, nIeqF, nIm1, nIm1q, zupE, zupN, vpT, nI_01, nI_11, ↓reduceIte, Option.bind_some, Option.toList_some, Option.toList_none, List.cons_append, List.nil_append, Nat.reduceAdd, Nat.reduceMul, Nat.reduceSub, Nat.reduceDiv, Nat.reduceMod, and_true, true_and, and_false, false_and, not_true_eq_false, not_false_eq_true, or_true, true_or, or_false, false_or, Int32.lt_irrefl, Int32.le_refl, e, w, ez, q1, c1, Bool.toNat_true, Bool.toNat_false, Bool.true_or, b49_8, b49_12, b49_16, b49_17, b49_18, b49_29, b49_32, b49_50, b49_53, b49_58, b49_75, b49_78, b49_82, b49_83]
theorem y3p {k : Nat} (h : k ≤ 5) : 3 ^ k ≤ 243 := Nat.le_trans (Nat.pow_le_pow_right (by decide) h) (by decide)
theorem mWeigh {W : Nat → Nat} {N : Nat} {ob : Bool} {v : Int32} (hN : N ≤ 5) (e : h 12 0 0 57 = nI N) (hv : ∀ k, k < N → h 12 0 59 k = nI (W k)) : zev L d 265 0 [some (.inr (.inl (12, 0, 0))), some (.inl v), some (.inl (nI (ob.toNat))), none, none, none, none, none] [] h = some (some (.inl (nI (yWm W ob N v).toNat)), h) := by
  obtain ⟨_, k1, _⟩ := zinv (P := fun k (_ : Unit) => zev L d 265 5 [some (.inr (.inl (12, 0, 0))), some (.inl v), some (.inl (nI (ob.toNat))), some (.inl (nI (3^k))), some (.inl (nI k)), none, none, none] [] h) (R := fun _ _ => True) (N := N) (fun k _ hk _ => by
    refine ⟨(), b265_5.trans ?_, trivial⟩
    simp (disch := first | omega | simp (disch := omega) only [nI_add, pk_mul, pk_sub, pk_div, znmod, nI_clamp, nIleT, nIleF, nIltT, nIltF, nIeqT, nIeqF, nIm1, nIm1q, zupE, zupN, vpT, nI_01, nI_11, ↓reduceIte, Option.bind_some, Option.toList_some, Option.toList_none, List.cons_append, List.nil_append, Nat.reduceAdd, Nat.reduceMul, Nat.reduceSub, Nat.reduceDiv, Nat.reduceMod, and_true, true_and, and_false, false_and, not_true_eq_false, not_false_eq_true, or_true, true_or, or_false, false_or, Int32.lt_irrefl, Int32.le_refl, e, Nat.pow_succ]) only [nI_add, pk_mul, pk_sub, pk_div, znmod, nI_clamp, nIleT, nIleF, nIltT, nIltF, nIeqT, nIeqF, nIm1, nIm1q, zupE, zupN, vpT, nI_01, nI_11, ↓reduceIte, Option.bind_some, Option.toList_some, Option.toList_none, List.cons_append, List.nil_append, Nat.reduceAdd, Nat.reduceMul, Nat.reduceSub, Nat.reduceDiv, Nat.reduceMod, and_true, true_and, and_false, false_and, not_true_eq_false, not_false_eq_true, or_true, true_or, or_false, false_or, Int32.lt_irrefl, Int32.le_refl, e, Nat.pow_succ, b265_14]) N (Nat.le_refl _) () trivial
  have k2 := k1.trans b265_5
  simp (disch := first | omega | simp (disch := omega) only [nI_add, pk_mul, pk_sub, pk_div, znmod, nI_clamp, nIleT, nIleF, nIltT, nIltF, nIeqT, nIeqF, nIm1, nIm1q, zupE, zupN, vpT, nI_01, nI_11, ↓reduceIte, Option.bind_some, Option.toList_some, Option.toList_none, List.cons_append, List.nil_append, Nat.reduceAdd, Nat.reduceMul, Nat.reduceSub, Nat.reduceDiv, Nat.reduceMod, and_true, true_and, and_false, false_and, not_true_eq_false, not_false_eq_true, or_true, true_or, or_false, false_or, Int32.lt_irrefl, Int32.le_refl, e, Nat.pow_zero]) only [nI_add, pk_mul, pk_sub, pk_div, znmod, nI_clamp, nIleT, nIleF, nIltT, nIltF, nIeqT, nIeqF, nIm1, nIm1q, zupE, zupN, vpT, nI_01, nI_11, ↓reduceIte, Option.bind_some, Option.toList_some, Option.toList_none, List.cons_append, List.nil_append, Nat.reduceAdd, Nat.reduceMul, Nat.reduceSub, Nat.reduceDiv, Nat.reduceMod, and_true, true_and, and_false, false_and, not_true_eq_false, not_false_eq_true, or_true, true_or, or_false, false_or, Int32.lt_irrefl, Int32.le_refl, e, Nat.pow_zero, b265_24] at k2
  have h3 := y3p hN
  have body : ∀ w (s : Option zV × Option zV × Option zV), w < 3 ^ N → zev L d 265 27 [some (.inr (.inl (12, 0, 0))), some (.inl v), some (.inl (nI ob.toNat)), some (.inl (nI (3 ^ N))), some (.inl (nI w)), s.1, s.2.1, s.2.2] [] h = zev L d 265 114 [some (.inr (.inl (12, 0, 0))), some (.inl v), some (.inl (nI (ob.toNat))), some (.inl (nI (3^N))), some (.inl (nI w)), some (.inl (ysm W ob w N)), some (.inl (nI (w/3^N))), some (.inl (nI N))] [] h := by
    intro w s hw
    obtain ⟨_, j1, _⟩ := zinv (P := fun k (_ : Unit) => zev L d 265 43 [some (.inr (.inl (12, 0, 0))), some (.inl v), some (.inl (nI (ob.toNat))), some (.inl (nI (3^N))), some (.inl (nI w)), some (.inl (ysm W ob w k)), some (.inl (nI (w/3^k))), some (.inl (nI k))] [] h) (R := fun _ _ => True) (N := N) (fun k _ hk _ => by
      refine ⟨(), b265_43.trans ?_, trivial⟩
      have u := hv k hk
      have l0 : w / 3 ^ k ≤ w := Nat.div_le_self _ _
      have e3 : w / 3 ^ (k + 1) = w / 3 ^ k / 3 := by rw [Nat.pow_succ, Nat.div_div_eq_div_mul]
      have em : w / 3 ^ k - w / 3 ^ k / 3 * 3 = w / 3 ^ k % 3 := znmod
      have l1 : w / 3 ^ k % 3 < 3 := Nat.mod_lt _ (by decide)
      by_cases c1 : w / 3 ^ k % 3 = 1
      · have e4 : ysm W ob w (k + 1) = ysm W ob w k + nI (W k) := by rw [ysm, if_pos c1]
        simp (disch := first | omega | simp (disch := omega) only [nI_add, pk_mul, pk_sub, pk_div, znmod, nI_clamp, nIleT, nIleF, nIltT, nIltF, nIeqT, nIeqF, nIm1, nIm1q, zupE, zupN, vpT, nI_01, nI_11, ↓reduceIte, Option.bind_some, Option.toList_some, Option.toList_none, List.cons_append, List.nil_append, Nat.reduceAdd, Nat.reduceMul, Nat.reduceSub, Nat.reduceDiv, Nat.reduceMod, and_true, true_and, and_false, false_and, not_true_eq_false, not_false_eq_true, or_true, true_or, or_false, false_or, Int32.lt_irrefl, Int32.le_refl, e, u, e3, em, c1, e4]) only [nI_add, pk_mul, pk_sub, pk_div, znmod, nI_clamp, nIleT, nIleF, nIltT, nIltF, nIeqT, nIeqF, nIm1, nIm1q, zupE, zupN, vpT, nI_01, nI_11, ↓reduceIte, Option.bind_some, Option.toList_some, Option.toList_none, List.cons_append, List.nil_append, Nat.reduceAdd, Nat.reduceMul, Nat.reduceSub, Nat.reduceDiv, Nat.reduceMod, and_true, true_and, and_false, false_and, not_true_eq_false, not_false_eq_true, or_true, true_or, or_false, false_or, Int32.lt_irrefl, Int32.le_refl, e, u, e3, em, c1, e4, b265_52, b265_60, b265_72, b265_80, b265_84, b265_97, b265_100, b265_102]
      · by_cases c2 : w / 3 ^ k % 3 = 2
        · cases ob
          · have e4 : ysm W false w (k + 1) = nI 100000000 := by rw [ysm, if_neg c1, if_pos c2, if_neg (by decide)]
            simp (disch := first | omega | simp (disch := omega) only [nI_add, pk_mul, pk_sub, pk_div, znmod, nI_clamp, nIleT, nIleF, nIltT, nIltF, nIeqT, nIeqF, nIm1, nIm1q, zupE, zupN, vpT, nI_01, nI_11, ↓reduceIte, Option.bind_some, Option.toList_some, Option.toList_none, List.cons_append, List.nil_append, Nat.reduceAdd, Nat.reduceMul, Nat.reduceSub, Nat.reduceDiv, Nat.reduceMod, and_true, true_and, and_false, false_and, not_true_eq_false, not_false_eq_true, or_true, true_or, or_false, false_or, Int32.lt_irrefl, Int32.le_refl, e, u, e3, em, c2, e4, Bool.toNat_false]) only [nI_add, pk_mul, pk_sub, pk_div, znmod, nI_clamp, nIleT, nIleF, nIltT, nIltF, nIeqT, nIeqF, nIm1, nIm1q, zupE, zupN, vpT, nI_01, nI_11, ↓reduceIte, Option.bind_some, Option.toList_some, Option.toList_none, List.cons_append, List.nil_append, Nat.reduceAdd, Nat.reduceMul, Nat.reduceSub, Nat.reduceDiv, Nat.reduceMod, and_true, true_and, and_false, false_and, not_true_eq_false, not_false_eq_true, or_true, true_or, or_false, false_or, Int32.lt_irrefl, Int32.le_refl, e, u, e3, em, c2, e4, Bool.toNat_false, b265_52, b265_60, b265_72, b265_80, b265_84, b265_97, b265_100, b265_102]
          · have e4 : ysm W true w (k + 1) = ysm W true w k - nI (W k) := by rw [ysm, if_neg c1, if_pos c2, if_pos rfl]
            simp (disch := first | omega | simp (disch := omega) only [nI_add, pk_mul, pk_sub, pk_div, znmod, nI_clamp, nIleT, nIleF, nIltT, nIltF, nIeqT, nIeqF, nIm1, nIm1q, zupE, zupN, vpT, nI_01, nI_11, ↓reduceIte, Option.bind_some, Option.toList_some, Option.toList_none, List.cons_append, List.nil_append, Nat.reduceAdd, Nat.reduceMul, Nat.reduceSub, Nat.reduceDiv, Nat.reduceMod, and_true, true_and, and_false, false_and, not_true_eq_false, not_false_eq_true, or_true, true_or, or_false, false_or, Int32.lt_irrefl, Int32.le_refl, e, u, e3, em, c2, e4, Bool.toNat_true]) only [nI_add, pk_mul, pk_sub, pk_div, znmod, nI_clamp, nIleT, nIleF, nIltT, nIltF, nIeqT, nIeqF, nIm1, nIm1q, zupE, zupN, vpT, nI_01, nI_11, ↓reduceIte, Option.bind_some, Option.toList_some, Option.toList_none, List.cons_append, List.nil_append, Nat.reduceAdd, Nat.reduceMul, Nat.reduceSub, Nat.reduceDiv, Nat.reduceMod, and_true, true_and, and_false, false_and, not_true_eq_false, not_false_eq_true, or_true, true_or, or_false, false_or, Int32.lt_irrefl, Int32.le_refl, e, u, e3, em, c2, e4, Bool.toNat_true, b265_52, b265_60, b265_72, b265_80, b265_84, b265_97, b265_100, b265_102]
        · have e4 : ysm W ob w (k + 1) = ysm W ob w k := by rw [ysm, if_neg c1, if_neg c2]
          simp (disch := first | omega | simp (disch := omega) only [nI_add, pk_mul, pk_sub, pk_div, znmod, nI_clamp, nIleT, nIleF, nIltT, nIltF, nIeqT, nIeqF, nIm1, nIm1q, zupE, zupN, vpT, nI_01, nI_11, ↓reduceIte, Option.bind_some, Option.toList_some, Option.toList_none, List.cons_append, List.nil_append, Nat.reduceAdd, Nat.reduceMul, Nat.reduceSub, Nat.reduceDiv, Nat.reduceMod, and_true, true_and, and_false, false_and, not_true_eq_false, not_false_eq_true, or_true, true_or, or_false, false_or, Int32.lt_irrefl, Int32.le_refl, e, u, e3, em, e4]) only [nI_add, pk_mul, pk_sub, pk_div, znmod, nI_clamp, nIleT, nIleF, nIltT, nIltF, nIeqT, nIeqF, nIm1, nIm1q, zupE, zupN, vpT, nI_01, nI_11, ↓reduceIte, Option.bind_some, Option.toList_some, Option.toList_none, List.cons_append, List.nil_append, Nat.reduceAdd, Nat.reduceMul, Nat.reduceSub, Nat.reduceDiv, Nat.reduceMod, and_true, true_and, and_false, false_and, not_true_eq_false, not_false_eq_true, or_true, true_or, or_false, false_or, Int32.lt_irrefl, Int32.le_refl, e, u, e3, em, e4, b265_52, b265_60, b265_72, b265_80, b265_84, b265_97, b265_100, b265_102]) N (Nat.le_refl _) () trivial
    have j2 := j1.trans b265_43
    have e0 : ysm W ob w 0 = nI 0 := rfl
    simp (disch := first | omega | simp (disch := omega) only [nI_add, pk_mul, pk_sub, pk_div, znmod, nI_clamp, nIleT, nIleF, nIltT, nIltF, nIeqT, nIeqF, nIm1, nIm1q, zupE, zupN, vpT, nI_01, nI_11, ↓reduceIte, Option.bind_some, Option.toList_some, Option.toList_none, List.cons_append, List.nil_append, Nat.reduceAdd, Nat.reduceMul, Nat.reduceSub, Nat.reduceDiv, Nat.reduceMod, and_true, true_and, and_false, false_and, not_true_eq_false, not_false_eq_true, or_true, true_or, or_false, false_or, Int32.lt_irrefl, Int32.le_refl, e, e0, Nat.pow_zero, Nat.div_one]) only [nI_add, pk_mul, pk_sub, pk_div, znmod, nI_clamp, nIleT, nIleF, nIltT, nIltF, nIeqT, nIeqF, nIm1, nIm1q, zupE, zupN, vpT, nI_01, nI_11, ↓reduceIte, Option.bind_some, Option.toList_some, Option.toList_none, List.cons_append, List.nil_append, Nat.reduceAdd, Nat.reduceMul, Nat.reduceSub, Nat.reduceDiv, Nat.reduceMod, and_true, true_and, and_false, false_and, not_true_eq_false, not_false_eq_true, or_true, true_or, or_false, false_or, Int32.lt_irrefl, Int32.le_refl, e, e0, Nat.pow_zero, Nat.div_one] at j2
    refine b265_27.trans ?_
    simp (disch := first | omega | simp (disch := omega) only [nI_add, pk_mul, pk_sub, pk_div, znmod, nI_clamp, nIleT, nIleF, nIltT, nIltF, nIeqT, nIeqF, nIm1, nIm1q, zupE, zupN, vpT, nI_01, nI_11, ↓reduceIte, Option.bind_some, Option.toList_some, Option.toList_none, List.cons_append, List.nil_append, Nat.reduceAdd, Nat.reduceMul, Nat.reduceSub, Nat.reduceDiv, Nat.reduceMod, and_true, true_and, and_false, false_and, not_true_eq_false, not_false_eq_true, or_true, true_or, or_false, false_or, Int32.lt_irrefl, Int32.le_refl, j2]) only [nI_add, pk_mul, pk_sub, pk_div, znmod, nI_clamp, nIleT, nIleF, nIltT, nIltF, nIeqT, nIeqF, nIm1, nIm1q, zupE, zupN, vpT, nI_01, nI_11, ↓reduceIte, Option.bind_some, Option.toList_some, Option.toList_none, List.cons_append, List.nil_append, Nat.reduceAdd, Nat.reduceMul, Nat.reduceSub, Nat.reduceDiv, Nat.reduceMod, and_true, true_and, and_false, false_and, not_true_eq_false, not_false_eq_true, or_true, true_or, or_false, false_or, Int32.lt_irrefl, Int32.le_refl, j2, b265_33]
  have ml := zfirstS (P := fun w (s : Option zV × Option zV × Option zV) => zev L d 265 27 [some (.inr (.inl (12, 0, 0))), some (.inl v), some (.inl (nI ob.toNat)), some (.inl (nI (3 ^ N))), some (.inl (nI w)), s.1, s.2.1, s.2.2] [] h)
    (r := fun _ => some (some (.inl (nI 1)), h)) (N := 3 ^ N) (fun w => decide (ysm W ob w N = v)) (fun w s hw hg => by
      have hg := of_decide_eq_true hg
      refine (body w s hw).trans ?_
      simp (disch := first | omega | simp (disch := omega) only [nI_add, pk_mul, pk_sub, pk_div, znmod, nI_clamp, nIleT, nIleF, nIltT, nIltF, nIeqT, nIeqF, nIm1, nIm1q, zupE, zupN, vpT, nI_01, nI_11, ↓reduceIte, Option.bind_some, Option.toList_some, Option.toList_none, List.cons_append, List.nil_append, Nat.reduceAdd, Nat.reduceMul, Nat.reduceSub, Nat.reduceDiv, Nat.reduceMod, and_true, true_and, and_false, false_and, not_true_eq_false, not_false_eq_true, or_true, true_or, or_false, false_or, Int32.lt_irrefl, Int32.le_refl, hg]) only [nI_add, pk_mul, pk_sub, pk_div, znmod, nI_clamp, nIleT, nIleF, nIltT, nIltF, nIeqT, nIeqF, nIm1, nIm1q, zupE, zupN, vpT, nI_01, nI_11, ↓reduceIte, Option.bind_some, Option.toList_some, Option.toList_none, List.cons_append, List.nil_append, Nat.reduceAdd, Nat.reduceMul, Nat.reduceSub, Nat.reduceDiv, Nat.reduceMod, and_true, true_and, and_false, false_and, not_true_eq_false, not_false_eq_true, or_true, true_or, or_false, false_or, Int32.lt_irrefl, Int32.le_refl, hg, b265_114, b265_120, b265_122]) (fun w s hw hg => by
      have hg := of_decide_eq_false hg
      refine ⟨(some (.inl (ysm W ob w N)), some (.inl (nI (w / 3 ^ N))), some (.inl (nI N))), (body w s hw).trans ?_⟩
      simp (disch := first | omega | simp (disch := omega) only [nI_add, pk_mul, pk_sub, pk_div, znmod, nI_clamp, nIleT, nIleF, nIltT, nIltF, nIeqT, nIeqF, nIm1, nIm1q, zupE, zupN, vpT, nI_01, nI_11, ↓reduceIte, Option.bind_some, Option.toList_some, Option.toList_none, List.cons_append, List.nil_append, Nat.reduceAdd, Nat.reduceMul, Nat.reduceSub, Nat.reduceDiv, Nat.reduceMod, and_true, true_and, and_false, false_and, not_true_eq_false, not_false_eq_true, or_true, true_or, or_false, false_or, Int32.lt_irrefl, Int32.le_refl, hg]) only [nI_add, pk_mul, pk_sub, pk_div, znmod, nI_clamp, nIleT, nIleF, nIltT, nIltF, nIeqT, nIeqF, nIm1, nIm1q, zupE, zupN, vpT, nI_01, nI_11, ↓reduceIte, Option.bind_some, Option.toList_some, Option.toList_none, List.cons_append, List.nil_append, Nat.reduceAdd, Nat.reduceMul, Nat.reduceSub, Nat.reduceDiv, Nat.reduceMod, and_true, true_and, and_false, false_and, not_true_eq_false, not_false_eq_true, or_true, true_or, or_false, false_or, Int32.lt_irrefl, Int32.le_refl, hg, b265_114, b265_120, b265_122]) (none, none, none) (3 ^ N) (Nat.le_refl _)
  cases hf : zfst (fun w => decide (ysm W ob w N = v)) (3 ^ N) with
  | some j =>
    rw [hf] at ml
    obtain ⟨l1, l2⟩ := zfst_lt hf
    have e1 : yWm W ob N v = true := yWm_E.2 ⟨j, l1, of_decide_eq_true l2⟩
    rw [e1, b265_0, k2]
    exact ml
  | none =>
    rw [hf] at ml
    obtain ⟨s, ml⟩ := ml
    have e1 : yWm W ob N v = false := by
      cases hz : yWm W ob N v
      · rfl
      · obtain ⟨w, hw, ew⟩ := yWm_E.1 hz
        have := zfst_none hf w hw
        simp [ew] at this
    have m2 := ml.trans b265_27
    simp (disch := first | omega | simp (disch := omega) only [nI_add, pk_mul, pk_sub, pk_div, znmod, nI_clamp, nIleT, nIleF, nIltT, nIltF, nIeqT, nIeqF, nIm1, nIm1q, zupE, zupN, vpT, nI_01, nI_11, ↓reduceIte, Option.bind_some, Option.toList_some, Option.toList_none, List.cons_append, List.nil_append, Nat.reduceAdd, Nat.reduceMul, Nat.reduceSub, Nat.reduceDiv, Nat.reduceMod, and_true, true_and, and_false, false_and, not_true_eq_false, not_false_eq_true, or_true, true_or, or_false, false_or, Int32.lt_irrefl, Int32.le_refl]) only [nI_add, pk_mul, pk_sub, pk_div, znmod, nI_clamp, nIleT, nIleF, nIltT, nIltF, nIeqT, nIeqF, nIm1, nIm1q, zupE, zupN, vpT, nI_01, nI_11, ↓reduceIte, Option.bind_some, Option.toList_some, Option.toList_none, List.cons_append, List.nil_append, Nat.reduceAdd, Nat.reduceMul, Nat.reduceSub, Nat.reduceDiv, Nat.reduceMod, and_true, true_and, and_false, false_and, not_true_eq_false, not_false_eq_true, or_true, true_or, or_false, false_or, Int32.lt_irrefl, Int32.le_refl, b265_128] at m2
    rw [e1, b265_0, k2]
    exact m2
theorem o_balance (R : Rel hc hm) : zS2 (zev L (d + 20) 141 0 [some (.inr (.inl (11, 0, 0))), some (.inl x1), some (.inl x2)] [] hc) (zev L (d + 20) 266 0 [some (.inr (.inl (12, 0, 0))), some (.inl x1), some (.inl x2), none] [] hm) Rel := by
  have R' := R
  obtain ⟨P, H, ⟨rM, rp, rb, rl, rf, rh, rk, r0, r1, r2, r3, r4⟩, ra, rt, re, ri, rs⟩ := R
  obtain ⟨N, hN, ec, ed, hv⟩ := id r2
  obtain ⟨W, hW⟩ : ∃ W : Nat → Nat, (∀ r, W r ≤ 200) ∧ ∀ r, r < N → hc 8 2 1 r = nI (W r) ∧ hm 12 0 59 r = nI (W r) := by
    refine ⟨fun r => if r < N then (hc 8 2 1 r).toNatClampNeg else 0, fun r => ?_, fun r hr => ?_⟩
    · by_cases c : r < N
      · obtain ⟨e, a, h1, h2, e2⟩ := hv r c
        simp only [if_pos c]
        rw [e2, nI_clamp (by omega)]; exact h2
      · simp only [if_neg c]; omega
    · obtain ⟨e, a, h1, h2, e2⟩ := hv r hr
      simp only [if_pos hr]
      rw [e, e2, nI_clamp (by omega)]
      exact ⟨rfl, rfl⟩
  have hW5 : ∀ j, j < 5 → W j ≤ 200 := fun j _ => hW.1 j
  have kt := fun d v => kWeigh (L := L) (h := hc) (W := W) (ob := true) hN ec (fun k hk => (hW.2 k hk).1) N 0 d v (by omega)
  have kf := fun d v => kWeigh (L := L) (h := hc) (W := W) (ob := false) hN ec (fun k hk => (hW.2 k hk).1) N 0 d v (by omega)
  have mt := fun d v => mWeigh (L := L) (d := d) (h := zup hm 12 0 0 0 (nI 0)) (W := W) (ob := true) (v := v) hN (by simp (disch := first | omega | simp (disch := omega) only [nI_add, pk_mul, pk_sub, pk_div, znmod, nI_clamp, nIleT, nIleF, nIltT, nIltF, nIeqT, nIeqF, nIm1, nIm1q, zupE, zupN, vpT, nI_01, nI_11, ↓reduceIte, Option.bind_some, Option.toList_some, Option.toList_none, List.cons_append, List.nil_append, Nat.reduceAdd, Nat.reduceMul, Nat.reduceSub, Nat.reduceDiv, Nat.reduceMod, and_true, true_and, and_false, false_and, not_true_eq_false, not_false_eq_true, or_true, true_or, or_false, false_or, Int32.lt_irrefl, Int32.le_refl]) only [nI_add, pk_mul, pk_sub, pk_div, znmod, nI_clamp, nIleT, nIleF, nIltT, nIltF, nIeqT, nIeqF, nIm1, nIm1q, zupE, zupN, vpT, nI_01, nI_11, ↓reduceIte, Option.bind_some, Option.toList_some, Option.toList_none, List.cons_append, List.nil_append, Nat.reduceAdd, Nat.reduceMul, Nat.reduceSub, Nat.reduceDiv, Nat.reduceMod, and_true, true_and, and_false, false_and, not_true_eq_false, not_false_eq_true, or_true, true_or, or_false, false_or, Int32.lt_irrefl, Int32.le_refl]; exact ed) (by simp (disch := first | omega | simp (disch := omega) only [nI_add, pk_mul, pk_sub, pk_div, znmod, nI_clamp, nIleT, nIleF, nIltT, nIltF, nIeqT, nIeqF, nIm1, nIm1q, zupE, zupN, vpT, nI_01, nI_11, ↓reduceIte, Option.bind_some, Option.toList_some, Option.toList_none, List.cons_append, List.nil_append, Nat.reduceAdd, Nat.reduceMul, Nat.reduceSub, Nat.reduceDiv, Nat.reduceMod, and_true, true_and, and_false, false_and, not_true_eq_false, not_false_eq_true, or_true, true_or, or_false, false_or, Int32.lt_irrefl, Int32.le_refl]) only [nI_add, pk_mul, pk_sub, pk_div, znmod, nI_clamp, nIleT, nIleF, nIltT, nIltF, nIeqT, nIeqF, nIm1, nIm1q, zupE, zupN, vpT, nI_01, nI_11, ↓reduceIte, Option.bind_some, Option.toList_some, Option.toList_none, List.cons_append, List.nil_append, Nat.reduceAdd, Nat.reduceMul, Nat.reduceSub, Nat.reduceDiv, Nat.reduceMod, and_true, true_and, and_false, false_and, not_true_eq_false, not_false_eq_true, or_true, true_or, or_false, false_or, Int32.lt_irrefl, Int32.le_refl]; exact fun k hk => (hW.2 k hk).2)
  have mf := fun d v => mWeigh (L := L) (d := d) (h := zup hm 12 0 0 0 (nI 0)) (W := W) (ob := false) (v := v) hN (by simp (disch := first | omega | simp (disch := omega) only [nI_add, pk_mul, pk_sub, pk_div, znmod, nI_clamp, nIleT, nIleF, nIltT, nIltF, nIeqT, nIeqF, nIm1, nIm1q, zupE, zupN, vpT, nI_01, nI_11, ↓reduceIte, Option.bind_some, Option.toList_some, Option.toList_none, List.cons_append, List.nil_append, Nat.reduceAdd, Nat.reduceMul, Nat.reduceSub, Nat.reduceDiv, Nat.reduceMod, and_true, true_and, and_false, false_and, not_true_eq_false, not_false_eq_true, or_true, true_or, or_false, false_or, Int32.lt_irrefl, Int32.le_refl]) only [nI_add, pk_mul, pk_sub, pk_div, znmod, nI_clamp, nIleT, nIleF, nIltT, nIltF, nIeqT, nIeqF, nIm1, nIm1q, zupE, zupN, vpT, nI_01, nI_11, ↓reduceIte, Option.bind_some, Option.toList_some, Option.toList_none, List.cons_append, List.nil_append, Nat.reduceAdd, Nat.reduceMul, Nat.reduceSub, Nat.reduceDiv, Nat.reduceMod, and_true, true_and, and_false, false_and, not_true_eq_false, not_false_eq_true, or_true, true_or, or_false, false_or, Int32.lt_irrefl, Int32.le_refl]; exact ed) (by simp (disch := first | omega | simp (disch := omega) only [nI_add, pk_mul, pk_sub, pk_div, znmod, nI_clamp, nIleT, nIleF, nIltT, nIltF, nIeqT, nIeqF, nIm1, nIm1q, zupE, zupN, vpT, nI_01, nI_11, ↓reduceIte, Option.bind_some, Option.toList_some, Option.toList_none, List.cons_append, List.nil_append, Nat.reduceAdd, Nat.reduceMul, Nat.reduceSub, Nat.reduceDiv, Nat.reduceMod, and_true, true_and, and_false, false_and, not_true_eq_false, not_false_eq_true, or_true, true_or, or_false, false_or, Int32.lt_irrefl, Int32.le_refl]) only [nI_add, pk_mul, pk_sub, pk_div, znmod, nI_clamp, nIleT, nIleF, nIltT, nIltF, nIeqT, nIeqF, nIm1, nIm1q, zupE, zupN, vpT, nI_01, nI_11, ↓reduceIte, Option.bind_some, Option.toList_some, Option.toList_none, List.cons_append, List.nil_append, Nat.reduceAdd, Nat.reduceMul, Nat.reduceSub, Nat.reduceDiv, Nat.reduceMod, and_true, true_and, and_false, false_and, not_true_eq_false, not_false_eq_true, or_true, true_or, or_false, false_or, Int32.lt_irrefl, Int32.le_refl]; exact fun k hk => (hW.2 k hk).2)
  rw [Bool.toNat_true] at kt mt
  rw [Bool.toNat_false] at kf mf
  have eqt : ∀ v, yW W true N 0 v = yWm W true N v := fun v => yWeq ((yW_E N v).trans yWm_E.symm)
  have kt19 := fun v => kt (d + 19 - N) v
  have kf19 := fun v => kf (d + 19 - N) v
  have kt18 := fun v => kt (d + 18 - N) v
  have e19 : d + 19 - N + N = d + 19 := by omega
  have e18 : d + 18 - N + N = d + 18 := by omega
  rw [e19] at kt19 kf19
  rw [e18] at kt18
  by_cases h2 : x2 = nI 2
  · subst h2
    have key := zsimX (P := fun j (_ : Unit) => zev L (d + 19) 50 2 [some (.inr (.inl (5, 0, 0))), some (.inr (.inl (8, 2, 0))), some (.inl (nI (j+1)))] [] hc) (Q := fun j (_ : Unit) => zev L (d + 19 + 1) 266 12 [some (.inr (.inl (12, 0, 0))), some (.inl x1), some (.inl (nI 2)), some (.inl (nI j))] [] (zup hm 12 0 0 0 (nI 0))) (R := fun _ _ _ => True) (E := fun c m => ∃ v, c = some (some (.inl v), hc) ∧ m = some (some (.inl v), zup hm 12 0 0 0 (nI 0))) (N := 1000) (fun j _ _ hj _ => by
      rw [b50_2, b266_12]
      have q := eqt (nI (j + 1))
      cases hz : yWm W true N (nI (j + 1))
      · refine Or.inl ?_
        simp (disch := first | omega | simp (disch := omega) only [nI_add, pk_mul, pk_sub, pk_div, znmod, nI_clamp, nIleT, nIleF, nIltT, nIltF, nIeqT, nIeqF, nIm1, nIm1q, zupE, zupN, vpT, nI_01, nI_11, ↓reduceIte, Option.bind_some, Option.toList_some, Option.toList_none, List.cons_append, List.nil_append, Nat.reduceAdd, Nat.reduceMul, Nat.reduceSub, Nat.reduceDiv, Nat.reduceMod, and_true, true_and, and_false, false_and, not_true_eq_false, not_false_eq_true, or_true, true_or, or_false, false_or, Int32.lt_irrefl, Int32.le_refl, kt18, mt, q, hz, Bool.toNat_false]) only [nI_add, pk_mul, pk_sub, pk_div, znmod, nI_clamp, nIleT, nIleF, nIltT, nIltF, nIeqT, nIeqF, nIm1, nIm1q, zupE, zupN, vpT, nI_01, nI_11, ↓reduceIte, Option.bind_some, Option.toList_some, Option.toList_none, List.cons_append, List.nil_append, Nat.reduceAdd, Nat.reduceMul, Nat.reduceSub, Nat.reduceDiv, Nat.reduceMod, and_true, true_and, and_false, false_and, not_true_eq_false, not_false_eq_true, or_true, true_or, or_false, false_or, Int32.lt_irrefl, Int32.le_refl, kt18, mt, q, hz, Bool.toNat_false, b50_9, b50_17, b50_20, b50_24, b50_30, b266_0, b266_5, b266_10, b266_20, b266_23, b266_30, b266_32, b266_41, b266_44, b266_51, b266_54, b266_56, b266_62, b266_66, b266_67, b266_70, b266_73, b266_77, b266_78]
        exact ⟨_, rfl, rfl⟩
      · refine Or.inr ⟨(), (), ?_, ?_, trivial⟩
        · simp (disch := first | omega | simp (disch := omega) only [nI_add, pk_mul, pk_sub, pk_div, znmod, nI_clamp, nIleT, nIleF, nIltT, nIltF, nIeqT, nIeqF, nIm1, nIm1q, zupE, zupN, vpT, nI_01, nI_11, ↓reduceIte, Option.bind_some, Option.toList_some, Option.toList_none, List.cons_append, List.nil_append, Nat.reduceAdd, Nat.reduceMul, Nat.reduceSub, Nat.reduceDiv, Nat.reduceMod, and_true, true_and, and_false, false_and, not_true_eq_false, not_false_eq_true, or_true, true_or, or_false, false_or, Int32.lt_irrefl, Int32.le_refl, kt18, q, hz, Bool.toNat_true]) only [nI_add, pk_mul, pk_sub, pk_div, znmod, nI_clamp, nIleT, nIleF, nIltT, nIltF, nIeqT, nIeqF, nIm1, nIm1q, zupE, zupN, vpT, nI_01, nI_11, ↓reduceIte, Option.bind_some, Option.toList_some, Option.toList_none, List.cons_append, List.nil_append, Nat.reduceAdd, Nat.reduceMul, Nat.reduceSub, Nat.reduceDiv, Nat.reduceMod, and_true, true_and, and_false, false_and, not_true_eq_false, not_false_eq_true, or_true, true_or, or_false, false_or, Int32.lt_irrefl, Int32.le_refl, kt18, q, hz, Bool.toNat_true, b50_9, b50_17, b50_20, b50_24, b50_30]
        · simp (disch := first | omega | simp (disch := omega) only [nI_add, pk_mul, pk_sub, pk_div, znmod, nI_clamp, nIleT, nIleF, nIltT, nIltF, nIeqT, nIeqF, nIm1, nIm1q, zupE, zupN, vpT, nI_01, nI_11, ↓reduceIte, Option.bind_some, Option.toList_some, Option.toList_none, List.cons_append, List.nil_append, Nat.reduceAdd, Nat.reduceMul, Nat.reduceSub, Nat.reduceDiv, Nat.reduceMod, and_true, true_and, and_false, false_and, not_true_eq_false, not_false_eq_true, or_true, true_or, or_false, false_or, Int32.lt_irrefl, Int32.le_refl, mt, hz, Bool.toNat_true]) only [nI_add, pk_mul, pk_sub, pk_div, znmod, nI_clamp, nIleT, nIleF, nIltT, nIltF, nIeqT, nIeqF, nIm1, nIm1q, zupE, zupN, vpT, nI_01, nI_11, ↓reduceIte, Option.bind_some, Option.toList_some, Option.toList_none, List.cons_append, List.nil_append, Nat.reduceAdd, Nat.reduceMul, Nat.reduceSub, Nat.reduceDiv, Nat.reduceMod, and_true, true_and, and_false, false_and, not_true_eq_false, not_false_eq_true, or_true, true_or, or_false, false_or, Int32.lt_irrefl, Int32.le_refl, mt, hz, Bool.toNat_true, b266_20, b266_23]) 1000 (Nat.le_refl _) () () trivial
    rcases key with ⟨v, q1, q2⟩ | ⟨_, _, q1, q2, _⟩
    · simp (disch := first | omega | simp (disch := omega) only [nI_add, pk_mul, pk_sub, pk_div, znmod, nI_clamp, nIleT, nIleF, nIltT, nIltF, nIeqT, nIeqF, nIm1, nIm1q, zupE, zupN, vpT, nI_01, nI_11, ↓reduceIte, Option.bind_some, Option.toList_some, Option.toList_none, List.cons_append, List.nil_append, Nat.reduceAdd, Nat.reduceMul, Nat.reduceSub, Nat.reduceDiv, Nat.reduceMod, and_true, true_and, and_false, false_and, not_true_eq_false, not_false_eq_true, or_true, true_or, or_false, false_or, Int32.lt_irrefl, Int32.le_refl]) only [nI_add, pk_mul, pk_sub, pk_div, znmod, nI_clamp, nIleT, nIleF, nIltT, nIltF, nIeqT, nIeqF, nIm1, nIm1q, zupE, zupN, vpT, nI_01, nI_11, ↓reduceIte, Option.bind_some, Option.toList_some, Option.toList_none, List.cons_append, List.nil_append, Nat.reduceAdd, Nat.reduceMul, Nat.reduceSub, Nat.reduceDiv, Nat.reduceMod, and_true, true_and, and_false, false_and, not_true_eq_false, not_false_eq_true, or_true, true_or, or_false, false_or, Int32.lt_irrefl, Int32.le_refl] at q1 q2
      simp (disch := first | omega | simp (disch := omega) only [nI_add, pk_mul, pk_sub, pk_div, znmod, nI_clamp, nIleT, nIleF, nIltT, nIltF, nIeqT, nIeqF, nIm1, nIm1q, zupE, zupN, vpT, nI_01, nI_11, ↓reduceIte, Option.bind_some, Option.toList_some, Option.toList_none, List.cons_append, List.nil_append, Nat.reduceAdd, Nat.reduceMul, Nat.reduceSub, Nat.reduceDiv, Nat.reduceMod, and_true, true_and, and_false, false_and, not_true_eq_false, not_false_eq_true, or_true, true_or, or_false, false_or, Int32.lt_irrefl, Int32.le_refl, q1, q2]) only [nI_add, pk_mul, pk_sub, pk_div, znmod, nI_clamp, nIleT, nIleF, nIltT, nIltF, nIeqT, nIeqF, nIm1, nIm1q, zupE, zupN, vpT, nI_01, nI_11, ↓reduceIte, Option.bind_some, Option.toList_some, Option.toList_none, List.cons_append, List.nil_append, Nat.reduceAdd, Nat.reduceMul, Nat.reduceSub, Nat.reduceDiv, Nat.reduceMod, and_true, true_and, and_false, false_and, not_true_eq_false, not_false_eq_true, or_true, true_or, or_false, false_or, Int32.lt_irrefl, Int32.le_refl, q1, q2, b141_0, b141_5, b141_19, b141_20, b141_26, b141_29, b141_37, b141_40, b141_42, b141_59, b141_63, b141_64, b141_67, b141_70, b141_74, b141_75, b50_0, b50_9, b50_17, b50_20, b50_24, b50_30, b266_0, b266_5, b266_10, b266_20, b266_23, b266_30, b266_32, b266_41, b266_44, b266_51, b266_54, b266_56, b266_62, b266_66, b266_67, b266_70, b266_73, b266_77, b266_78]
      exact zS2_no R'
    · have q3 := q1.trans b50_2
      have q4 := q2.trans b266_12
      have hz : yWm W true N (nI 1001) = false := by
        cases hz : yWm W true N (nI 1001)
        · rfl
        · exact absurd (yWm_E.1 hz) (yE_1001 hW5 hN)
      simp (disch := first | omega | simp (disch := omega) only [nI_add, pk_mul, pk_sub, pk_div, znmod, nI_clamp, nIleT, nIleF, nIltT, nIltF, nIeqT, nIeqF, nIm1, nIm1q, zupE, zupN, vpT, nI_01, nI_11, ↓reduceIte, Option.bind_some, Option.toList_some, Option.toList_none, List.cons_append, List.nil_append, Nat.reduceAdd, Nat.reduceMul, Nat.reduceSub, Nat.reduceDiv, Nat.reduceMod, and_true, true_and, and_false, false_and, not_true_eq_false, not_false_eq_true, or_true, true_or, or_false, false_or, Int32.lt_irrefl, Int32.le_refl, mt, hz, Bool.toNat_false]) only [nI_add, pk_mul, pk_sub, pk_div, znmod, nI_clamp, nIleT, nIleF, nIltT, nIltF, nIeqT, nIeqF, nIm1, nIm1q, zupE, zupN, vpT, nI_01, nI_11, ↓reduceIte, Option.bind_some, Option.toList_some, Option.toList_none, List.cons_append, List.nil_append, Nat.reduceAdd, Nat.reduceMul, Nat.reduceSub, Nat.reduceDiv, Nat.reduceMod, and_true, true_and, and_false, false_and, not_true_eq_false, not_false_eq_true, or_true, true_or, or_false, false_or, Int32.lt_irrefl, Int32.le_refl, mt, hz, Bool.toNat_false, b50_9, b50_17, b50_20, b50_24, b50_30, b266_20, b266_30] at q3 q4
      simp (disch := first | omega | simp (disch := omega) only [nI_add, pk_mul, pk_sub, pk_div, znmod, nI_clamp, nIleT, nIleF, nIltT, nIltF, nIeqT, nIeqF, nIm1, nIm1q, zupE, zupN, vpT, nI_01, nI_11, ↓reduceIte, Option.bind_some, Option.toList_some, Option.toList_none, List.cons_append, List.nil_append, Nat.reduceAdd, Nat.reduceMul, Nat.reduceSub, Nat.reduceDiv, Nat.reduceMod, and_true, true_and, and_false, false_and, not_true_eq_false, not_false_eq_true, or_true, true_or, or_false, false_or, Int32.lt_irrefl, Int32.le_refl, q3, q4]) only [nI_add, pk_mul, pk_sub, pk_div, znmod, nI_clamp, nIleT, nIleF, nIltT, nIltF, nIeqT, nIeqF, nIm1, nIm1q, zupE, zupN, vpT, nI_01, nI_11, ↓reduceIte, Option.bind_some, Option.toList_some, Option.toList_none, List.cons_append, List.nil_append, Nat.reduceAdd, Nat.reduceMul, Nat.reduceSub, Nat.reduceDiv, Nat.reduceMod, and_true, true_and, and_false, false_and, not_true_eq_false, not_false_eq_true, or_true, true_or, or_false, false_or, Int32.lt_irrefl, Int32.le_refl, q3, q4, b141_0, b141_5, b141_19, b141_20, b141_26, b141_29, b141_37, b141_40, b141_42, b141_59, b141_63, b141_64, b141_67, b141_70, b141_74, b141_75, b50_0, b50_9, b50_17, b50_20, b50_24, b50_30, b266_0, b266_5, b266_10, b266_20, b266_23, b266_30, b266_32, b266_41, b266_44, b266_51, b266_54, b266_56, b266_62, b266_66, b266_67, b266_70, b266_73, b266_77, b266_78]
      exact zS2_no R'
  · rcases zarg x1 1000 (by omega) with ⟨v, hv, rfl⟩ | q1
    · rcases zarg x2 1 (by omega) with ⟨w, hw, rfl⟩ | q2
      · have : w = 0 ∨ w = 1 := by omega
        rcases this with rfl | rfl
        · have q := eqt (nI v)
          cases hz : yWm W true N (nI v)
          · simp (disch := first | omega | simp (disch := omega) only [nI_add, pk_mul, pk_sub, pk_div, znmod, nI_clamp, nIleT, nIleF, nIltT, nIltF, nIeqT, nIeqF, nIm1, nIm1q, zupE, zupN, vpT, nI_01, nI_11, ↓reduceIte, Option.bind_some, Option.toList_some, Option.toList_none, List.cons_append, List.nil_append, Nat.reduceAdd, Nat.reduceMul, Nat.reduceSub, Nat.reduceDiv, Nat.reduceMod, and_true, true_and, and_false, false_and, not_true_eq_false, not_false_eq_true, or_true, true_or, or_false, false_or, Int32.lt_irrefl, Int32.le_refl, kw, mIn, kt19, mt, q, hz, Bool.toNat_false]) only [nI_add, pk_mul, pk_sub, pk_div, znmod, nI_clamp, nIleT, nIleF, nIltT, nIltF, nIeqT, nIeqF, nIm1, nIm1q, zupE, zupN, vpT, nI_01, nI_11, ↓reduceIte, Option.bind_some, Option.toList_some, Option.toList_none, List.cons_append, List.nil_append, Nat.reduceAdd, Nat.reduceMul, Nat.reduceSub, Nat.reduceDiv, Nat.reduceMod, and_true, true_and, and_false, false_and, not_true_eq_false, not_false_eq_true, or_true, true_or, or_false, false_or, Int32.lt_irrefl, Int32.le_refl, kw, mIn, kt19, mt, q, hz, Bool.toNat_false, b141_0, b141_5, b141_19, b141_20, b141_26, b141_29, b141_37, b141_40, b141_42, b141_59, b141_63, b141_64, b141_67, b141_70, b141_74, b141_75, b266_0, b266_5, b266_10, b266_20, b266_23, b266_30, b266_32, b266_41, b266_44, b266_51, b266_54, b266_56, b266_62, b266_66, b266_67, b266_70, b266_73, b266_77, b266_78]
            exact zS2_no R'
          · simp (disch := first | omega | simp (disch := omega) only [nI_add, pk_mul, pk_sub, pk_div, znmod, nI_clamp, nIleT, nIleF, nIltT, nIltF, nIeqT, nIeqF, nIm1, nIm1q, zupE, zupN, vpT, nI_01, nI_11, ↓reduceIte, Option.bind_some, Option.toList_some, Option.toList_none, List.cons_append, List.nil_append, Nat.reduceAdd, Nat.reduceMul, Nat.reduceSub, Nat.reduceDiv, Nat.reduceMod, and_true, true_and, and_false, false_and, not_true_eq_false, not_false_eq_true, or_true, true_or, or_false, false_or, Int32.lt_irrefl, Int32.le_refl, kw, mIn, kt19, mt, q, hz, Bool.toNat_true]) only [nI_add, pk_mul, pk_sub, pk_div, znmod, nI_clamp, nIleT, nIleF, nIltT, nIltF, nIeqT, nIeqF, nIm1, nIm1q, zupE, zupN, vpT, nI_01, nI_11, ↓reduceIte, Option.bind_some, Option.toList_some, Option.toList_none, List.cons_append, List.nil_append, Nat.reduceAdd, Nat.reduceMul, Nat.reduceSub, Nat.reduceDiv, Nat.reduceMod, and_true, true_and, and_false, false_and, not_true_eq_false, not_false_eq_true, or_true, true_or, or_false, false_or, Int32.lt_irrefl, Int32.le_refl, kw, mIn, kt19, mt, q, hz, Bool.toNat_true, b141_0, b141_5, b141_19, b141_20, b141_26, b141_29, b141_37, b141_40, b141_42, b141_59, b141_63, b141_64, b141_67, b141_70, b141_74, b141_75, b266_0, b266_5, b266_10, b266_20, b266_23, b266_30, b266_32, b266_41, b266_44, b266_51, b266_54, b266_56, b266_62, b266_66, b266_67, b266_70, b266_73, b266_77, b266_78]
            exact zS2_no R'
        · have q : yW W false N 0 (nI v) = yWm W false N (nI v) := yWeq ((yW_F hW5 N v hN hv).trans yWm_E.symm)
          cases hz : yWm W false N (nI v)
          · simp (disch := first | omega | simp (disch := omega) only [nI_add, pk_mul, pk_sub, pk_div, znmod, nI_clamp, nIleT, nIleF, nIltT, nIltF, nIeqT, nIeqF, nIm1, nIm1q, zupE, zupN, vpT, nI_01, nI_11, ↓reduceIte, Option.bind_some, Option.toList_some, Option.toList_none, List.cons_append, List.nil_append, Nat.reduceAdd, Nat.reduceMul, Nat.reduceSub, Nat.reduceDiv, Nat.reduceMod, and_true, true_and, and_false, false_and, not_true_eq_false, not_false_eq_true, or_true, true_or, or_false, false_or, Int32.lt_irrefl, Int32.le_refl, kw, mIn, kf19, mf, q, hz, Bool.toNat_false]) only [nI_add, pk_mul, pk_sub, pk_div, znmod, nI_clamp, nIleT, nIleF, nIltT, nIltF, nIeqT, nIeqF, nIm1, nIm1q, zupE, zupN, vpT, nI_01, nI_11, ↓reduceIte, Option.bind_some, Option.toList_some, Option.toList_none, List.cons_append, List.nil_append, Nat.reduceAdd, Nat.reduceMul, Nat.reduceSub, Nat.reduceDiv, Nat.reduceMod, and_true, true_and, and_false, false_and, not_true_eq_false, not_false_eq_true, or_true, true_or, or_false, false_or, Int32.lt_irrefl, Int32.le_refl, kw, mIn, kf19, mf, q, hz, Bool.toNat_false, b141_0, b141_5, b141_19, b141_20, b141_26, b141_29, b141_37, b141_40, b141_42, b141_59, b141_63, b141_64, b141_67, b141_70, b141_74, b141_75, b266_0, b266_5, b266_10, b266_20, b266_23, b266_30, b266_32, b266_41, b266_44, b266_51, b266_54, b266_56, b266_62, b266_66, b266_67, b266_70, b266_73, b266_77, b266_78]
            exact zS2_no R'
          · simp (disch := first | omega | simp (disch := omega) only [nI_add, pk_mul, pk_sub, pk_div, znmod, nI_clamp, nIleT, nIleF, nIltT, nIltF, nIeqT, nIeqF, nIm1, nIm1q, zupE, zupN, vpT, nI_01, nI_11, ↓reduceIte, Option.bind_some, Option.toList_some, Option.toList_none, List.cons_append, List.nil_append, Nat.reduceAdd, Nat.reduceMul, Nat.reduceSub, Nat.reduceDiv, Nat.reduceMod, and_true, true_and, and_false, false_and, not_true_eq_false, not_false_eq_true, or_true, true_or, or_false, false_or, Int32.lt_irrefl, Int32.le_refl, kw, mIn, kf19, mf, q, hz, Bool.toNat_true]) only [nI_add, pk_mul, pk_sub, pk_div, znmod, nI_clamp, nIleT, nIleF, nIltT, nIltF, nIeqT, nIeqF, nIm1, nIm1q, zupE, zupN, vpT, nI_01, nI_11, ↓reduceIte, Option.bind_some, Option.toList_some, Option.toList_none, List.cons_append, List.nil_append, Nat.reduceAdd, Nat.reduceMul, Nat.reduceSub, Nat.reduceDiv, Nat.reduceMod, and_true, true_and, and_false, false_and, not_true_eq_false, not_false_eq_true, or_true, true_or, or_false, false_or, Int32.lt_irrefl, Int32.le_refl, kw, mIn, kf19, mf, q, hz, Bool.toNat_true, b141_0, b141_5, b141_19, b141_20, b141_26, b141_29, b141_37, b141_40, b141_42, b141_59, b141_63, b141_64, b141_67, b141_70, b141_74, b141_75, b266_0, b266_5, b266_10, b266_20, b266_23, b266_30, b266_32, b266_41, b266_44, b266_51, b266_54, b266_56, b266_62, b266_66, b266_67, b266_70, b266_73, b266_77, b266_78]
            exact zS2_no R'
      · simp (disch := first | omega | simp (disch := omega) only [nI_add, pk_mul, pk_sub, pk_div, znmod, nI_clamp, nIleT, nIleF, nIltT, nIltF, nIeqT, nIeqF, nIm1, nIm1q, zupE, zupN, vpT, nI_01, nI_11, ↓reduceIte, Option.bind_some, Option.toList_some, Option.toList_none, List.cons_append, List.nil_append, Nat.reduceAdd, Nat.reduceMul, Nat.reduceSub, Nat.reduceDiv, Nat.reduceMod, and_true, true_and, and_false, false_and, not_true_eq_false, not_false_eq_true, or_true, true_or, or_false, false_or, Int32.lt_irrefl, Int32.le_refl, kw, mIn, q2, h2]) only [nI_add, pk_mul, pk_sub, pk_div, znmod, nI_clamp, nIleT, nIleF, nIltT, nIltF, nIeqT, nIeqF, nIm1, nIm1q, zupE, zupN, vpT, nI_01, nI_11, ↓reduceIte, Option.bind_some, Option.toList_some, Option.toList_none, List.cons_append, List.nil_append, Nat.reduceAdd, Nat.reduceMul, Nat.reduceSub, Nat.reduceDiv, Nat.reduceMod, and_true, true_and, and_false, false_and, not_true_eq_false, not_false_eq_true, or_true, true_or, or_false, false_or, Int32.lt_irrefl, Int32.le_refl, kw, mIn, q2, h2, b141_0, b141_5, b141_19, b141_20, b141_26, b141_29, b141_37, b141_40, b141_42, b141_59, b141_63, b141_64, b141_67, b141_70, b141_74, b141_75, b266_0, b266_5, b266_10, b266_20, b266_23, b266_30, b266_32, b266_41, b266_44, b266_51, b266_54, b266_56, b266_62, b266_66, b266_67, b266_70, b266_73, b266_77, b266_78]
        exact zS2_no R'
    · rcases zarg x2 1 (by omega) with ⟨w, hw, rfl⟩ | q2
      · simp (disch := first | omega | simp (disch := omega) only [nI_add, pk_mul, pk_sub, pk_div, znmod, nI_clamp, nIleT, nIleF, nIltT, nIltF, nIeqT, nIeqF, nIm1, nIm1q, zupE, zupN, vpT, nI_01, nI_11, ↓reduceIte, Option.bind_some, Option.toList_some, Option.toList_none, List.cons_append, List.nil_append, Nat.reduceAdd, Nat.reduceMul, Nat.reduceSub, Nat.reduceDiv, Nat.reduceMod, and_true, true_and, and_false, false_and, not_true_eq_false, not_false_eq_true, or_true, true_or, or_false, false_or, Int32.lt_irrefl, Int32.le_refl, kw, mIn, q1, h2]) only [nI_add, pk_mul, pk_sub, pk_div, znmod, nI_clamp, nIleT, nIleF, nIltT, nIltF, nIeqT, nIeqF, nIm1, nIm1q, zupE, zupN, vpT, nI_01, nI_11, ↓reduceIte, Option.bind_some, Option.toList_some, Option.toList_none, List.cons_append, List.nil_append, Nat.reduceAdd, Nat.reduceMul, Nat.reduceSub, Nat.reduceDiv, Nat.reduceMod, and_true, true_and, and_false, false_and, not_true_eq_false, not_false_eq_true, or_true, true_or, or_false, false_or, Int32.lt_irrefl, Int32.le_refl, kw, mIn, q1, h2, b141_0, b141_5, b141_19, b141_20, b141_26, b141_29, b141_37, b141_40, b141_42, b141_59, b141_63, b141_64, b141_67, b141_70, b141_74, b141_75, b266_0, b266_5, b266_10, b266_20, b266_23, b266_30, b266_32, b266_41, b266_44, b266_51, b266_54, b266_56, b266_62, b266_66, b266_67, b266_70, b266_73, b266_77, b266_78]
        exact zS2_no R'
      · simp (disch := first | omega | simp (disch := omega) only [nI_add, pk_mul, pk_sub, pk_div, znmod, nI_clamp, nIleT, nIleF, nIltT, nIltF, nIeqT, nIeqF, nIm1, nIm1q, zupE, zupN, vpT, nI_01, nI_11, ↓reduceIte, Option.bind_some, Option.toList_some, Option.toList_none, List.cons_append, List.nil_append, Nat.reduceAdd, Nat.reduceMul, Nat.reduceSub, Nat.reduceDiv, Nat.reduceMod, and_true, true_and, and_false, false_and, not_true_eq_false, not_false_eq_true, or_true, true_or, or_false, false_or, Int32.lt_irrefl, Int32.le_refl, kw, mIn, q1, q2, h2]) only [nI_add, pk_mul, pk_sub, pk_div, znmod, nI_clamp, nIleT, nIleF, nIltT, nIltF, nIeqT, nIeqF, nIm1, nIm1q, zupE, zupN, vpT, nI_01, nI_11, ↓reduceIte, Option.bind_some, Option.toList_some, Option.toList_none, List.cons_append, List.nil_append, Nat.reduceAdd, Nat.reduceMul, Nat.reduceSub, Nat.reduceDiv, Nat.reduceMod, and_true, true_and, and_false, false_and, not_true_eq_false, not_false_eq_true, or_true, true_or, or_false, false_or, Int32.lt_irrefl, Int32.le_refl, kw, mIn, q1, q2, h2, b141_0, b141_5, b141_19, b141_20, b141_26, b141_29, b141_37, b141_40, b141_42, b141_59, b141_63, b141_64, b141_67, b141_70, b141_74, b141_75, b266_0, b266_5, b266_10, b266_20, b266_23, b266_30, b266_32, b266_41, b266_44, b266_51, b266_54, b266_56, b266_62, b266_66, b266_67, b266_70, b266_73, b266_77, b266_78]
        exact zS2_no R'
end BA
