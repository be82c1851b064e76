/-! operation pens: all ways, and those that are tried -/
def yqx (p : Nat → Nat) : Nat → Nat
  | 0 => 0
  | n + 1 => if yqx p n < p n then p n else yqx p n
def yqn (p : Nat → Nat) : Nat → Nat
  | 0 => 100000000
  | n + 1 => if p n < yqn p n then p n else yqn p n
theorem yqx_le {p : Nat → Nat} {q : Nat} : ∀ n, q < n → p q ≤ yqx p n
  | 0, h => absurd h (by omega)
  | n + 1, h => by
    rw [yqx]
    by_cases c : q = n
    · subst c; split <;> omega
    · have := yqx_le (p := p) n (by omega : q < n)
      split <;> omega
theorem yqx_lub {p : Nat → Nat} {M : Nat} : ∀ n, (∀ q, q < n → p q ≤ M) → yqx p n ≤ M
  | 0, _ => Nat.zero_le _
  | n + 1, h => by
    have h1 := yqx_lub n (fun q hq => h q (by omega))
    have h2 := h n (by omega)
    rw [yqx]
    split <;> omega
theorem yqn_le {p : Nat → Nat} {q : Nat} : ∀ n, q < n → yqn p n ≤ p q
  | 0, h => absurd h (by omega)
  | n + 1, h => by
    rw [yqn]
    by_cases c : q = n
    · subst c; split <;> omega
    · have := yqn_le (p := p) n (by omega : q < n)
      split <;> omega
theorem yqn_glb {p : Nat → Nat} {M : Nat} (hM : M ≤ 100000000) : ∀ n, (∀ q, q < n → M ≤ p q) → M ≤ yqn p n
  | 0, _ => hM
  | n + 1, h => by
    have h1 := yqn_glb hM n (fun q hq => h q (by omega))
    have h2 := h n (by omega)
    rw [yqn]
    split <;> omega
theorem yqn_u {p : Nat → Nat} : ∀ n, yqn p n ≤ 100000000
  | 0 => Nat.le_refl _
  | n + 1 => by
    have := yqn_u (p := p) n
    rw [yqn]
    split <;> omega
def yqs (q z x : Nat) : Nat := if x = q then z else if x = z then q else x
theorem yqs_lt {q z x k : Nat} (hq : q < k) (hz : z < k) (hx : x < k) : yqs q z x < k := by
  unfold yqs
  split
  · exact hz
  · split
    · exact hq
    · exact hx
theorem yqs_s {q z x : Nat} : yqs q z (yqs q z x) = x := by
  unfold yqs
  by_cases h1 : x = q
  · rw [if_pos h1]
    by_cases h2 : z = q
    · rw [if_pos h2]; omega
    · rw [if_neg h2, if_pos rfl]; omega
  · rw [if_neg h1]
    by_cases h2 : x = z
    · rw [if_pos h2, if_pos rfl]; omega
    · rw [if_neg h2, if_neg h1, if_neg h2]
theorem yqx_s {p : Nat → Nat} {q z k : Nat} (hq : q < k) (hz : z < k) : yqx (fun x => p (yqs q z x)) k = yqx p k := by
  apply Nat.le_antisymm
  · exact yqx_lub k (fun x hx => yqx_le k (yqs_lt hq hz hx))
  · refine yqx_lub k (fun x hx => ?_)
    have := yqx_le (p := fun x => p (yqs q z x)) k (yqs_lt hq hz hx)
    simp only [yqs_s] at this
    exact this
theorem yqn_s {p : Nat → Nat} {q z k : Nat} (hq : q < k) (hz : z < k) : yqn (fun x => p (yqs q z x)) k = yqn p k := by
  apply Nat.le_antisymm
  · refine yqn_glb (yqn_u k) k (fun x hx => ?_)
    have := yqn_le (p := fun x => p (yqs q z x)) k (yqs_lt hq hz hx)
    simp only [yqs_s] at this
    exact this
  · exact yqn_glb (yqn_u k) k (fun x hx => yqn_le k (yqs_lt hq hz hx))
def yqF (p : Nat → Nat) (k : Nat) : Nat := 1000 * yqx p k + (yqx p k - yqn p k)
def yqa (p : Nat → Nat) (t v : Nat) : Nat → Nat := fun x => if x = t then p x + v else p x
def yqG (W : Nat → Nat) (k : Nat) (a : Nat → Nat) : Nat → Nat → (Nat → Nat) → Nat
  | 0, _, p => yqF p k
  | r + 1, i, p => yqG W k a r (i + 1) (yqa p (a i) (W i))
theorem yqG_s {W : Nat → Nat} {k q z : Nat} {a : Nat → Nat} (hq : q < k) (hz : z < k) : ∀ r i (p : Nat → Nat), yqG W k a r i (fun x => p (yqs q z x)) = yqG W k (fun j => yqs q z (a j)) r i p
  | 0, i, p => by
    show yqF _ k = yqF p k
    unfold yqF
    rw [yqx_s hq hz, yqn_s hq hz]
  | r + 1, i, p => by
    have e : yqa (fun x => p (yqs q z x)) (a i) (W i) = fun x => yqa p (yqs q z (a i)) (W i) (yqs q z x) := by
      funext x
      unfold yqa
      by_cases c : x = a i
      · rw [if_pos c, if_pos (by rw [c])]
      · rw [if_neg c, if_neg (fun h => c (by rw [← yqs_s (q := q) (z := z) (x := x), h, yqs_s]))]
    rw [yqG, yqG, e]
    exact yqG_s hq hz r (i + 1) _
theorem yqG_c {W : Nat → Nat} {k : Nat} {a b : Nat → Nat} : ∀ r i (p : Nat → Nat), (∀ j, i ≤ j → j < i + r → a j = b j) → yqG W k a r i p = yqG W k b r i p
  | 0, _, _, _ => rfl
  | r + 1, i, p, h => by
    rw [yqG, yqG, h i (Nat.le_refl i) (by omega)]
    exact yqG_c r (i + 1) _ (fun j h1 h2 => h j (by omega) (by omega))
theorem yqG_le {W : Nat → Nat} {k N : Nat} {a : Nat → Nat} (hN : N ≤ 7) (hW : ∀ j, j < N → W j ≤ 30) : ∀ r i (p : Nat → Nat), i + r = N → (∀ q, q < k → p q ≤ 30 * i) → yqG W k a r i p ≤ 211000
  | 0, i, p, hi, hp => by
    have : yqx p k ≤ 210 := yqx_lub k (fun q hq => Nat.le_trans (hp q hq) (by omega))
    show yqF p k ≤ _
    unfold yqF
    omega
  | r + 1, i, p, hi, hp => by
    rw [yqG]
    refine yqG_le hN hW r (i + 1) _ (by omega) (fun q hq => ?_)
    have h1 := hp q hq
    have h2 := hW i (by omega)
    unfold yqa
    split <;> omega
/-- numbers by their digits -/
theorem ydgk {k w n j : Nat} (hj : j < n) : w % k ^ n / k ^ j % k = w / k ^ j % k := by
  have e : k ^ n = k ^ j * (k * k ^ (n - j - 1)) := by
    rw [← Nat.pow_succ', ← Nat.pow_add]
    congr 1
    omega
  rw [e, Nat.mod_mul_right_div_self, Nat.mod_mul_right_mod]
theorem yqd {k : Nat} {a : Nat → Nat} (ha : ∀ j, a j < k) : ∀ n, ∃ w, w < k ^ n ∧ ∀ j, j < n → w / k ^ j % k = a j
  | 0 => ⟨0, by rw [Nat.pow_zero]; omega, fun j hj => absurd hj (by omega)⟩
  | n + 1 => by
    obtain ⟨w, hw, e⟩ := yqd ha n
    have hk : 0 < k := Nat.lt_of_le_of_lt (Nat.zero_le _) (ha 0)
    have hp : 0 < k ^ n := Nat.pow_pos hk
    have hd : (w + k ^ n * a n) / k ^ n = a n := by rw [Nat.add_mul_div_left _ _ hp, Nat.div_eq_of_lt hw, Nat.zero_add]
    have hm : (w + k ^ n * a n) % k ^ n = w := by rw [Nat.add_mul_mod_self_left, Nat.mod_eq_of_lt hw]
    refine ⟨w + k ^ n * a n, ?_, fun j hj => ?_⟩
    · have h1 := ha n
      have h2 : k ^ n * (a n + 1) ≤ k ^ n * k := Nat.mul_le_mul_left _ h1
      rw [Nat.mul_succ] at h2
      rw [Nat.pow_succ]
      omega
    · by_cases c : j = n
      · subst c; rw [hd]; exact Nat.mod_eq_of_lt (ha j)
      · rw [← ydgk (n := n) (by omega), hm]
        exact e j (by omega)
section PE
variable {L : Nat} {h : zH} {N k : Nat} {W : Nat → Nat}
def yqB (bm bd : Nat) : Prop := (bm = 1000 ∧ bd = 1000) ∨ (bm ≤ 300 ∧ bd ≤ 300)
/-- the class's state while pens are filled -/
def yqP (h g : zH) (p : Nat → Nat) (bm bd i : Nat) : Prop := (∀ K, K ≠ 5 → g K = h K) ∧ (∀ q, q < 4 → g 5 0 2 q = nI (p q) ∧ p q ≤ 30 * i) ∧ g 5 0 0 2 = nI bm ∧ g 5 0 0 3 = nI bd ∧ yqB bm bd
theorem y53 {g : zH} {p : Nat → Nat} {bm bd i : Nat} (hk1 : 1 ≤ k) (hk : k ≤ 4) (hi : i ≤ 7) (S : yqP h g p bm bd i) : ∃ g' bm' bd', (∀ d, zev L d 53 0 [some (.inr (.inl (5, 0, 0))), some (.inl (nI k)), none, none, none] [] g = some (none, g')) ∧ yqP h g' p bm' bd' i ∧ (1000 * bm' + bd' ≤ 1000 * bm + bd) ∧ (1000 * bm' + bd' ≤ yqF p k) ∧ ((bm' = bm ∧ bd' = bd) ∨ 1000 * bm' + bd' = yqF p k) := by
  obtain ⟨f, hp, e2, e3, hB⟩ := S
  have xb : ∀ n, n ≤ 4 → yqx p n ≤ 210 := fun n hn => yqx_lub n (fun q hq => Nat.le_trans (hp q (by omega)).2 (by omega))
  have nb : ∀ n, 1 ≤ n → yqn p n ≤ yqx p n := fun n hn => Nat.le_trans (yqn_le n (by omega : 0 < n)) (yqx_le n (by omega : 0 < n))
  obtain ⟨_, e, _⟩ := zinv (P := fun j (_ : Unit) => fun d => zev L d 53 17 [some (.inr (.inl (5, 0, 0))), some (.inl (nI k)), some (.inl (nI (yqx p (j+1)))), some (.inl (nI (yqn p (j+1)))), some (.inl (nI (j+1)))] [] g) (R := fun _ _ => True) (N := k - 1) (fun j _ hj _ => by
    refine ⟨(), funext fun d => b53_17.trans ?_, trivial⟩
    obtain ⟨q1, q2⟩ := hp (j + 1) (by omega)
    have b1 := xb (j + 1) (by omega)
    have b2 := nb (j + 1) (by omega)
    have x1 : yqx p (j + 1 + 1) = if yqx p (j + 1) < p (j + 1) then p (j + 1) else yqx p (j + 1) := rfl
    have x2 : yqn p (j + 1 + 1) = if p (j + 1) < yqn p (j + 1) then p (j + 1) else yqn p (j + 1) := rfl
    by_cases c1 : yqx p (j + 1) < p (j + 1)
    · rw [if_pos c1] at x1
      by_cases c2 : p (j + 1) < yqn p (j + 1)
      · omega
      · rw [if_neg c2] at x2
        simp (disch := first | omega | simp (disch := omega) only [nI_add, pk_mul, pk_sub, pk_div, znmod, nI_clamp, nIleT, nIleF, nIltT, nIltF, nIeqT, nIeqF, nIm1, nIm1q, zupE, zupN, vpT, nI_01, nI_11, ↓reduceIte, Option.bind_some, Option.toList_some, Option.toList_none, List.cons_append, List.nil_append, Nat.reduceAdd, Nat.reduceMul, Nat.reduceSub, Nat.reduceDiv, Nat.reduceMod, and_true, true_and, and_false, false_and, not_true_eq_false, not_false_eq_true, or_true, true_or, or_false, false_or, Int32.lt_irrefl, Int32.le_refl, q1, x1, x2]) only [nI_add, pk_mul, pk_sub, pk_div, znmod, nI_clamp, nIleT, nIleF, nIltT, nIltF, nIeqT, nIeqF, nIm1, nIm1q, zupE, zupN, vpT, nI_01, nI_11, ↓reduceIte, Option.bind_some, Option.toList_some, Option.toList_none, List.cons_append, List.nil_append, Nat.reduceAdd, Nat.reduceMul, Nat.reduceSub, Nat.reduceDiv, Nat.reduceMod, and_true, true_and, and_false, false_and, not_true_eq_false, not_false_eq_true, or_true, true_or, or_false, false_or, Int32.lt_irrefl, Int32.le_refl, q1, x1, x2, b53_23]
    · rw [if_neg c1] at x1
      by_cases c2 : p (j + 1) < yqn p (j + 1)
      · rw [if_pos c2] at x2
        simp (disch := first | omega | simp (disch := omega) only [nI_add, pk_mul, pk_sub, pk_div, znmod, nI_clamp, nIleT, nIleF, nIltT, nIltF, nIeqT, nIeqF, nIm1, nIm1q, zupE, zupN, vpT, nI_01, nI_11, ↓reduceIte, Option.bind_some, Option.toList_some, Option.toList_none, List.cons_append, List.nil_append, Nat.reduceAdd, Nat.reduceMul, Nat.reduceSub, Nat.reduceDiv, Nat.reduceMod, and_true, true_and, and_false, false_and, not_true_eq_false, not_false_eq_true, or_true, true_or, or_false, false_or, Int32.lt_irrefl, Int32.le_refl, q1, x1, x2]) only [nI_add, pk_mul, pk_sub, pk_div, znmod, nI_clamp, nIleT, nIleF, nIltT, nIltF, nIeqT, nIeqF, nIm1, nIm1q, zupE, zupN, vpT, nI_01, nI_11, ↓reduceIte, Option.bind_some, Option.toList_some, Option.toList_none, List.cons_append, List.nil_append, Nat.reduceAdd, Nat.reduceMul, Nat.reduceSub, Nat.reduceDiv, Nat.reduceMod, and_true, true_and, and_false, false_and, not_true_eq_false, not_false_eq_true, or_true, true_or, or_false, false_or, Int32.lt_irrefl, Int32.le_refl, q1, x1, x2, b53_23]
      · rw [if_neg c2] at x2
        simp (disch := first | omega | simp (disch := omega) only [nI_add, pk_mul, pk_sub, pk_div, znmod, nI_clamp, nIleT, nIleF, nIltT, nIltF, nIeqT, nIeqF, nIm1, nIm1q, zupE, zupN, vpT, nI_01, nI_11, ↓reduceIte, Option.bind_some, Option.toList_some, Option.toList_none, List.cons_append, List.nil_append, Nat.reduceAdd, Nat.reduceMul, Nat.reduceSub, Nat.reduceDiv, Nat.reduceMod, and_true, true_and, and_false, false_and, not_true_eq_false, not_false_eq_true, or_true, true_or, or_false, false_or, Int32.lt_irrefl, Int32.le_refl, q1, x1, x2]) only [nI_add, pk_mul, pk_sub, pk_div, znmod, nI_clamp, nIleT, nIleF, nIltT, nIltF, nIeqT, nIeqF, nIm1, nIm1q, zupE, zupN, vpT, nI_01, nI_11, ↓reduceIte, Option.bind_some, Option.toList_some, Option.toList_none, List.cons_append, List.nil_append, Nat.reduceAdd, Nat.reduceMul, Nat.reduceSub, Nat.reduceDiv, Nat.reduceMod, and_true, true_and, and_false, false_and, not_true_eq_false, not_false_eq_true, or_true, true_or, or_false, false_or, Int32.lt_irrefl, Int32.le_refl, q1, x1, x2, b53_23]) (k - 1) (Nat.le_refl _) () trivial
  have ek : k - 1 + 1 = k := by omega
  simp only [Nat.zero_add, ek] at e
  have p0 := hp 0 (by omega)
  have i1 : yqx p 1 = p 0 := by
    show (if 0 < p 0 then p 0 else 0) = p 0
    split <;> omega
  have i2 : yqn p 1 = p 0 := by
    show (if p 0 < 100000000 then p 0 else 100000000) = p 0
    rw [if_pos (by omega)]
  rw [i1, i2] at e
  have st : ∀ d, zev L d 53 0 [some (.inr (.inl (5, 0, 0))), some (.inl (nI k)), none, none, none] [] g = zev L d 53 53 [some (.inr (.inl (5, 0, 0))), some (.inl (nI k)), some (.inl (nI (yqx p k))), some (.inl (nI (yqn p k))), some (.inl (nI k))] [] g := fun d => by
    rw [b53_0 (vp_in_nI (by omega) (by omega)), nI_clamp (by omega), p0.1]
    refine Eq.trans (congrFun e d) (b53_17.trans ?_)
    simp (disch := first | omega | simp (disch := omega) only [nI_add, pk_mul, pk_sub, pk_div, znmod, nI_clamp, nIleT, nIleF, nIltT, nIltF, nIeqT, nIeqF, nIm1, nIm1q, zupE, zupN, vpT, nI_01, nI_11, ↓reduceIte, Option.bind_some, Option.toList_some, Option.toList_none, List.cons_append, List.nil_append, Nat.reduceAdd, Nat.reduceMul, Nat.reduceSub, Nat.reduceDiv, Nat.reduceMod, and_true, true_and, and_false, false_and, not_true_eq_false, not_false_eq_true, or_true, true_or, or_false, false_or, Int32.lt_irrefl, Int32.le_refl]) only [nI_add, pk_mul, pk_sub, pk_div, znmod, nI_clamp, nIleT, nIleF, nIltT, nIltF, nIeqT, nIeqF, nIm1, nIm1q, zupE, zupN, vpT, nI_01, nI_11, ↓reduceIte, Option.bind_some, Option.toList_some, Option.toList_none, List.cons_append, List.nil_append, Nat.reduceAdd, Nat.reduceMul, Nat.reduceSub, Nat.reduceDiv, Nat.reduceMod, and_true, true_and, and_false, false_and, not_true_eq_false, not_false_eq_true, or_true, true_or, or_false, false_or, Int32.lt_irrefl, Int32.le_refl]
  have b1 := xb k hk
  have b2 := nb k hk1
  have hF : yqF p k = 1000 * yqx p k + (yqx p k - yqn p k) := rfl
  have bb : bm ≤ 1000 ∧ bd ≤ 1000 := by unfold yqB at hB; omega
  by_cases c1 : yqx p k < bm
  · refine ⟨zup (zup g 5 0 0 2 (nI (yqx p k))) 5 0 0 3 (nI (yqx p k - yqn p k)), yqx p k, yqx p k - yqn p k, fun d => (st d).trans (b53_53.trans ?_), ⟨fun K hK => by rw [zupK hK, zupK hK, f K hK], fun q hq => by rw [zupN (by omega), zupN (by omega)]; exact hp q hq, by rw [zupN (by omega), zupE (by omega)], by rw [zupE (by omega)], Or.inr (by omega)⟩, by omega, by omega, Or.inr (by omega)⟩
    simp (disch := first | omega | simp (disch := omega) only [nI_add, pk_mul, pk_sub, pk_div, znmod, nI_clamp, nIleT, nIleF, nIltT, nIltF, nIeqT, nIeqF, nIm1, nIm1q, zupE, zupN, vpT, nI_01, nI_11, ↓reduceIte, Option.bind_some, Option.toList_some, Option.toList_none, List.cons_append, List.nil_append, Nat.reduceAdd, Nat.reduceMul, Nat.reduceSub, Nat.reduceDiv, Nat.reduceMod, and_true, true_and, and_false, false_and, not_true_eq_false, not_false_eq_true, or_true, true_or, or_false, false_or, Int32.lt_irrefl, Int32.le_refl, e2]) only [nI_add, pk_mul, pk_sub, pk_div, znmod, nI_clamp, nIleT, nIleF, nIltT, nIltF, nIeqT, nIeqF, nIm1, nIm1q, zupE, zupN, vpT, nI_01, nI_11, ↓reduceIte, Option.bind_some, Option.toList_some, Option.toList_none, List.cons_append, List.nil_append, Nat.reduceAdd, Nat.reduceMul, Nat.reduceSub, Nat.reduceDiv, Nat.reduceMod, and_true, true_and, and_false, false_and, not_true_eq_false, not_false_eq_true, or_true, true_or, or_false, false_or, Int32.lt_irrefl, Int32.le_refl, e2, b53_79, b53_84, b53_91]
  · by_cases c2 : yqx p k = bm
    · by_cases c3 : bd ≤ yqx p k - yqn p k
      · refine ⟨g, bm, bd, fun d => (st d).trans (b53_53.trans ?_), ⟨f, hp, e2, e3, hB⟩, by omega, by omega, Or.inl ⟨rfl, rfl⟩⟩
        simp (disch := first | omega | simp (disch := omega) only [nI_add, pk_mul, pk_sub, pk_div, znmod, nI_clamp, nIleT, nIleF, nIltT, nIltF, nIeqT, nIeqF, nIm1, nIm1q, zupE, zupN, vpT, nI_01, nI_11, ↓reduceIte, Option.bind_some, Option.toList_some, Option.toList_none, List.cons_append, List.nil_append, Nat.reduceAdd, Nat.reduceMul, Nat.reduceSub, Nat.reduceDiv, Nat.reduceMod, and_true, true_and, and_false, false_and, not_true_eq_false, not_false_eq_true, or_true, true_or, or_false, false_or, Int32.lt_irrefl, Int32.le_refl, e2, e3]) only [nI_add, pk_mul, pk_sub, pk_div, znmod, nI_clamp, nIleT, nIleF, nIltT, nIltF, nIeqT, nIeqF, nIm1, nIm1q, zupE, zupN, vpT, nI_01, nI_11, ↓reduceIte, Option.bind_some, Option.toList_some, Option.toList_none, List.cons_append, List.nil_append, Nat.reduceAdd, Nat.reduceMul, Nat.reduceSub, Nat.reduceDiv, Nat.reduceMod, and_true, true_and, and_false, false_and, not_true_eq_false, not_false_eq_true, or_true, true_or, or_false, false_or, Int32.lt_irrefl, Int32.le_refl, e2, e3, b53_61, b53_69, b53_91]
      · refine ⟨zup (zup g 5 0 0 2 (nI (yqx p k))) 5 0 0 3 (nI (yqx p k - yqn p k)), yqx p k, yqx p k - yqn p k, fun d => (st d).trans (b53_53.trans ?_), ⟨fun K hK => by rw [zupK hK, zupK hK, f K hK], fun q hq => by rw [zupN (by omega), zupN (by omega)]; exact hp q hq, by rw [zupN (by omega), zupE (by omega)], by rw [zupE (by omega)], Or.inr (by omega)⟩, by omega, by omega, Or.inr (by omega)⟩
        simp (disch := first | omega | simp (disch := omega) only [nI_add, pk_mul, pk_sub, pk_div, znmod, nI_clamp, nIleT, nIleF, nIltT, nIltF, nIeqT, nIeqF, nIm1, nIm1q, zupE, zupN, vpT, nI_01, nI_11, ↓reduceIte, Option.bind_some, Option.toList_some, Option.toList_none, List.cons_append, List.nil_append, Nat.reduceAdd, Nat.reduceMul, Nat.reduceSub, Nat.reduceDiv, Nat.reduceMod, and_true, true_and, and_false, false_and, not_true_eq_false, not_false_eq_true, or_true, true_or, or_false, false_or, Int32.lt_irrefl, Int32.le_refl, e2, e3]) only [nI_add, pk_mul, pk_sub, pk_div, znmod, nI_clamp, nIleT, nIleF, nIltT, nIltF, nIeqT, nIeqF, nIm1, nIm1q, zupE, zupN, vpT, nI_01, nI_11, ↓reduceIte, Option.bind_some, Option.toList_some, Option.toList_none, List.cons_append, List.nil_append, Nat.reduceAdd, Nat.reduceMul, Nat.reduceSub, Nat.reduceDiv, Nat.reduceMod, and_true, true_and, and_false, false_and, not_true_eq_false, not_false_eq_true, or_true, true_or, or_false, false_or, Int32.lt_irrefl, Int32.le_refl, e2, e3, b53_61, b53_69, b53_79, b53_84, b53_91]
    · refine ⟨g, bm, bd, fun d => (st d).trans (b53_53.trans ?_), ⟨f, hp, e2, e3, hB⟩, by omega, by omega, Or.inl ⟨rfl, rfl⟩⟩
      simp (disch := first | omega | simp (disch := omega) only [nI_add, pk_mul, pk_sub, pk_div, znmod, nI_clamp, nIleT, nIleF, nIltT, nIltF, nIeqT, nIeqF, nIm1, nIm1q, zupE, zupN, vpT, nI_01, nI_11, ↓reduceIte, Option.bind_some, Option.toList_some, Option.toList_none, List.cons_append, List.nil_append, Nat.reduceAdd, Nat.reduceMul, Nat.reduceSub, Nat.reduceDiv, Nat.reduceMod, and_true, true_and, and_false, false_and, not_true_eq_false, not_false_eq_true, or_true, true_or, or_false, false_or, Int32.lt_irrefl, Int32.le_refl, e2]) only [nI_add, pk_mul, pk_sub, pk_div, znmod, nI_clamp, nIleT, nIleF, nIltT, nIltF, nIeqT, nIeqF, nIm1, nIm1q, zupE, zupN, vpT, nI_01, nI_11, ↓reduceIte, Option.bind_some, Option.toList_some, Option.toList_none, List.cons_append, List.nil_append, Nat.reduceAdd, Nat.reduceMul, Nat.reduceSub, Nat.reduceDiv, Nat.reduceMod, and_true, true_and, and_false, false_and, not_true_eq_false, not_false_eq_true, or_true, true_or, or_false, false_or, Int32.lt_irrefl, Int32.le_refl, e2, b53_61, b53_91]
end PE
