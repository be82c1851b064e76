/-! who is kin, as sets; operation cold -/
def yones (n : Nat) : Nat := ycnt (fun i => (n.testBit i).toNat) 12
def yBC (x0 : Int32) : Int32 := ((((((((x0 - (((x0.toUInt32 >>> ((nI 1).toUInt32 &&& Int32.toUInt32 31)).toInt32) &&& (nI 1431655765))) &&& (nI 858993459)) + ((((x0 - (((x0.toUInt32 >>> ((nI 1).toUInt32 &&& Int32.toUInt32 31)).toInt32) &&& (nI 1431655765))).toUInt32 >>> ((nI 2).toUInt32 &&& Int32.toUInt32 31)).toInt32) &&& (nI 858993459))) + (((((x0 - (((x0.toUInt32 >>> ((nI 1).toUInt32 &&& Int32.toUInt32 31)).toInt32) &&& (nI 1431655765))) &&& (nI 858993459)) + ((((x0 - (((x0.toUInt32 >>> ((nI 1).toUInt32 &&& Int32.toUInt32 31)).toInt32) &&& (nI 1431655765))).toUInt32 >>> ((nI 2).toUInt32 &&& Int32.toUInt32 31)).toInt32) &&& (nI 858993459))).toUInt32 >>> ((nI 4).toUInt32 &&& Int32.toUInt32 31)).toInt32)) &&& (nI 252645135)) + (((((((x0 - (((x0.toUInt32 >>> ((nI 1).toUInt32 &&& Int32.toUInt32 31)).toInt32) &&& (nI 1431655765))) &&& (nI 858993459)) + ((((x0 - (((x0.toUInt32 >>> ((nI 1).toUInt32 &&& Int32.toUInt32 31)).toInt32) &&& (nI 1431655765))).toUInt32 >>> ((nI 2).toUInt32 &&& Int32.toUInt32 31)).toInt32) &&& (nI 858993459))) + (((((x0 - (((x0.toUInt32 >>> ((nI 1).toUInt32 &&& Int32.toUInt32 31)).toInt32) &&& (nI 1431655765))) &&& (nI 858993459)) + ((((x0 - (((x0.toUInt32 >>> ((nI 1).toUInt32 &&& Int32.toUInt32 31)).toInt32) &&& (nI 1431655765))).toUInt32 >>> ((nI 2).toUInt32 &&& Int32.toUInt32 31)).toInt32) &&& (nI 858993459))).toUInt32 >>> ((nI 4).toUInt32 &&& Int32.toUInt32 31)).toInt32)) &&& (nI 252645135)).toUInt32 >>> ((nI 8).toUInt32 &&& Int32.toUInt32 31)).toInt32)) + ((((((((x0 - (((x0.toUInt32 >>> ((nI 1).toUInt32 &&& Int32.toUInt32 31)).toInt32) &&& (nI 1431655765))) &&& (nI 858993459)) + ((((x0 - (((x0.toUInt32 >>> ((nI 1).toUInt32 &&& Int32.toUInt32 31)).toInt32) &&& (nI 1431655765))).toUInt32 >>> ((nI 2).toUInt32 &&& Int32.toUInt32 31)).toInt32) &&& (nI 858993459))) + (((((x0 - (((x0.toUInt32 >>> ((nI 1).toUInt32 &&& Int32.toUInt32 31)).toInt32) &&& (nI 1431655765))) &&& (nI 858993459)) + ((((x0 - (((x0.toUInt32 >>> ((nI 1).toUInt32 &&& Int32.toUInt32 31)).toInt32) &&& (nI 1431655765))).toUInt32 >>> ((nI 2).toUInt32 &&& Int32.toUInt32 31)).toInt32) &&& (nI 858993459))).toUInt32 >>> ((nI 4).toUInt32 &&& Int32.toUInt32 31)).toInt32)) &&& (nI 252645135)) + (((((((x0 - (((x0.toUInt32 >>> ((nI 1).toUInt32 &&& Int32.toUInt32 31)).toInt32) &&& (nI 1431655765))) &&& (nI 858993459)) + ((((x0 - (((x0.toUInt32 >>> ((nI 1).toUInt32 &&& Int32.toUInt32 31)).toInt32) &&& (nI 1431655765))).toUInt32 >>> ((nI 2).toUInt32 &&& Int32.toUInt32 31)).toInt32) &&& (nI 858993459))) + (((((x0 - (((x0.toUInt32 >>> ((nI 1).toUInt32 &&& Int32.toUInt32 31)).toInt32) &&& (nI 1431655765))) &&& (nI 858993459)) + ((((x0 - (((x0.toUInt32 >>> ((nI 1).toUInt32 &&& Int32.toUInt32 31)).toInt32) &&& (nI 1431655765))).toUInt32 >>> ((nI 2).toUInt32 &&& Int32.toUInt32 31)).toInt32) &&& (nI 858993459))).toUInt32 >>> ((nI 4).toUInt32 &&& Int32.toUInt32 31)).toInt32)) &&& (nI 252645135)).toUInt32 >>> ((nI 8).toUInt32 &&& Int32.toUInt32 31)).toInt32)).toUInt32 >>> ((nI 16).toUInt32 &&& Int32.toUInt32 31)).toInt32)) &&& (nI 63))
theorem y4096 {q : Nat → Prop} (h : ∀ a, a < 64 → ∀ b, b < 64 → q (64 * a + b)) : ∀ n, n < 4096 → q n := fun n hn => by
  have := h (n / 64) (by omega) (n % 64) (Nat.mod_lt _ (by decide))
  rwa [Nat.div_add_mod] at this
theorem yBC_ok : ∀ n, n < 4096 → yBC (nI n) = nI (yones n) := y4096 (by decide +kernel)
theorem yones_s : ∀ v, v < 4096 → v ≠ 0 → (v &&& (v - 1)) < v ∧ yones v = yones (v &&& (v - 1)) + 1 := y4096 (by decide +kernel)
def yor (K : Nat → Nat) (s : Nat) : Nat → Nat
  | 0 => 0
  | p + 1 => if s.testBit p = true then yor K s p ||| K p else yor K s p
def yca (K : Nat → Nat) (P s : Nat) : Nat := s ||| yor K s P
def yit (K : Nat → Nat) (P s : Nat) : Nat → Nat
  | 0 => s
  | n + 1 => yca K P (yit K P s n)
theorem yor_lt {K : Nat → Nat} {s P : Nat} (hK : ∀ p, p < P → K p < 2 ^ 12) : yor K s P < 2 ^ 12 := by
  induction P with
  | zero => show 0 < 2 ^ 12; decide
  | succ p ih =>
    have i1 := ih (fun q hq => hK q (by omega))
    unfold yor
    split
    · exact zOrLt i1 (hK p (by omega))
    · exact i1
theorem yca_lt {K : Nat → Nat} {s P : Nat} (hK : ∀ p, p < P → K p < 2 ^ 12) (hs : s < 2 ^ 12) : yca K P s < 2 ^ 12 := zOrLt hs (yor_lt hK)
theorem yit_lt {K : Nat → Nat} {s P n : Nat} (hK : ∀ p, p < P → K p < 2 ^ 12) (hs : s < 2 ^ 12) : yit K P s n < 2 ^ 12 := by
  induction n with
  | zero => exact hs
  | succ n ih => exact yca_lt hK ih
theorem yit_fix {K : Nat → Nat} {s P t : Nat} (h : yca K P (yit K P s t) = yit K P s t) : ∀ n, yit K P s (t + n) = yit K P s t
  | 0 => rfl
  | n + 1 => by rw [← Nat.add_assoc, yit, yit_fix h n, h]
/-- a set that grows has more in it -/
theorem ycnt_lt {f g : Nat → Nat} {n i : Nat} (h : ∀ j, j < n → f j ≤ g j) (hi : i < n) (hl : f i < g i) : ycnt f n < ycnt g n := by
  have mono : ∀ m, m ≤ n → ycnt f m ≤ ycnt g m := by
    intro m
    induction m with
    | zero => intro _; exact Nat.le_refl _
    | succ m ih => intro hm; have := ih (by omega); have := h m (by omega); rw [ycnt, ycnt]; omega
  have key : ∀ m, i < m → m ≤ n → ycnt f m < ycnt g m := by
    intro m
    induction m with
    | zero => intro h1; exact absurd h1 (Nat.not_lt_zero _)
    | succ m ih =>
      intro h1 hm
      rw [ycnt, ycnt]
      have a := h m (by omega)
      by_cases e : i = m
      · subst e
        have b := mono i (by omega)
        omega
      · have b := ih (by omega) (by omega)
        omega
  exact key n hi (Nat.le_refl n)
theorem yones_lt {s x : Nat} (hs : s < 2 ^ 12) (hx : x < 2 ^ 12) (h : s ||| x ≠ s) : yones s < yones (s ||| x) := by
  have hne : ∃ i, i < 12 ∧ s.testBit i = false ∧ x.testBit i = true := by
    apply Classical.byContradiction
    intro hn
    apply h
    apply Nat.eq_of_testBit_eq
    intro i
    rw [Nat.testBit_or]
    by_cases hi : i < 12
    · cases a : s.testBit i
      · cases b : x.testBit i
        · rfl
        · exact absurd ⟨i, hi, a, b⟩ hn
      · rfl
    · rw [Nat.testBit_lt_two_pow (Nat.lt_of_lt_of_le hx (Nat.pow_le_pow_right (by decide) (by omega)))]
      exact Bool.or_false _
  obtain ⟨i, hi, a, b⟩ := hne
  refine ycnt_lt (i := i) (fun j _ => ?_) hi ?_
  · rw [Nat.testBit_or]
    cases s.testBit j <;> cases x.testBit j <;> decide
  · rw [Nat.testBit_or, a, b]
    decide
theorem yones_12 (s : Nat) : yones s ≤ 12 := ycnt_le (fun i => by cases s.testBit i <;> decide) 12
theorem zfst_min {g : Nat → Bool} {N j : Nat} (h : zfst g N = some j) : ∀ u, u < j → g u = false := by
  induction N with
  | zero => cases h
  | succ n ih =>
    rw [zfst] at h
    cases e : zfst g n with
    | some i => rw [e] at h; cases h; exact ih e
    | none =>
      rw [e] at h
      simp only at h
      split at h
      · cases h; exact zfst_none e
      · cases h
/-- the days on which a cold spreads end -/
theorem yfix {K : Nat → Nat} {s P : Nat} (hK : ∀ p, p < P → K p < 2 ^ 12) (hs : s < 2 ^ 12) : ∃ t, t ≤ 12 ∧ yca K P (yit K P s t) = yit K P s t ∧ ∀ u, u < t → yca K P (yit K P s u) ≠ yit K P s u := by
  cases hz : zfst (fun t => decide (yca K P (yit K P s t) = yit K P s t)) 13 with
  | some t =>
    obtain ⟨h1, h2⟩ := zfst_lt hz
    exact ⟨t, by omega, of_decide_eq_true h2, fun u hu => of_decide_eq_false (zfst_min hz u hu)⟩
  | none =>
    exfalso
    have hn := zfst_none hz
    have grow : ∀ t, t ≤ 13 → t ≤ yones (yit K P s t) := by
      intro t
      induction t with
      | zero => intro _; exact Nat.zero_le _
      | succ t ih =>
        intro ht
        have h1 := ih (by omega)
        have h2 := yones_lt (yit_lt (n := t) hK hs) (yor_lt (s := yit K P s t) hK) (of_decide_eq_false (hn t (by omega)))
        show t + 1 ≤ yones (yit K P s t ||| yor K (yit K P s t) P)
        omega
    have h3 := grow 13 (Nat.le_refl _)
    have h4 := yones_12 (yit K P s 13)
    omega
section KN
variable {L d : Nat} {hc hm h : zH} {x1 x2 x3 x4 x5 x : Int32} {K : Nat → Nat} {P N : Nat}
theorem kBC {n : Nat} (hn : n < 4096) : zev L d 287 0 [some (.inl (nI n))] [] h = some (some (.inl (nI (yones n))), h) := by
  rw [← yBC_ok n hn]
  exact b287_0
theorem mOnesL : ∀ (n k u : Nat), n < 4096 → zev L d 161 4 [some (.inr (.inl (12, 0, 0))), some (.inl (nI u)), some (.inl (nI k)), some (.inl (nI n))] [] h = some (some (.inl (nI (k + yones n))), h) := by
  intro n
  induction n using Nat.strongRecOn with
  | ind n ih =>
    intro k u hn
    refine b161_4.trans ?_
    by_cases c : n = 0
    · subst c
      have e : yones 0 = 0 := by decide
      simp (disch := first | omega | simp (disch := omega) only [nI_add, pk_mul, pk_sub, pk_div, znmod, nI_clamp, nIleT, nIleF, nIltT, nIltF, nIeqT, nIeqF, nIm1, nIm1q, zupE, zupN, vpT, nI_01, nI_11, ↓reduceIte, Option.bind_some, Option.toList_some, Option.toList_none, List.cons_append, List.nil_append, Nat.reduceAdd, Nat.reduceMul, Nat.reduceSub, Nat.reduceDiv, Nat.reduceMod, and_true, true_and, and_false, false_and, not_true_eq_false, not_false_eq_true, or_true, true_or, or_false, false_or, Int32.lt_irrefl, Int32.le_refl, e, Nat.add_zero]) only [nI_add, pk_mul, pk_sub, pk_div, znmod, nI_clamp, nIleT, nIleF, nIltT, nIltF, nIeqT, nIeqF, nIm1, nIm1q, zupE, zupN, vpT, nI_01, nI_11, ↓reduceIte, Option.bind_some, Option.toList_some, Option.toList_none, List.cons_append, List.nil_append, Nat.reduceAdd, Nat.reduceMul, Nat.reduceSub, Nat.reduceDiv, Nat.reduceMod, and_true, true_and, and_false, false_and, not_true_eq_false, not_false_eq_true, or_true, true_or, or_false, false_or, Int32.lt_irrefl, Int32.le_refl, e, Nat.add_zero, b161_8, b161_21]
    · obtain ⟨h1, h2⟩ := yones_s n hn c
      have q := ih (n &&& (n - 1)) h1 (k + 1) u (by omega)
      have e : k + 1 + yones (n &&& (n - 1)) = k + yones n := by omega
      rw [e] at q
      simp (disch := first | omega | simp (disch := omega) only [nI_add, pk_mul, pk_sub, pk_div, znmod, nI_clamp, nIleT, nIleF, nIltT, nIltF, nIeqT, nIeqF, nIm1, nIm1q, zupE, zupN, vpT, nI_01, nI_11, ↓reduceIte, Option.bind_some, Option.toList_some, Option.toList_none, List.cons_append, List.nil_append, Nat.reduceAdd, Nat.reduceMul, Nat.reduceSub, Nat.reduceDiv, Nat.reduceMod, and_true, true_and, and_false, false_and, not_true_eq_false, not_false_eq_true, or_true, true_or, or_false, false_or, Int32.lt_irrefl, Int32.le_refl, zAnd, q]) only [nI_add, pk_mul, pk_sub, pk_div, znmod, nI_clamp, nIleT, nIleF, nIltT, nIltF, nIeqT, nIeqF, nIm1, nIm1q, zupE, zupN, vpT, nI_01, nI_11, ↓reduceIte, Option.bind_some, Option.toList_some, Option.toList_none, List.cons_append, List.nil_append, Nat.reduceAdd, Nat.reduceMul, Nat.reduceSub, Nat.reduceDiv, Nat.reduceMod, and_true, true_and, and_false, false_and, not_true_eq_false, not_false_eq_true, or_true, true_or, or_false, false_or, Int32.lt_irrefl, Int32.le_refl, zAnd, q, b161_8, b161_21]
theorem mOnes {n : Nat} (hn : n < 4096) : zev L d 161 0 [some (.inr (.inl (12, 0, 0))), some (.inl (nI n)), none, none] [] h = some (some (.inl (nI (yones n))), h) := by
  have q := mOnesL (L := L) (d := d) (h := h) n 0 n hn
  rw [Nat.zero_add] at q
  exact b161_0.trans q
theorem kTake (hP : P ≤ 12) (hN : N ≤ 16) (e : hc 2 3 0 2 = nI N) (hl : ∀ l, l < N → ∃ a b, a < 12 ∧ b < 12 ∧ hc 2 3 1 (5 * l) = nI a ∧ hc 2 3 1 (5 * l + 1) = nI b) :
    ∃ g, zev L (d + 3) 1 0 [some (.inr (.inl (0, 0, 0))), some (.inr (.inl (10, 0, 0))), some (.inl (nI P)), none] [] hc = some (none, g) ∧ g 0 0 0 2 = nI P ∧ (∀ p, p < P → g 0 0 1 p = nI (ks (hc 2 3 1) p N)) ∧ yC hc g := by
  obtain ⟨g, k1, r1, r2, r3⟩ := zinv (P := fun p (g : zH) => zev L (d + 3) 1 12 [some (.inr (.inl (0, 0, 0))), some (.inr (.inl (10, 0, 0))), some (.inl (nI P)), some (.inl (nI p))] [] g) (R := fun p g => g 0 0 0 2 = nI P ∧ (∀ q, q < p → g 0 0 1 q = nI (ks (hc 2 3 1) q N)) ∧ yC hc g) (N := P) (fun p g hp hr => by
    obtain ⟨r1, r2, r3⟩ := hr
    have f1 : g 2 3 = hc 2 3 := funext fun s => funext fun j => r3 2 3 s j rfl
    have ek := kKin (L := L) (d := d) (h := g) (p := p) (N := N) (w := 0) (by omega) (by omega) hN (by show g 2 3 0 2 = _; rw [f1]; exact e) (by show ∀ l, l < N → ∃ a b, a < 12 ∧ b < 12 ∧ g 2 3 1 (5 * l) = nI a ∧ g 2 3 1 (5 * l + 1) = nI b; rw [f1]; exact hl)
    have f2 : g 2 (4 * 0 + 3) 1 = hc 2 3 1 := by show g 2 3 1 = _; rw [f1]
    rw [f2] at ek
    refine ⟨zup g 0 0 1 p (nI (ks (hc 2 3 1) p N)), b1_12.trans ?_, ?_, fun q hq => ?_, yC_u r3 rfl⟩
    · simp (disch := first | omega | simp (disch := omega) only [nI_add, pk_mul, pk_sub, pk_div, znmod, nI_clamp, nIleT, nIleF, nIltT, nIltF, nIeqT, nIeqF, nIm1, nIm1q, zupE, zupN, vpT, nI_01, nI_11, ↓reduceIte, Option.bind_some, Option.toList_some, Option.toList_none, List.cons_append, List.nil_append, Nat.reduceAdd, Nat.reduceMul, Nat.reduceSub, Nat.reduceDiv, Nat.reduceMod, and_true, true_and, and_false, false_and, not_true_eq_false, not_false_eq_true, or_true, true_or, or_false, false_or, Int32.lt_irrefl, Int32.le_refl, r1, ek]) only [nI_add, pk_mul, pk_sub, pk_div, znmod, nI_clamp, nIleT, nIleF, nIltT, nIltF, nIeqT, nIeqF, nIm1, nIm1q, zupE, zupN, vpT, nI_01, nI_11, ↓reduceIte, Option.bind_some, Option.toList_some, Option.toList_none, List.cons_append, List.nil_append, Nat.reduceAdd, Nat.reduceMul, Nat.reduceSub, Nat.reduceDiv, Nat.reduceMod, and_true, true_and, and_false, false_and, not_true_eq_false, not_false_eq_true, or_true, true_or, or_false, false_or, Int32.lt_irrefl, Int32.le_refl, r1, ek, b1_20, b1_30, b1_31]
    · rw [zupN (by omega)]; exact r1
    · by_cases c : q = p
      · rw [zupE (by omega), c]
      · rw [zupN (by omega)]; exact r2 q (by omega)) P (Nat.le_refl _) (zup hc 0 0 0 2 (nI P)) ⟨zupE (by omega), fun q hq => absurd hq (Nat.not_lt_zero _), yC_u yC_r rfl⟩
  refine ⟨g, ?_, r1, r2, r3⟩
  have k2 := k1.trans b1_12
  simp (disch := first | omega | simp (disch := omega) only [nI_add, pk_mul, pk_sub, pk_div, znmod, nI_clamp, nIleT, nIleF, nIltT, nIltF, nIeqT, nIeqF, nIm1, nIm1q, zupE, zupN, vpT, nI_01, nI_11, ↓reduceIte, Option.bind_some, Option.toList_some, Option.toList_none, List.cons_append, List.nil_append, Nat.reduceAdd, Nat.reduceMul, Nat.reduceSub, Nat.reduceDiv, Nat.reduceMod, and_true, true_and, and_false, false_and, not_true_eq_false, not_false_eq_true, or_true, true_or, or_false, false_or, Int32.lt_irrefl, Int32.le_refl, r1]) only [nI_add, pk_mul, pk_sub, pk_div, znmod, nI_clamp, nIleT, nIleF, nIltT, nIltF, nIeqT, nIeqF, nIm1, nIm1q, zupE, zupN, vpT, nI_01, nI_11, ↓reduceIte, Option.bind_some, Option.toList_some, Option.toList_none, List.cons_append, List.nil_append, Nat.reduceAdd, Nat.reduceMul, Nat.reduceSub, Nat.reduceDiv, Nat.reduceMod, and_true, true_and, and_false, false_and, not_true_eq_false, not_false_eq_true, or_true, true_or, or_false, false_or, Int32.lt_irrefl, Int32.le_refl, r1, b1_37] at k2
  simp (disch := first | omega | simp (disch := omega) only [nI_add, pk_mul, pk_sub, pk_div, znmod, nI_clamp, nIleT, nIleF, nIltT, nIltF, nIeqT, nIeqF, nIm1, nIm1q, zupE, zupN, vpT, nI_01, nI_11, ↓reduceIte, Option.bind_some, Option.toList_some, Option.toList_none, List.cons_append, List.nil_append, Nat.reduceAdd, Nat.reduceMul, Nat.reduceSub, Nat.reduceDiv, Nat.reduceMod, and_true, true_and, and_false, false_and, not_true_eq_false, not_false_eq_true, or_true, true_or, or_false, false_or, Int32.lt_irrefl, Int32.le_refl, k2]) only [nI_add, pk_mul, pk_sub, pk_div, znmod, nI_clamp, nIleT, nIleF, nIltT, nIltF, nIeqT, nIeqF, nIm1, nIm1q, zupE, zupN, vpT, nI_01, nI_11, ↓reduceIte, Option.bind_some, Option.toList_some, Option.toList_none, List.cons_append, List.nil_append, Nat.reduceAdd, Nat.reduceMul, Nat.reduceSub, Nat.reduceDiv, Nat.reduceMod, and_true, true_and, and_false, false_and, not_true_eq_false, not_false_eq_true, or_true, true_or, or_false, false_or, Int32.lt_irrefl, Int32.le_refl, k2, b1_0, b1_10]
theorem kKinAll {s : Nat} (hP : P ≤ 12) (e : h 0 0 0 2 = nI P) (hk : ∀ p, p < P → h 0 0 1 p = nI (K p)) (hs : s < 2 ^ 12) : zev L d 7 0 [some (.inr (.inl (0, 0, 0))), some (.inl (nI s)), none, none] [] h = some (some (.inl (nI (yor K s P))), h) := by
  obtain ⟨_, k1, _⟩ := zinv (P := fun p (_ : Unit) => zev L d 7 4 [some (.inr (.inl (0, 0, 0))), some (.inl (nI s)), some (.inl (nI (yor K s p))), some (.inl (nI p))] [] h) (R := fun _ _ => True) (N := P) (fun p _ hp _ => by
    refine ⟨(), b7_4.trans ?_, trivial⟩
    have u := hk p hp
    cases c : s.testBit p
    · simp (disch := first | omega | simp (disch := omega) only [nI_add, pk_mul, pk_sub, pk_div, znmod, nI_clamp, nIleT, nIleF, nIltT, nIltF, nIeqT, nIeqF, nIm1, nIm1q, zupE, zupN, vpT, nI_01, nI_11, ↓reduceIte, Option.bind_some, Option.toList_some, Option.toList_none, List.cons_append, List.nil_append, Nat.reduceAdd, Nat.reduceMul, Nat.reduceSub, Nat.reduceDiv, Nat.reduceMod, and_true, true_and, and_false, false_and, not_true_eq_false, not_false_eq_true, or_true, true_or, or_false, false_or, Int32.lt_irrefl, Int32.le_refl, e, zBit, c, Bool.toNat_false, yor, Bool.false_eq_true]) only [nI_add, pk_mul, pk_sub, pk_div, znmod, nI_clamp, nIleT, nIleF, nIltT, nIltF, nIeqT, nIeqF, nIm1, nIm1q, zupE, zupN, vpT, nI_01, nI_11, ↓reduceIte, Option.bind_some, Option.toList_some, Option.toList_none, List.cons_append, List.nil_append, Nat.reduceAdd, Nat.reduceMul, Nat.reduceSub, Nat.reduceDiv, Nat.reduceMod, and_true, true_and, and_false, false_and, not_true_eq_false, not_false_eq_true, or_true, true_or, or_false, false_or, Int32.lt_irrefl, Int32.le_refl, e, zBit, c, Bool.toNat_false, yor, Bool.false_eq_true, b7_12, b7_21, b7_30]
    · simp (disch := first | omega | simp (disch := omega) only [nI_add, pk_mul, pk_sub, pk_div, znmod, nI_clamp, nIleT, nIleF, nIltT, nIltF, nIeqT, nIeqF, nIm1, nIm1q, zupE, zupN, vpT, nI_01, nI_11, ↓reduceIte, Option.bind_some, Option.toList_some, Option.toList_none, List.cons_append, List.nil_append, Nat.reduceAdd, Nat.reduceMul, Nat.reduceSub, Nat.reduceDiv, Nat.reduceMod, and_true, true_and, and_false, false_and, not_true_eq_false, not_false_eq_true, or_true, true_or, or_false, false_or, Int32.lt_irrefl, Int32.le_refl, e, zBit, c, Bool.toNat_true, yor, u, zOr]) only [nI_add, pk_mul, pk_sub, pk_div, znmod, nI_clamp, nIleT, nIleF, nIltT, nIltF, nIeqT, nIeqF, nIm1, nIm1q, zupE, zupN, vpT, nI_01, nI_11, ↓reduceIte, Option.bind_some, Option.toList_some, Option.toList_none, List.cons_append, List.nil_append, Nat.reduceAdd, Nat.reduceMul, Nat.reduceSub, Nat.reduceDiv, Nat.reduceMod, and_true, true_and, and_false, false_and, not_true_eq_false, not_false_eq_true, or_true, true_or, or_false, false_or, Int32.lt_irrefl, Int32.le_refl, e, zBit, c, Bool.toNat_true, yor, u, zOr, b7_12, b7_21, b7_30]) P (Nat.le_refl _) () trivial
  have k2 := k1.trans b7_4
  simp (disch := first | omega | simp (disch := omega) only [nI_add, pk_mul, pk_sub, pk_div, znmod, nI_clamp, nIleT, nIleF, nIltT, nIltF, nIeqT, nIeqF, nIm1, nIm1q, zupE, zupN, vpT, nI_01, nI_11, ↓reduceIte, Option.bind_some, Option.toList_some, Option.toList_none, List.cons_append, List.nil_append, Nat.reduceAdd, Nat.reduceMul, Nat.reduceSub, Nat.reduceDiv, Nat.reduceMod, and_true, true_and, and_false, false_and, not_true_eq_false, not_false_eq_true, or_true, true_or, or_false, false_or, Int32.lt_irrefl, Int32.le_refl, e, yor]) only [nI_add, pk_mul, pk_sub, pk_div, znmod, nI_clamp, nIleT, nIleF, nIltT, nIltF, nIeqT, nIeqF, nIm1, nIm1q, zupE, zupN, vpT, nI_01, nI_11, ↓reduceIte, Option.bind_some, Option.toList_some, Option.toList_none, List.cons_append, List.nil_append, Nat.reduceAdd, Nat.reduceMul, Nat.reduceSub, Nat.reduceDiv, Nat.reduceMod, and_true, true_and, and_false, false_and, not_true_eq_false, not_false_eq_true, or_true, true_or, or_false, false_or, Int32.lt_irrefl, Int32.le_refl, e, yor, b7_36] at k2
  exact b7_0.trans k2
theorem mCaught {s : Nat} (hP : P ≤ 12) (e : h 12 0 0 6 = nI P) (hk : ∀ p, p < P → h 12 0 40 p = nI (K p)) (hs : s < 2 ^ 12) : zev L (d + 1) 267 0 [some (.inr (.inl (12, 0, 0))), some (.inl (nI s)), none, none] [] h = some (some (.inl (nI (yca K P s))), h) := by
  obtain ⟨_, k1, _⟩ := zinv (P := fun p (_ : Unit) => zev L (d + 1) 267 4 [some (.inr (.inl (12, 0, 0))), some (.inl (nI s)), some (.inl (nI (s ||| yor K s p))), some (.inl (nI p))] [] h) (R := fun _ _ => True) (N := P) (fun p _ hp _ => by
    refine ⟨(), b267_4.trans ?_, trivial⟩
    have u := hk p hp
    have eo : s ||| yor K s p ||| K p = s ||| (yor K s p ||| K p) := Nat.or_assoc _ _ _
    cases c : s.testBit p
    · simp (disch := first | omega | simp (disch := omega) only [nI_add, pk_mul, pk_sub, pk_div, znmod, nI_clamp, nIleT, nIleF, nIltT, nIltF, nIeqT, nIeqF, nIm1, nIm1q, zupE, zupN, vpT, nI_01, nI_11, ↓reduceIte, Option.bind_some, Option.toList_some, Option.toList_none, List.cons_append, List.nil_append, Nat.reduceAdd, Nat.reduceMul, Nat.reduceSub, Nat.reduceDiv, Nat.reduceMod, and_true, true_and, and_false, false_and, not_true_eq_false, not_false_eq_true, or_true, true_or, or_false, false_or, Int32.lt_irrefl, Int32.le_refl, e, mHasB, c, Bool.toNat_false, yor, Bool.false_eq_true]) only [nI_add, pk_mul, pk_sub, pk_div, znmod, nI_clamp, nIleT, nIleF, nIltT, nIltF, nIeqT, nIeqF, nIm1, nIm1q, zupE, zupN, vpT, nI_01, nI_11, ↓reduceIte, Option.bind_some, Option.toList_some, Option.toList_none, List.cons_append, List.nil_append, Nat.reduceAdd, Nat.reduceMul, Nat.reduceSub, Nat.reduceDiv, Nat.reduceMod, and_true, true_and, and_false, false_and, not_true_eq_false, not_false_eq_true, or_true, true_or, or_false, false_or, Int32.lt_irrefl, Int32.le_refl, e, mHasB, c, Bool.toNat_false, yor, Bool.false_eq_true, b267_12, b267_18, b267_21, b267_30]
    · simp (disch := first | omega | simp (disch := omega) only [nI_add, pk_mul, pk_sub, pk_div, znmod, nI_clamp, nIleT, nIleF, nIltT, nIltF, nIeqT, nIeqF, nIm1, nIm1q, zupE, zupN, vpT, nI_01, nI_11, ↓reduceIte, Option.bind_some, Option.toList_some, Option.toList_none, List.cons_append, List.nil_append, Nat.reduceAdd, Nat.reduceMul, Nat.reduceSub, Nat.reduceDiv, Nat.reduceMod, and_true, true_and, and_false, false_and, not_true_eq_false, not_false_eq_true, or_true, true_or, or_false, false_or, Int32.lt_irrefl, Int32.le_refl, e, mHasB, c, Bool.toNat_true, yor, u, zOr, eo]) only [nI_add, pk_mul, pk_sub, pk_div, znmod, nI_clamp, nIleT, nIleF, nIltT, nIltF, nIeqT, nIeqF, nIm1, nIm1q, zupE, zupN, vpT, nI_01, nI_11, ↓reduceIte, Option.bind_some, Option.toList_some, Option.toList_none, List.cons_append, List.nil_append, Nat.reduceAdd, Nat.reduceMul, Nat.reduceSub, Nat.reduceDiv, Nat.reduceMod, and_true, true_and, and_false, false_and, not_true_eq_false, not_false_eq_true, or_true, true_or, or_false, false_or, Int32.lt_irrefl, Int32.le_refl, e, mHasB, c, Bool.toNat_true, yor, u, zOr, eo, b267_12, b267_18, b267_21, b267_30]) P (Nat.le_refl _) () trivial
  have k2 := k1.trans b267_4
  simp (disch := first | omega | simp (disch := omega) only [nI_add, pk_mul, pk_sub, pk_div, znmod, nI_clamp, nIleT, nIleF, nIltT, nIltF, nIeqT, nIeqF, nIm1, nIm1q, zupE, zupN, vpT, nI_01, nI_11, ↓reduceIte, Option.bind_some, Option.toList_some, Option.toList_none, List.cons_append, List.nil_append, Nat.reduceAdd, Nat.reduceMul, Nat.reduceSub, Nat.reduceDiv, Nat.reduceMod, and_true, true_and, and_false, false_and, not_true_eq_false, not_false_eq_true, or_true, true_or, or_false, false_or, Int32.lt_irrefl, Int32.le_refl, e, yor, Nat.or_zero]) only [nI_add, pk_mul, pk_sub, pk_div, znmod, nI_clamp, nIleT, nIleF, nIltT, nIltF, nIeqT, nIeqF, nIm1, nIm1q, zupE, zupN, vpT, nI_01, nI_11, ↓reduceIte, Option.bind_some, Option.toList_some, Option.toList_none, List.cons_append, List.nil_append, Nat.reduceAdd, Nat.reduceMul, Nat.reduceSub, Nat.reduceDiv, Nat.reduceMod, and_true, true_and, and_false, false_and, not_true_eq_false, not_false_eq_true, or_true, true_or, or_false, false_or, Int32.lt_irrefl, Int32.le_refl, e, yor, Nat.or_zero, b267_36] at k2
  exact b267_0.trans k2
theorem kSpread {a n : Nat} (hP : P ≤ 12) (e : h 0 0 0 2 = nI P) (hk : ∀ p, p < P → h 0 0 1 p = nI (K p)) (hK : ∀ p, p < P → K p < 2 ^ 12) (ha : a < 12) (hn : n ≤ 20) : zev L (d + 1) 5 0 [some (.inr (.inl (0, 0, 0))), some (.inl (nI a)), some (.inl (nI n)), none, none] [] h = some (some (.inl (nI (yit K P (2 ^ a) n))), h) := by
  have ka := fun s hs => kKinAll (L := L) (d := d) (h := h) (s := s) hP e hk hs
  obtain ⟨_, k1, _⟩ := zinv (P := fun j (_ : Unit) => zev L (d + 1) 5 7 [some (.inr (.inl (0, 0, 0))), some (.inl (nI a)), some (.inl (nI n)), some (.inl (nI (yit K P (2^a) j))), some (.inl (nI j))] [] h) (R := fun _ _ => True) (N := n) (fun j _ hj _ => by
    refine ⟨(), b5_7.trans ?_, trivial⟩
    have l := yit_lt (K := K) (P := P) (n := j) hK (z2p ha)
    have q := ka _ l
    simp (disch := first | omega | simp (disch := omega) only [nI_add, pk_mul, pk_sub, pk_div, znmod, nI_clamp, nIleT, nIleF, nIltT, nIltF, nIeqT, nIeqF, nIm1, nIm1q, zupE, zupN, vpT, nI_01, nI_11, ↓reduceIte, Option.bind_some, Option.toList_some, Option.toList_none, List.cons_append, List.nil_append, Nat.reduceAdd, Nat.reduceMul, Nat.reduceSub, Nat.reduceDiv, Nat.reduceMod, and_true, true_and, and_false, false_and, not_true_eq_false, not_false_eq_true, or_true, true_or, or_false, false_or, Int32.lt_irrefl, Int32.le_refl, q, zOr]) only [nI_add, pk_mul, pk_sub, pk_div, znmod, nI_clamp, nIleT, nIleF, nIltT, nIltF, nIeqT, nIeqF, nIm1, nIm1q, zupE, zupN, vpT, nI_01, nI_11, ↓reduceIte, Option.bind_some, Option.toList_some, Option.toList_none, List.cons_append, List.nil_append, Nat.reduceAdd, Nat.reduceMul, Nat.reduceSub, Nat.reduceDiv, Nat.reduceMod, and_true, true_and, and_false, false_and, not_true_eq_false, not_false_eq_true, or_true, true_or, or_false, false_or, Int32.lt_irrefl, Int32.le_refl, q, zOr, b5_13, b5_19]
    rfl) n (Nat.le_refl _) () trivial
  have k2 := k1.trans b5_7
  have e0 : yit K P (2 ^ a) 0 = 2 ^ a := rfl
  simp (disch := first | omega | simp (disch := omega) only [nI_add, pk_mul, pk_sub, pk_div, znmod, nI_clamp, nIleT, nIleF, nIltT, nIltF, nIeqT, nIeqF, nIm1, nIm1q, zupE, zupN, vpT, nI_01, nI_11, ↓reduceIte, Option.bind_some, Option.toList_some, Option.toList_none, List.cons_append, List.nil_append, Nat.reduceAdd, Nat.reduceMul, Nat.reduceSub, Nat.reduceDiv, Nat.reduceMod, and_true, true_and, and_false, false_and, not_true_eq_false, not_false_eq_true, or_true, true_or, or_false, false_or, Int32.lt_irrefl, Int32.le_refl, e0]) only [nI_add, pk_mul, pk_sub, pk_div, znmod, nI_clamp, nIleT, nIleF, nIltT, nIltF, nIeqT, nIeqF, nIm1, nIm1q, zupE, zupN, vpT, nI_01, nI_11, ↓reduceIte, Option.bind_some, Option.toList_some, Option.toList_none, List.cons_append, List.nil_append, Nat.reduceAdd, Nat.reduceMul, Nat.reduceSub, Nat.reduceDiv, Nat.reduceMod, and_true, true_and, and_false, false_and, not_true_eq_false, not_false_eq_true, or_true, true_or, or_false, false_or, Int32.lt_irrefl, Int32.le_refl, e0, b5_27] at k2
  simp (disch := first | omega | simp (disch := omega) only [nI_add, pk_mul, pk_sub, pk_div, znmod, nI_clamp, nIleT, nIleF, nIltT, nIltF, nIeqT, nIeqF, nIm1, nIm1q, zupE, zupN, vpT, nI_01, nI_11, ↓reduceIte, Option.bind_some, Option.toList_some, Option.toList_none, List.cons_append, List.nil_append, Nat.reduceAdd, Nat.reduceMul, Nat.reduceSub, Nat.reduceDiv, Nat.reduceMod, and_true, true_and, and_false, false_and, not_true_eq_false, not_false_eq_true, or_true, true_or, or_false, false_or, Int32.lt_irrefl, Int32.le_refl, zShl, k2]) only [nI_add, pk_mul, pk_sub, pk_div, znmod, nI_clamp, nIleT, nIleF, nIltT, nIltF, nIeqT, nIeqF, nIm1, nIm1q, zupE, zupN, vpT, nI_01, nI_11, ↓reduceIte, Option.bind_some, Option.toList_some, Option.toList_none, List.cons_append, List.nil_append, Nat.reduceAdd, Nat.reduceMul, Nat.reduceSub, Nat.reduceDiv, Nat.reduceMod, and_true, true_and, and_false, false_and, not_true_eq_false, not_false_eq_true, or_true, true_or, or_false, false_or, Int32.lt_irrefl, Int32.le_refl, zShl, k2, b5_0]
theorem kDays {a t : Nat} (hP : P ≤ 12) (e : h 0 0 0 2 = nI P) (hk : ∀ p, p < P → h 0 0 1 p = nI (K p)) (hK : ∀ p, p < P → K p < 2 ^ 12) (ha : a < 12) (ht : t ≤ 12) (h1 : yca K P (yit K P (2 ^ a) t) = yit K P (2 ^ a) t) (h2 : ∀ u, u < t → yca K P (yit K P (2 ^ a) u) ≠ yit K P (2 ^ a) u) : zev L (d + 1) 6 0 [some (.inr (.inl (0, 0, 0))), some (.inl (nI a)), none, none, none, none] [] h = some (some (.inl (nI t)), h) := by
  have ka := fun s hs => kKinAll (L := L) (d := d) (h := h) (s := s) hP e hk hs
  obtain ⟨s, k1, _⟩ := zinv (P := fun j (s : Option zV) => zev L (d + 1) 6 9 [some (.inr (.inl (0, 0, 0))), some (.inl (nI a)), some (.inl (nI (yit K P (2 ^ a) j))), some (.inl (nI (min j t))), some (.inl (nI j)), s] [] h) (R := fun _ _ => True) (N := 12) (fun j s hj _ => by
    refine ⟨some (.inl (nI (yit K P (2 ^ a) (j + 1)))), b6_9.trans ?_, trivial⟩
    have l := yit_lt (K := K) (P := P) (n := j) hK (z2p ha)
    have l2 := yit_lt (K := K) (P := P) (n := j + 1) hK (z2p ha)
    have q := ka _ l
    have eo : yit K P (2 ^ a) j ||| yor K (yit K P (2 ^ a) j) P = yit K P (2 ^ a) (j + 1) := rfl
    by_cases c : j < t
    · have hne : yit K P (2 ^ a) (j + 1) ≠ yit K P (2 ^ a) j := h2 j c
      have e1 : min (j + 1) t = min j t + 1 := by omega
      simp (disch := first | omega | simp (disch := omega) only [nI_add, pk_mul, pk_sub, pk_div, znmod, nI_clamp, nIleT, nIleF, nIltT, nIltF, nIeqT, nIeqF, nIm1, nIm1q, zupE, zupN, vpT, nI_01, nI_11, ↓reduceIte, Option.bind_some, Option.toList_some, Option.toList_none, List.cons_append, List.nil_append, Nat.reduceAdd, Nat.reduceMul, Nat.reduceSub, Nat.reduceDiv, Nat.reduceMod, and_true, true_and, and_false, false_and, not_true_eq_false, not_false_eq_true, or_true, true_or, or_false, false_or, Int32.lt_irrefl, Int32.le_refl, q, zOr, eo, e1]) only [nI_add, pk_mul, pk_sub, pk_div, znmod, nI_clamp, nIleT, nIleF, nIltT, nIltF, nIeqT, nIeqF, nIm1, nIm1q, zupE, zupN, vpT, nI_01, nI_11, ↓reduceIte, Option.bind_some, Option.toList_some, Option.toList_none, List.cons_append, List.nil_append, Nat.reduceAdd, Nat.reduceMul, Nat.reduceSub, Nat.reduceDiv, Nat.reduceMod, and_true, true_and, and_false, false_and, not_true_eq_false, not_false_eq_true, or_true, true_or, or_false, false_or, Int32.lt_irrefl, Int32.le_refl, q, zOr, eo, e1, b6_16, b6_22, b6_31, b6_34]
    · have heq : yit K P (2 ^ a) (j + 1) = yit K P (2 ^ a) j := by
        have f1 := yit_fix h1 (j - t)
        have f2 := yit_fix h1 (j + 1 - t)
        rw [show t + (j - t) = j by omega] at f1
        rw [show t + (j + 1 - t) = j + 1 by omega] at f2
        rw [f1, f2]
      have e1 : min (j + 1) t = min j t := by omega
      simp (disch := first | omega | simp (disch := omega) only [nI_add, pk_mul, pk_sub, pk_div, znmod, nI_clamp, nIleT, nIleF, nIltT, nIltF, nIeqT, nIeqF, nIm1, nIm1q, zupE, zupN, vpT, nI_01, nI_11, ↓reduceIte, Option.bind_some, Option.toList_some, Option.toList_none, List.cons_append, List.nil_append, Nat.reduceAdd, Nat.reduceMul, Nat.reduceSub, Nat.reduceDiv, Nat.reduceMod, and_true, true_and, and_false, false_and, not_true_eq_false, not_false_eq_true, or_true, true_or, or_false, false_or, Int32.lt_irrefl, Int32.le_refl, q, zOr, eo, e1, heq]) only [nI_add, pk_mul, pk_sub, pk_div, znmod, nI_clamp, nIleT, nIleF, nIltT, nIltF, nIeqT, nIeqF, nIm1, nIm1q, zupE, zupN, vpT, nI_01, nI_11, ↓reduceIte, Option.bind_some, Option.toList_some, Option.toList_none, List.cons_append, List.nil_append, Nat.reduceAdd, Nat.reduceMul, Nat.reduceSub, Nat.reduceDiv, Nat.reduceMod, and_true, true_and, and_false, false_and, not_true_eq_false, not_false_eq_true, or_true, true_or, or_false, false_or, Int32.lt_irrefl, Int32.le_refl, q, zOr, eo, e1, heq, b6_16, b6_22, b6_31, b6_34]) 12 (Nat.le_refl _) none trivial
  have k2 := k1.trans b6_9
  have e0 : yit K P (2 ^ a) 0 = 2 ^ a := rfl
  have e1 : min 12 t = t := by omega
  have e2 : min 0 t = 0 := by omega
  simp (disch := first | omega | simp (disch := omega) only [nI_add, pk_mul, pk_sub, pk_div, znmod, nI_clamp, nIleT, nIleF, nIltT, nIltF, nIeqT, nIeqF, nIm1, nIm1q, zupE, zupN, vpT, nI_01, nI_11, ↓reduceIte, Option.bind_some, Option.toList_some, Option.toList_none, List.cons_append, List.nil_append, Nat.reduceAdd, Nat.reduceMul, Nat.reduceSub, Nat.reduceDiv, Nat.reduceMod, and_true, true_and, and_false, false_and, not_true_eq_false, not_false_eq_true, or_true, true_or, or_false, false_or, Int32.lt_irrefl, Int32.le_refl, e0, e1, e2]) only [nI_add, pk_mul, pk_sub, pk_div, znmod, nI_clamp, nIleT, nIleF, nIltT, nIltF, nIeqT, nIeqF, nIm1, nIm1q, zupE, zupN, vpT, nI_01, nI_11, ↓reduceIte, Option.bind_some, Option.toList_some, Option.toList_none, List.cons_append, List.nil_append, Nat.reduceAdd, Nat.reduceMul, Nat.reduceSub, Nat.reduceDiv, Nat.reduceMod, and_true, true_and, and_false, false_and, not_true_eq_false, not_false_eq_true, or_true, true_or, or_false, false_or, Int32.lt_irrefl, Int32.le_refl, e0, e1, e2, b6_43] at k2
  simp (disch := first | omega | simp (disch := omega) only [nI_add, pk_mul, pk_sub, pk_div, znmod, nI_clamp, nIleT, nIleF, nIltT, nIltF, nIeqT, nIeqF, nIm1, nIm1q, zupE, zupN, vpT, nI_01, nI_11, ↓reduceIte, Option.bind_some, Option.toList_some, Option.toList_none, List.cons_append, List.nil_append, Nat.reduceAdd, Nat.reduceMul, Nat.reduceSub, Nat.reduceDiv, Nat.reduceMod, and_true, true_and, and_false, false_and, not_true_eq_false, not_false_eq_true, or_true, true_or, or_false, false_or, Int32.lt_irrefl, Int32.le_refl, zShl, k2]) only [nI_add, pk_mul, pk_sub, pk_div, znmod, nI_clamp, nIleT, nIleF, nIltT, nIltF, nIeqT, nIeqF, nIm1, nIm1q, zupE, zupN, vpT, nI_01, nI_11, ↓reduceIte, Option.bind_some, Option.toList_some, Option.toList_none, List.cons_append, List.nil_append, Nat.reduceAdd, Nat.reduceMul, Nat.reduceSub, Nat.reduceDiv, Nat.reduceMod, and_true, true_and, and_false, false_and, not_true_eq_false, not_false_eq_true, or_true, true_or, or_false, false_or, Int32.lt_irrefl, Int32.le_refl, zShl, k2, b6_0]
theorem mCold {a t : Nat} {x : Int32} (hP : P ≤ 12) (e : h 12 0 0 6 = nI P) (hk : ∀ p, p < P → h 12 0 40 p = nI (K p)) (hK : ∀ p, p < P → K p < 2 ^ 12) (ha : a < 12) (ht : t ≤ 20) (hx : ∀ u, u < t → ¬ nI u = x) (h2 : ∀ u, u < t → yca K P (yit K P (2 ^ a) u) ≠ yit K P (2 ^ a) u) :
    zev L (d + 2) 268 33 [some (.inr (.inl (12, 0, 0))), some (.inl (nI a)), some (.inl x), some (.inl (nI (2^a))), some (.inl (nI 0))] [] h = zev L (d + 2) 268 33 [some (.inr (.inl (12, 0, 0))), some (.inl (nI a)), some (.inl x), some (.inl (nI (yit K P (2^a) t))), some (.inl (nI t))] [] h := by
  obtain ⟨_, k1, _⟩ := zinv (P := fun j (_ : Unit) => zev L (d + 2) 268 33 [some (.inr (.inl (12, 0, 0))), some (.inl (nI a)), some (.inl x), some (.inl (nI (yit K P (2^a) j))), some (.inl (nI j))] [] h) (R := fun _ _ => True) (N := t) (fun j _ hj _ => by
    refine ⟨(), b268_33.trans ?_, trivial⟩
    have l := yit_lt (K := K) (P := P) (n := j) hK (z2p ha)
    have l2 := yca_lt (K := K) (P := P) (s := yit K P (2 ^ a) j) hK l
    have q := mCaught (L := L) (d := d) (h := h) (K := K) (s := yit K P (2 ^ a) j) hP e hk l
    have n1 := hx j hj
    have n2 := h2 j hj
    have e3 : yit K P (2 ^ a) (j + 1) = yca K P (yit K P (2 ^ a) j) := rfl
    simp (disch := first | omega | simp (disch := omega) only [nI_add, pk_mul, pk_sub, pk_div, znmod, nI_clamp, nIleT, nIleF, nIltT, nIltF, nIeqT, nIeqF, nIm1, nIm1q, zupE, zupN, vpT, nI_01, nI_11, ↓reduceIte, Option.bind_some, Option.toList_some, Option.toList_none, List.cons_append, List.nil_append, Nat.reduceAdd, Nat.reduceMul, Nat.reduceSub, Nat.reduceDiv, Nat.reduceMod, and_true, true_and, and_false, false_and, not_true_eq_false, not_false_eq_true, or_true, true_or, or_false, false_or, Int32.lt_irrefl, Int32.le_refl, n1, q, e3]) only [nI_add, pk_mul, pk_sub, pk_div, znmod, nI_clamp, nIleT, nIleF, nIltT, nIltF, nIeqT, nIeqF, nIm1, nIm1q, zupE, zupN, vpT, nI_01, nI_11, ↓reduceIte, Option.bind_some, Option.toList_some, Option.toList_none, List.cons_append, List.nil_append, Nat.reduceAdd, Nat.reduceMul, Nat.reduceSub, Nat.reduceDiv, Nat.reduceMod, and_true, true_and, and_false, false_and, not_true_eq_false, not_false_eq_true, or_true, true_or, or_false, false_or, Int32.lt_irrefl, Int32.le_refl, n1, q, e3, b268_39, b268_44, b268_48, b268_53]) t (Nat.le_refl _) () trivial
  exact k1
theorem o_cold (R : Rel hc hm) : zS2 (zev L (d + 20) 142 0 [some (.inr (.inl (11, 0, 0))), some (.inl x1), some (.inl x2)] [] hc) (zev L (d + 20) 268 0 [some (.inr (.inl (12, 0, 0))), some (.inl x1), some (.inl x2), none, none] [] hm) Rel := by
  have R' := R
  obtain ⟨P, H, ⟨rM, rp, rb, rl, rf, rh, rk, r0, r1, r2, r3, r4⟩, ra, rt, re, ri, rs⟩ := R
  have e8 : hc 3 0 0 8 = nI P := rM.1.1
  have hP : P ≤ 12 := rM.1.2.2.1
  have e6 : hm 12 0 0 6 = nI P := rp.1
  obtain ⟨N, hN, k1, k2, k3, k4⟩ := RKn_l rk hP
  rcases zargL x1 P (by omega) with ⟨a, ha, rfl⟩ | q
  · obtain ⟨g, t1, t2, t3, t4⟩ := kTake (L := L) (d := d + 16) hP hN k1 k3
    have hK : ∀ p, p < P → ks (hc 2 3 1) p N < 2 ^ 12 := fun p _ => ks_lt k3
    have g6 : (zup hm 12 0 0 0 (nI 0)) 12 0 0 6 = nI P := by simp (disch := first | omega | simp (disch := omega) only [nI_add, pk_mul, pk_sub, pk_div, znmod, nI_clamp, nIleT, nIleF, nIltT, nIltF, nIeqT, nIeqF, nIm1, nIm1q, zupE, zupN, vpT, nI_01, nI_11, ↓reduceIte, Option.bind_some, Option.toList_some, Option.toList_none, List.cons_append, List.nil_append, Nat.reduceAdd, Nat.reduceMul, Nat.reduceSub, Nat.reduceDiv, Nat.reduceMod, and_true, true_and, and_false, false_and, not_true_eq_false, not_false_eq_true, or_true, true_or, or_false, false_or, Int32.lt_irrefl, Int32.le_refl]) only [nI_add, pk_mul, pk_sub, pk_div, znmod, nI_clamp, nIleT, nIleF, nIltT, nIltF, nIeqT, nIeqF, nIm1, nIm1q, zupE, zupN, vpT, nI_01, nI_11, ↓reduceIte, Option.bind_some, Option.toList_some, Option.toList_none, List.cons_append, List.nil_append, Nat.reduceAdd, Nat.reduceMul, Nat.reduceSub, Nat.reduceDiv, Nat.reduceMod, and_true, true_and, and_false, false_and, not_true_eq_false, not_false_eq_true, or_true, true_or, or_false, false_or, Int32.lt_irrefl, Int32.le_refl]; exact e6
    have g40 : ∀ p, p < P → (zup hm 12 0 0 0 (nI 0)) 12 0 40 p = nI (ks (hc 2 3 1) p N) := by simp (disch := first | omega | simp (disch := omega) only [nI_add, pk_mul, pk_sub, pk_div, znmod, nI_clamp, nIleT, nIleF, nIltT, nIltF, nIeqT, nIeqF, nIm1, nIm1q, zupE, zupN, vpT, nI_01, nI_11, ↓reduceIte, Option.bind_some, Option.toList_some, Option.toList_none, List.cons_append, List.nil_append, Nat.reduceAdd, Nat.reduceMul, Nat.reduceSub, Nat.reduceDiv, Nat.reduceMod, and_true, true_and, and_false, false_and, not_true_eq_false, not_false_eq_true, or_true, true_or, or_false, false_or, Int32.lt_irrefl, Int32.le_refl]) only [nI_add, pk_mul, pk_sub, pk_div, znmod, nI_clamp, nIleT, nIleF, nIltT, nIltF, nIeqT, nIeqF, nIm1, nIm1q, zupE, zupN, vpT, nI_01, nI_11, ↓reduceIte, Option.bind_some, Option.toList_some, Option.toList_none, List.cons_append, List.nil_append, Nat.reduceAdd, Nat.reduceMul, Nat.reduceSub, Nat.reduceDiv, Nat.reduceMod, and_true, true_and, and_false, false_and, not_true_eq_false, not_false_eq_true, or_true, true_or, or_false, false_or, Int32.lt_irrefl, Int32.le_refl]; exact fun p hp => k4 p (by omega)
    obtain ⟨t, ht, f1, f2⟩ := yfix (K := fun p => ks (hc 2 3 1) p N) (s := 2 ^ a) (P := P) hK (z2p (by omega))
    by_cases hy : x2 = (-1)
    · subst hy
      have z1 : ((-1 : Int32) ≤ (-1) ∧ (-1 : Int32) ≤ nI 20) = True := by decide
      have kd := fun d => kDays (L := L) (d := d) (h := g) (a := a) hP t2 t3 hK (by omega) ht f1 f2
      have mc := mCold (L := L) (d := d + 18) (h := zup hm 12 0 0 0 (nI 0)) (a := a) (t := t) (x := (-1)) hP g6 g40 hK (by omega) (by omega) (fun u hu => by rw [nIm1 (by omega)]; exact id) f2
      have mc2 := mc.trans b268_33
      have l := yit_lt (K := fun p => ks (hc 2 3 1) p N) (P := P) (n := t) hK (z2p (a := a) (by omega))
      have q := mCaught (L := L) (d := d + 18) (h := zup hm 12 0 0 0 (nI 0)) (K := fun p => ks (hc 2 3 1) p N) hP g6 g40 l
      rw [f1] at q
      simp (disch := first | omega | simp (disch := omega) only [nI_add, pk_mul, pk_sub, pk_div, znmod, nI_clamp, nIleT, nIleF, nIltT, nIltF, nIeqT, nIeqF, nIm1, nIm1q, zupE, zupN, vpT, nI_01, nI_11, ↓reduceIte, Option.bind_some, Option.toList_some, Option.toList_none, List.cons_append, List.nil_append, Nat.reduceAdd, Nat.reduceMul, Nat.reduceSub, Nat.reduceDiv, Nat.reduceMod, and_true, true_and, and_false, false_and, not_true_eq_false, not_false_eq_true, or_true, true_or, or_false, false_or, Int32.lt_irrefl, Int32.le_refl, q]) only [nI_add, pk_mul, pk_sub, pk_div, znmod, nI_clamp, nIleT, nIleF, nIltT, nIltF, nIeqT, nIeqF, nIm1, nIm1q, zupE, zupN, vpT, nI_01, nI_11, ↓reduceIte, Option.bind_some, Option.toList_some, Option.toList_none, List.cons_append, List.nil_append, Nat.reduceAdd, Nat.reduceMul, Nat.reduceSub, Nat.reduceDiv, Nat.reduceMod, and_true, true_and, and_false, false_and, not_true_eq_false, not_false_eq_true, or_true, true_or, or_false, false_or, Int32.lt_irrefl, Int32.le_refl, q, b268_39, b268_44, b268_63, b268_68, b268_78] at mc2
      simp (disch := first | omega | simp (disch := omega) only [nI_add, pk_mul, pk_sub, pk_div, znmod, nI_clamp, nIleT, nIleF, nIltT, nIltF, nIeqT, nIeqF, nIm1, nIm1q, zupE, zupN, vpT, nI_01, nI_11, ↓reduceIte, Option.bind_some, Option.toList_some, Option.toList_none, List.cons_append, List.nil_append, Nat.reduceAdd, Nat.reduceMul, Nat.reduceSub, Nat.reduceDiv, Nat.reduceMod, and_true, true_and, and_false, false_and, not_true_eq_false, not_false_eq_true, or_true, true_or, or_false, false_or, Int32.lt_irrefl, Int32.le_refl, kPers, mPers, kw, mIn, e8, e6, z1, t1, kd, zShl, mc2]) only [nI_add, pk_mul, pk_sub, pk_div, znmod, nI_clamp, nIleT, nIleF, nIltT, nIltF, nIeqT, nIeqF, nIm1, nIm1q, zupE, zupN, vpT, nI_01, nI_11, ↓reduceIte, Option.bind_some, Option.toList_some, Option.toList_none, List.cons_append, List.nil_append, Nat.reduceAdd, Nat.reduceMul, Nat.reduceSub, Nat.reduceDiv, Nat.reduceMod, and_true, true_and, and_false, false_and, not_true_eq_false, not_false_eq_true, or_true, true_or, or_false, false_or, Int32.lt_irrefl, Int32.le_refl, kPers, mPers, kw, mIn, e8, e6, z1, t1, kd, zShl, mc2, b142_0, b142_11, b142_14, b142_21, b142_24, b142_26, b142_47, b142_52, b142_60, b142_63, b142_72, b142_75, b268_0, b268_5, b268_10, b268_13, b268_21, b268_24, b268_26, b268_39, b268_44, b268_48, b268_53, b268_63, b268_68, b268_73, b268_78]
      exact ⟨_, _, _, rfl, rfl, Rel_y R' t4 (yM_u yM_r rfl)⟩
    · rcases zarg x2 20 (by omega) with ⟨n, hn, rfl⟩ | q2
      · have z1 : ((-1 : Int32) ≤ nI n) = True := eq_true (by (simp (disch := omega) only [Int32.le_iff_toInt_le, Int32.lt_iff_toInt_lt, ← Int32.toInt_inj, nI_toInt, znm1]; omega))
        have ksp := fun d => kSpread (L := L) (d := d) (h := g) (a := a) (n := n) hP t2 t3 hK (by omega) hn
        have mc := mCold (L := L) (d := d + 18) (h := zup hm 12 0 0 0 (nI 0)) (a := a) (t := min t n) (x := nI n) hP g6 g40 hK (by omega) (by omega) (fun u hu => by rw [nIeqF (by omega) (by omega) (by omega)]; exact id) (fun u hu => f2 u (by omega))
        have mc2 := mc.trans b268_33
        have ee : yit (fun p => ks (hc 2 3 1) p N) P (2 ^ a) (min t n) = yit (fun p => ks (hc 2 3 1) p N) P (2 ^ a) n := by
          by_cases c : t ≤ n
          · have f3 := yit_fix f1 (n - t)
            rw [show t + (n - t) = n by omega] at f3
            rw [show min t n = t by omega, f3]
          · rw [show min t n = n by omega]
        rw [ee] at mc2
        have l := yit_lt (K := fun p => ks (hc 2 3 1) p N) (P := P) (n := n) hK (z2p (a := a) (by omega))
        have mo := fun d => mOnes (L := L) (d := d) (h := zup hm 12 0 0 0 (nI 0)) l
        have kb := fun d => kBC (L := L) (d := d) (h := g) l
        by_cases c : t < n
        · have q := mCaught (L := L) (d := d + 18) (h := zup hm 12 0 0 0 (nI 0)) (K := fun p => ks (hc 2 3 1) p N) hP g6 g40 l
          have f4 : yca (fun p => ks (hc 2 3 1) p N) P (yit (fun p => ks (hc 2 3 1) p N) P (2 ^ a) n) = yit (fun p => ks (hc 2 3 1) p N) P (2 ^ a) n := by
            have f3 := yit_fix f1 (n - t)
            rw [show t + (n - t) = n by omega] at f3
            rw [f3, f1]
          rw [f4] at q
          have em : min t n = t := by omega
          simp (disch := first | omega | simp (disch := omega) only [nI_add, pk_mul, pk_sub, pk_div, znmod, nI_clamp, nIleT, nIleF, nIltT, nIltF, nIeqT, nIeqF, nIm1, nIm1q, zupE, zupN, vpT, nI_01, nI_11, ↓reduceIte, Option.bind_some, Option.toList_some, Option.toList_none, List.cons_append, List.nil_append, Nat.reduceAdd, Nat.reduceMul, Nat.reduceSub, Nat.reduceDiv, Nat.reduceMod, and_true, true_and, and_false, false_and, not_true_eq_false, not_false_eq_true, or_true, true_or, or_false, false_or, Int32.lt_irrefl, Int32.le_refl, q, em, mo]) only [nI_add, pk_mul, pk_sub, pk_div, znmod, nI_clamp, nIleT, nIleF, nIltT, nIltF, nIeqT, nIeqF, nIm1, nIm1q, zupE, zupN, vpT, nI_01, nI_11, ↓reduceIte, Option.bind_some, Option.toList_some, Option.toList_none, List.cons_append, List.nil_append, Nat.reduceAdd, Nat.reduceMul, Nat.reduceSub, Nat.reduceDiv, Nat.reduceMod, and_true, true_and, and_false, false_and, not_true_eq_false, not_false_eq_true, or_true, true_or, or_false, false_or, Int32.lt_irrefl, Int32.le_refl, q, em, mo, b268_39, b268_44, b268_63, b268_73, b268_78] at mc2
          simp (disch := first | omega | simp (disch := omega) only [nI_add, pk_mul, pk_sub, pk_div, znmod, nI_clamp, nIleT, nIleF, nIltT, nIltF, nIeqT, nIeqF, nIm1, nIm1q, zupE, zupN, vpT, nI_01, nI_11, ↓reduceIte, Option.bind_some, Option.toList_some, Option.toList_none, List.cons_append, List.nil_append, Nat.reduceAdd, Nat.reduceMul, Nat.reduceSub, Nat.reduceDiv, Nat.reduceMod, and_true, true_and, and_false, false_and, not_true_eq_false, not_false_eq_true, or_true, true_or, or_false, false_or, Int32.lt_irrefl, Int32.le_refl, kPers, mPers, kw, mIn, e8, e6, z1, t1, ksp, kb, zShl, mc2]) only [nI_add, pk_mul, pk_sub, pk_div, znmod, nI_clamp, nIleT, nIleF, nIltT, nIltF, nIeqT, nIeqF, nIm1, nIm1q, zupE, zupN, vpT, nI_01, nI_11, ↓reduceIte, Option.bind_some, Option.toList_some, Option.toList_none, List.cons_append, List.nil_append, Nat.reduceAdd, Nat.reduceMul, Nat.reduceSub, Nat.reduceDiv, Nat.reduceMod, and_true, true_and, and_false, false_and, not_true_eq_false, not_false_eq_true, or_true, true_or, or_false, false_or, Int32.lt_irrefl, Int32.le_refl, kPers, mPers, kw, mIn, e8, e6, z1, t1, ksp, kb, zShl, mc2, b142_0, b142_11, b142_14, b142_21, b142_24, b142_26, b142_47, b142_52, b142_60, b142_63, b142_72, b142_75, b268_0, b268_5, b268_10, b268_13, b268_21, b268_24, b268_26, b268_39, b268_44, b268_48, b268_53, b268_63, b268_68, b268_73, b268_78]
          exact ⟨_, _, _, rfl, rfl, Rel_y R' t4 (yM_u yM_r rfl)⟩
        · have em : min t n = n := by omega
          simp (disch := first | omega | simp (disch := omega) only [nI_add, pk_mul, pk_sub, pk_div, znmod, nI_clamp, nIleT, nIleF, nIltT, nIltF, nIeqT, nIeqF, nIm1, nIm1q, zupE, zupN, vpT, nI_01, nI_11, ↓reduceIte, Option.bind_some, Option.toList_some, Option.toList_none, List.cons_append, List.nil_append, Nat.reduceAdd, Nat.reduceMul, Nat.reduceSub, Nat.reduceDiv, Nat.reduceMod, and_true, true_and, and_false, false_and, not_true_eq_false, not_false_eq_true, or_true, true_or, or_false, false_or, Int32.lt_irrefl, Int32.le_refl, em, mo]) only [nI_add, pk_mul, pk_sub, pk_div, znmod, nI_clamp, nIleT, nIleF, nIltT, nIltF, nIeqT, nIeqF, nIm1, nIm1q, zupE, zupN, vpT, nI_01, nI_11, ↓reduceIte, Option.bind_some, Option.toList_some, Option.toList_none, List.cons_append, List.nil_append, Nat.reduceAdd, Nat.reduceMul, Nat.reduceSub, Nat.reduceDiv, Nat.reduceMod, and_true, true_and, and_false, false_and, not_true_eq_false, not_false_eq_true, or_true, true_or, or_false, false_or, Int32.lt_irrefl, Int32.le_refl, em, mo, b268_39, b268_44, b268_63, b268_73, b268_78] at mc2
          simp (disch := first | omega | simp (disch := omega) only [nI_add, pk_mul, pk_sub, pk_div, znmod, nI_clamp, nIleT, nIleF, nIltT, nIltF, nIeqT, nIeqF, nIm1, nIm1q, zupE, zupN, vpT, nI_01, nI_11, ↓reduceIte, Option.bind_some, Option.toList_some, Option.toList_none, List.cons_append, List.nil_append, Nat.reduceAdd, Nat.reduceMul, Nat.reduceSub, Nat.reduceDiv, Nat.reduceMod, and_true, true_and, and_false, false_and, not_true_eq_false, not_false_eq_true, or_true, true_or, or_false, false_or, Int32.lt_irrefl, Int32.le_refl, kPers, mPers, kw, mIn, e8, e6, z1, t1, ksp, kb, zShl, mc2]) only [nI_add, pk_mul, pk_sub, pk_div, znmod, nI_clamp, nIleT, nIleF, nIltT, nIltF, nIeqT, nIeqF, nIm1, nIm1q, zupE, zupN, vpT, nI_01, nI_11, ↓reduceIte, Option.bind_some, Option.toList_some, Option.toList_none, List.cons_append, List.nil_append, Nat.reduceAdd, Nat.reduceMul, Nat.reduceSub, Nat.reduceDiv, Nat.reduceMod, and_true, true_and, and_false, false_and, not_true_eq_false, not_false_eq_true, or_true, true_or, or_false, false_or, Int32.lt_irrefl, Int32.le_refl, kPers, mPers, kw, mIn, e8, e6, z1, t1, ksp, kb, zShl, mc2, b142_0, b142_11, b142_14, b142_21, b142_24, b142_26, b142_47, b142_52, b142_60, b142_63, b142_72, b142_75, b268_0, b268_5, b268_10, b268_13, b268_21, b268_24, b268_26, b268_39, b268_44, b268_48, b268_53, b268_63, b268_68, b268_73, b268_78]
          exact ⟨_, _, _, rfl, rfl, Rel_y R' t4 (yM_u yM_r rfl)⟩
      · have z1 : ¬ ((-1 : Int32) ≤ x2 ∧ x2 ≤ nI 20) := by
          intro z
          have z2 : x2.toInt ≠ -1 := fun q => hy (Int32.toInt_inj.mp (q.trans znm1.symm))
          (simp (disch := omega) only [Int32.le_iff_toInt_le, Int32.lt_iff_toInt_lt, ← Int32.toInt_inj, nI_toInt, znm1] at z q2 ⊢; omega)
        simp (disch := first | omega | simp (disch := omega) only [nI_add, pk_mul, pk_sub, pk_div, znmod, nI_clamp, nIleT, nIleF, nIltT, nIltF, nIeqT, nIeqF, nIm1, nIm1q, zupE, zupN, vpT, nI_01, nI_11, ↓reduceIte, Option.bind_some, Option.toList_some, Option.toList_none, List.cons_append, List.nil_append, Nat.reduceAdd, Nat.reduceMul, Nat.reduceSub, Nat.reduceDiv, Nat.reduceMod, and_true, true_and, and_false, false_and, not_true_eq_false, not_false_eq_true, or_true, true_or, or_false, false_or, Int32.lt_irrefl, Int32.le_refl, kPers, mPers, kw, mIn, e8, e6, z1]) only [nI_add, pk_mul, pk_sub, pk_div, znmod, nI_clamp, nIleT, nIleF, nIltT, nIltF, nIeqT, nIeqF, nIm1, nIm1q, zupE, zupN, vpT, nI_01, nI_11, ↓reduceIte, Option.bind_some, Option.toList_some, Option.toList_none, List.cons_append, List.nil_append, Nat.reduceAdd, Nat.reduceMul, Nat.reduceSub, Nat.reduceDiv, Nat.reduceMod, and_true, true_and, and_false, false_and, not_true_eq_false, not_false_eq_true, or_true, true_or, or_false, false_or, Int32.lt_irrefl, Int32.le_refl, kPers, mPers, kw, mIn, e8, e6, z1, b142_0, b142_11, b142_14, b142_21, b142_24, b142_26, b142_47, b142_52, b142_60, b142_63, b142_72, b142_75, b268_0, b268_5, b268_10, b268_13, b268_21, b268_24, b268_26, b268_39, b268_44, b268_48, b268_53, b268_63, b268_68, b268_73, b268_78]
        exact zS2_no R'
  · simp (disch := first | omega | simp (disch := omega) only [nI_add, pk_mul, pk_sub, pk_div, znmod, nI_clamp, nIleT, nIleF, nIltT, nIltF, nIeqT, nIeqF, nIm1, nIm1q, zupE, zupN, vpT, nI_01, nI_11, ↓reduceIte, Option.bind_some, Option.toList_some, Option.toList_none, List.cons_append, List.nil_append, Nat.reduceAdd, Nat.reduceMul, Nat.reduceSub, Nat.reduceDiv, Nat.reduceMod, and_true, true_and, and_false, false_and, not_true_eq_false, not_false_eq_true, or_true, true_or, or_false, false_or, Int32.lt_irrefl, Int32.le_refl, kPers, mPers, kw, mIn, e8, e6, q]) only [nI_add, pk_mul, pk_sub, pk_div, znmod, nI_clamp, nIleT, nIleF, nIltT, nIltF, nIeqT, nIeqF, nIm1, nIm1q, zupE, zupN, vpT, nI_01, nI_11, ↓reduceIte, Option.bind_some, Option.toList_some, Option.toList_none, List.cons_append, List.nil_append, Nat.reduceAdd, Nat.reduceMul, Nat.reduceSub, Nat.reduceDiv, Nat.reduceMod, and_true, true_and, and_false, false_and, not_true_eq_false, not_false_eq_true, or_true, true_or, or_false, false_or, Int32.lt_irrefl, Int32.le_refl, kPers, mPers, kw, mIn, e8, e6, q, b142_0, b142_11, b142_14, b142_21, b142_24, b142_26, b142_47, b142_52, b142_60, b142_63, b142_72, b142_75, b268_0, b268_5, b268_10, b268_13, b268_21, b268_24, b268_26, b268_39, b268_44, b268_48, b268_53, b268_63, b268_68, b268_73, b268_78]
    exact zS2_no R'
end KN
