/-! operation pairs -/
def ymx (f : Nat → Nat) (b : Nat) : Nat → Nat
  | 0 => b
  | q + 1 => if ymx f b q ≤ f q then f q else ymx f b q
def ymp (K : Nat → Nat) (P s : Nat) : Nat :=
  if s = 0 then 0 else ymx (fun q => if (s &&& (s - 1)).testBit q = true ∧ (K (yfs s)).testBit q = false then 1 + ymp K P ((s &&& (s - 1)) &&& ymk q) else 0) (ymp K P (s &&& (s - 1))) P
termination_by s
decreasing_by
  all_goals
    have h1 : s &&& (s - 1) ≤ s - 1 := Nat.and_le_right
    have h2 : ∀ x, (s &&& (s - 1)) &&& x ≤ s &&& (s - 1) := fun x => Nat.and_le_left
    first
      | omega
      | (have := h2 (ymk q); omega)
def ypf (K : Nat → Nat) (P s q : Nat) : Nat := if (s &&& (s - 1)).testBit q = true ∧ (K (yfs s)).testBit q = false then 1 + ymp K P ((s &&& (s - 1)) &&& ymk q) else 0
theorem ymp_0 {K : Nat → Nat} {P : Nat} : ymp K P 0 = 0 := by rw [ymp, if_pos rfl]
theorem ymp_s {K : Nat → Nat} {P s : Nat} (h : s ≠ 0) : ymp K P s = ymx (ypf K P s) (ymp K P (s &&& (s - 1))) P := by
  rw [ymp, if_neg h]
  rfl
theorem ymx_b {f : Nat → Nat} {b : Nat} : ∀ n, b ≤ ymx f b n
  | 0 => Nat.le_refl _
  | n + 1 => by
    have := ymx_b (f := f) (b := b) n
    rw [ymx]
    split <;> omega
theorem ymx_m {f : Nat → Nat} {b n : Nat} : ∀ k, ymx f b n ≤ ymx f b (n + k)
  | 0 => Nat.le_refl _
  | k + 1 => by
    have := ymx_m (f := f) (b := b) (n := n) k
    rw [← Nat.add_assoc, ymx]
    split <;> omega
theorem ymx_le {f : Nat → Nat} {b e : Nat} (hb : b ≤ e) : ∀ n, (∀ q, q < n → f q ≤ e) → ymx f b n ≤ e
  | 0, _ => hb
  | n + 1, h => by
    have h1 := ymx_le hb n (fun q hq => h q (by omega))
    have h2 := h n (by omega)
    rw [ymx]
    split <;> omega
theorem ymx_z {f : Nat → Nat} {b : Nat} : ∀ n, (∀ q, q < n → f q = 0) → ymx f b n = b
  | 0, _ => rfl
  | n + 1, h => by
    rw [ymx, ymx_z n (fun q hq => h q (by omega)), h n (by omega)]
    split
    · omega
    · rfl
theorem ymk_bit {q i : Nat} (hq : q < 12) : (ymk q).testBit i = (decide (i < 12) && !decide (q = i)) := by
  unfold ymk
  rw [Nat.testBit_xor, Nat.testBit_two_pow, show (4095 : Nat) = 2 ^ 12 - 1 from rfl, Nat.testBit_two_pow_sub_one]
  by_cases h1 : i < 12
  · simp [h1]
  · have : ¬ q = i := by omega
    simp [h1, this]
theorem yxor_mk {r q : Nat} (hr : r < 4096) (hq : q < 12) (h : r.testBit q = true) : r ^^^ 2 ^ q = r &&& ymk q := by
  apply Nat.eq_of_testBit_eq
  intro i
  rw [Nat.testBit_xor, Nat.testBit_two_pow, Nat.testBit_and, ymk_bit hq]
  by_cases h1 : i < 12
  · by_cases e : q = i
    · subst e; simp [h]
    · simp [h1, e]
  · have h2 : r.testBit i = false := Nat.testBit_lt_two_pow (Nat.lt_of_lt_of_le hr (show 2 ^ 12 ≤ 2 ^ i from Nat.pow_le_pow_right (by decide) (by omega)))
    have : ¬ q = i := by omega
    simp [h2, this]
theorem yand_lt {r x : Nat} (hr : r < 4096) : r &&& x < 4096 := Nat.lt_of_le_of_lt Nat.and_le_left hr
theorem ycnt_o {f g : Nat → Nat} {q : Nat} : ∀ n, q < n → (∀ j, j < n → j ≠ q → f j = g j) → f q + 1 = g q → ycnt f n + 1 = ycnt g n
  | 0, h, _, _ => absurd h (Nat.not_lt_zero _)
  | n + 1, h, h1, h2 => by
    rw [ycnt, ycnt]
    by_cases e : q = n
    · subst e
      have := ycnt_c (f := f) (g := g) (n := q) (fun i hi => h1 i (by omega) (by omega))
      omega
    · have := ycnt_o n (by omega) (fun j hj hne => h1 j (by omega) hne) h2
      have := h1 n (by omega) (fun q' => e q'.symm)
      omega
theorem yones_mk {r q : Nat} (hq : q < 12) (h : r.testBit q = true) : yones (r &&& ymk q) + 1 = yones r := by
  refine ycnt_o 12 hq (fun j hj hne => ?_) ?_
  · have : ¬ q = j := fun e => hne e.symm
    rw [Nat.testBit_and, ymk_bit hq]
    simp [hj, this]
  · rw [Nat.testBit_and, ymk_bit hq, h]
    simp
theorem ymp_le {K : Nat → Nat} {P : Nat} (hP : P ≤ 12) : ∀ s, s < 4096 → ymp K P s ≤ yones s / 2 := by
  intro s
  induction s using Nat.strongRecOn with
  | ind s ih =>
    intro hs
    by_cases h : s = 0
    · rw [h, ymp_0]; omega
    · obtain ⟨h1, h2⟩ := yones_s s hs h
      rw [ymp_s h]
      refine ymx_le ?_ P (fun q hq => ?_)
      · have := ih (s &&& (s - 1)) h1 (by omega)
        omega
      · unfold ypf
        split
        · next hc =>
          have h3 : s &&& (s - 1) &&& ymk q ≤ s &&& (s - 1) := Nat.and_le_left
          have h4 := ih (s &&& (s - 1) &&& ymk q) (by omega) (by omega)
          have h5 := yones_mk (r := s &&& (s - 1)) (by omega) hc.1
          omega
        · omega
theorem ym1 : (-1 : Int32) = nI 4294967295 := by decide
theorem yAndN {a b : Nat} (ha : a < 4096) (hb : b < 4096) : nI a &&& (nI b ^^^ (-1)) = nI (a &&& (4095 ^^^ b)) := by
  rw [ym1, zXor, zAnd]
  congr 1
  apply Nat.eq_of_testBit_eq
  intro i
  rw [Nat.testBit_and, Nat.testBit_and, Nat.testBit_xor, Nat.testBit_xor, show (4095 : Nat) = 2 ^ 12 - 1 from rfl, show (4294967295 : Nat) = 2 ^ 32 - 1 from rfl, Nat.testBit_two_pow_sub_one, Nat.testBit_two_pow_sub_one]
  by_cases h1 : i < 12
  · have : i < 32 := by omega
    simp [h1, this]
  · have h2 : a.testBit i = false := Nat.testBit_lt_two_pow (Nat.lt_of_lt_of_le ha (show 2 ^ 12 ≤ 2 ^ i from Nat.pow_le_pow_right (by decide) (by omega)))
    simp [h2]
theorem ybyte7 : ∀ n, n < 7 → (nI n).toInt8.toInt32.toInt8.toInt32 = nI n := by decide +kernel
theorem yoth {r k q : Nat} (hr : r < 4096) (hk : k < 4096) (hq : q < 12) : (r &&& (4095 ^^^ k)).testBit q = (r.testBit q && !k.testBit q) := by
  rw [Nat.testBit_and, Nat.testBit_xor, show (4095 : Nat) = 2 ^ 12 - 1 from rfl, Nat.testBit_two_pow_sub_one]
  simp [hq]
section PA
variable {L d : Nat} {hc hm h : zH} {x1 x2 x3 x4 x5 x : Int32} {K : Nat → Nat} {P N : Nat}
theorem y2P12 (hP : P ≤ 12) : 2 ^ P ≤ 4096 := Nat.pow_le_pow_right (n := 2) (by decide) hP
/-- the class's row of the most pairs -/
theorem kMost {g0 : zH} (hP : P ≤ 12) (hK : ∀ p, p < 12 → K p < 2 ^ 12) (e : g0 0 0 0 2 = nI P) (hk : ∀ p, p < P → g0 0 0 1 p = nI (K p)) (h0 : g0 0 0 2 0 = nI 0) :
    ∃ g, zev L (d + 1) 2 0 [some (.inr (.inl (0, 0, 0))), none, none, none, none, none, none, none, none] [] g0 = some (some (.inl (nI (ymp K P (2 ^ P - 1)))), g) ∧ g 0 0 0 2 = nI P ∧ (∀ p, p < P → g 0 0 1 p = nI (K p)) ∧ (∀ s, s < 2 ^ P → g 0 0 2 s = nI (ymp K P s)) ∧ yC g0 g := by
  have h2p := y2P12 hP
  have hpos := Nat.two_pow_pos P
  obtain ⟨⟨g, a3, a4, a5, a6, a7, a8⟩, k1, r1, r2, r3, r4⟩ := zinv (P := fun i (s : zH × Option zV × Option zV × Option zV × Option zV × Option zV × Option zV) => zev L (d + 1) 2 9 [some (.inr (.inl (0, 0, 0))), some (.inl (nI (2 ^ P))), some (.inl (nI (i + 1))), s.2.1, s.2.2.1, s.2.2.2.1, s.2.2.2.2.1, s.2.2.2.2.2.1, s.2.2.2.2.2.2] [] s.1)
    (R := fun i s => s.1 0 0 0 2 = nI P ∧ (∀ p, p < P → s.1 0 0 1 p = nI (K p)) ∧ (∀ u, u < i + 1 → s.1 0 0 2 u = nI (ymp K P u)) ∧ yC g0 s.1) (N := 2 ^ P - 1) (fun i s hi hr => by
      obtain ⟨g, a3, a4, a5, a6, a7, a8⟩ := s
      obtain ⟨r1, r2, r3, r4⟩ := hr
      simp only at r1 r2 r3 r4
      have hs : i + 1 < 4096 := by omega
      have hne : i + 1 ≠ 0 := by omega
      obtain ⟨o1, o2⟩ := yones_s (i + 1) hs hne
      obtain ⟨s1, s2⟩ := ysf1 (i + 1) hs hne
      have s3 := ysf2 (i + 1) hs hne
      have hfl := yfs_lt (m := i + 1)
      have hfP : yfs (i + 1) < P := by
        apply Classical.byContradiction
        intro hge
        have : (i + 1).testBit (yfs (i + 1)) = false := Nat.testBit_lt_two_pow (Nat.lt_of_lt_of_le (show i + 1 < 2 ^ P by omega) (Nat.pow_le_pow_right (by decide) (by omega)))
        rw [s1] at this
        cases this
      have kn := kNT (L := L) (d := d) (h := g) hs hne
      have kb := kBC (L := L) (d := d) (h := g) hs
      have u1 := r2 (yfs (i + 1)) hfP
      have er : i + 1 &&& (i + 1 - 1) < i + 1 := o1
      have ei : i + 1 - 1 = i := by omega
      rw [ei] at er o2 s2 s3 o1
      have u2 := r3 (i + 1 &&& i) er
      have hle := ymp_le (K := K) hP (i + 1) hs
      have h12 := yones_12 (i + 1)
      have hKp : K (yfs (i + 1)) < 4096 := hK _ hfl
      have hst : ymp K P (i + 1) = ymx (ypf K P (i + 1)) (ymp K P (i + 1 &&& i)) P := by rw [ymp_s hne, ei]
      have hz0 : ymx (ypf K P (i + 1)) (ymp K P (i + 1 &&& i)) (yfs (i + 1) + 1) = ymp K P (i + 1 &&& i) := ymx_z _ (fun q hq => by
        unfold ypf
        rw [ei, s3 q (by omega) (by omega), if_neg (by simp)])
      have eo := yAndN (a := i + 1 &&& i) (b := K (yfs (i + 1))) (by omega) hKp
      have lx : ∀ q, q ≤ P → ymx (ypf K P (i + 1)) (ymp K P (i + 1 &&& i)) q ≤ ymp K P (i + 1) := fun q hq => by
        rw [hst]
        have := ymx_m (f := ypf K P (i + 1)) (b := ymp K P (i + 1 &&& i)) (n := q) (P - q)
        rwa [show q + (P - q) = P by omega] at this
      have inner := zfirstS (P := fun j (_ : Unit) => zev L (d + 1) 2 61 [some (.inr (.inl (0, 0, 0))), some (.inl (nI (2 ^ P))), some (.inl (nI (i + 1))), some (.inl (nI (yfs (i + 1)))), some (.inl (nI (i + 1 &&& i))), some (.inl (nI (ymx (ypf K P (i + 1)) (ymp K P (i + 1 &&& i)) (yfs (i + 1) + 1 + j)))), some (.inl (nI ((i + 1 &&& i) &&& (4095 ^^^ K (yfs (i + 1)))))), some (.inl (nI (yones (i + 1) / 2))), some (.inl (nI (yfs (i + 1) + 1 + j)))] [] g)
        (r := fun j => zev L (d + 1) 2 115 [some (.inr (.inl (0, 0, 0))), some (.inl (nI (2 ^ P))), some (.inl (nI (i + 1))), some (.inl (nI (yfs (i + 1)))), some (.inl (nI (i + 1 &&& i))), some (.inl (nI (ymp K P (i + 1)))), some (.inl (nI ((i + 1 &&& i) &&& (4095 ^^^ K (yfs (i + 1)))))), some (.inl (nI (yones (i + 1) / 2))), some (.inl (nI (yfs (i + 1) + 1 + j)))] [] g) (N := P - (yfs (i + 1) + 1)) (fun j => decide (yones (i + 1) / 2 ≤ ymx (ypf K P (i + 1)) (ymp K P (i + 1 &&& i)) (yfs (i + 1) + 1 + j))) (fun j _ hj hg => by
          have hg := of_decide_eq_true hg
          have l1 := lx (yfs (i + 1) + 1 + j) (by omega)
          have e1 : ymx (ypf K P (i + 1)) (ymp K P (i + 1 &&& i)) (yfs (i + 1) + 1 + j) = ymp K P (i + 1) := by omega
          refine b2_61.trans ?_
          simp (disch := first | omega | simp (disch := omega) only [nI_add, pk_mul, pk_sub, pk_div, znmod, nI_clamp, nIleT, nIleF, nIltT, nIltF, nIeqT, nIeqF, nIm1, nIm1q, zupE, zupN, vpT, nI_01, nI_11, ↓reduceIte, Option.bind_some, Option.toList_some, Option.toList_none, List.cons_append, List.nil_append, Nat.reduceAdd, Nat.reduceMul, Nat.reduceSub, Nat.reduceDiv, Nat.reduceMod, and_true, true_and, and_false, false_and, not_true_eq_false, not_false_eq_true, or_true, true_or, or_false, false_or, Int32.lt_irrefl, Int32.le_refl, r1, e1]) only [nI_add, pk_mul, pk_sub, pk_div, znmod, nI_clamp, nIleT, nIleF, nIltT, nIltF, nIeqT, nIeqF, nIm1, nIm1q, zupE, zupN, vpT, nI_01, nI_11, ↓reduceIte, Option.bind_some, Option.toList_some, Option.toList_none, List.cons_append, List.nil_append, Nat.reduceAdd, Nat.reduceMul, Nat.reduceSub, Nat.reduceDiv, Nat.reduceMod, and_true, true_and, and_false, false_and, not_true_eq_false, not_false_eq_true, or_true, true_or, or_false, false_or, Int32.lt_irrefl, Int32.le_refl, r1, e1, b2_70]) (fun j _ hj hg => by
          have hg := of_decide_eq_false hg
          have l1 := lx (yfs (i + 1) + 1 + j) (by omega)
          have lr : i + 1 &&& i < 4096 := by omega
          have lq : i + 1 &&& i &&& (4095 ^^^ K (yfs (i + 1))) < 4096 := yand_lt lr
          have tb := yoth (r := i + 1 &&& i) (k := K (yfs (i + 1))) (q := yfs (i + 1) + 1 + j) lr hKp (by omega)
          refine ⟨(), b2_61.trans ?_⟩
          have ea : yfs (i + 1) + 1 + (j + 1) = yfs (i + 1) + 1 + j + 1 := by omega
          by_cases c : (i + 1 &&& i).testBit (yfs (i + 1) + 1 + j) = true ∧ (K (yfs (i + 1))).testBit (yfs (i + 1) + 1 + j) = false
          · have tb1 : (i + 1 &&& i &&& (4095 ^^^ K (yfs (i + 1)))).testBit (yfs (i + 1) + 1 + j) = true := by rw [tb, c.1, c.2]; rfl
            have exx := yxor_mk (r := i + 1 &&& i) (q := yfs (i + 1) + 1 + j) lr (by omega) c.1
            have lz : i + 1 &&& i &&& ymk (yfs (i + 1) + 1 + j) ≤ i + 1 &&& i := Nat.and_le_left
            have u3 := r3 (i + 1 &&& i &&& ymk (yfs (i + 1) + 1 + j)) (by omega)
            have lf := ymp_le (K := K) hP (i + 1 &&& i &&& ymk (yfs (i + 1) + 1 + j)) (by omega)
            have lo := yones_12 (i + 1 &&& i &&& ymk (yfs (i + 1) + 1 + j))
            have ef : ypf K P (i + 1) (yfs (i + 1) + 1 + j) = 1 + ymp K P (i + 1 &&& i &&& ymk (yfs (i + 1) + 1 + j)) := by unfold ypf; rw [ei, if_pos c]
            by_cases c2 : ymx (ypf K P (i + 1)) (ymp K P (i + 1 &&& i)) (yfs (i + 1) + 1 + j) < 1 + ymp K P (i + 1 &&& i &&& ymk (yfs (i + 1) + 1 + j))
            · have ev : ymx (ypf K P (i + 1)) (ymp K P (i + 1 &&& i)) (yfs (i + 1) + 1 + j + 1) = 1 + ymp K P (i + 1 &&& i &&& ymk (yfs (i + 1) + 1 + j)) := by rw [ymx, ef, if_pos (by omega)]
              simp (disch := first | omega | simp (disch := omega) only [nI_add, pk_mul, pk_sub, pk_div, znmod, nI_clamp, nIleT, nIleF, nIltT, nIltF, nIeqT, nIeqF, nIm1, nIm1q, zupE, zupN, vpT, nI_01, nI_11, ↓reduceIte, Option.bind_some, Option.toList_some, Option.toList_none, List.cons_append, List.nil_append, Nat.reduceAdd, Nat.reduceMul, Nat.reduceSub, Nat.reduceDiv, Nat.reduceMod, and_true, true_and, and_false, false_and, not_true_eq_false, not_false_eq_true, or_true, true_or, or_false, false_or, Int32.lt_irrefl, Int32.le_refl, r1, zBit, tb1, Bool.toNat_true, zShl, zXor, exx, u3, ev, ea]) only [nI_add, pk_mul, pk_sub, pk_div, znmod, nI_clamp, nIleT, nIleF, nIltT, nIltF, nIeqT, nIeqF, nIm1, nIm1q, zupE, zupN, vpT, nI_01, nI_11, ↓reduceIte, Option.bind_some, Option.toList_some, Option.toList_none, List.cons_append, List.nil_append, Nat.reduceAdd, Nat.reduceMul, Nat.reduceSub, Nat.reduceDiv, Nat.reduceMod, and_true, true_and, and_false, false_and, not_true_eq_false, not_false_eq_true, or_true, true_or, or_false, false_or, Int32.lt_irrefl, Int32.le_refl, r1, zBit, tb1, Bool.toNat_true, zShl, zXor, exx, u3, ev, ea, b2_70, b2_77, b2_88, b2_109]
            · by_cases c3 : ymx (ypf K P (i + 1)) (ymp K P (i + 1 &&& i)) (yfs (i + 1) + 1 + j) = 1 + ymp K P (i + 1 &&& i &&& ymk (yfs (i + 1) + 1 + j))
              · have ev : ymx (ypf K P (i + 1)) (ymp K P (i + 1 &&& i)) (yfs (i + 1) + 1 + j + 1) = ymx (ypf K P (i + 1)) (ymp K P (i + 1 &&& i)) (yfs (i + 1) + 1 + j) := by rw [ymx, ef, if_pos (by omega), c3]
                simp (disch := first | omega | simp (disch := omega) only [nI_add, pk_mul, pk_sub, pk_div, znmod, nI_clamp, nIleT, nIleF, nIltT, nIltF, nIeqT, nIeqF, nIm1, nIm1q, zupE, zupN, vpT, nI_01, nI_11, ↓reduceIte, Option.bind_some, Option.toList_some, Option.toList_none, List.cons_append, List.nil_append, Nat.reduceAdd, Nat.reduceMul, Nat.reduceSub, Nat.reduceDiv, Nat.reduceMod, and_true, true_and, and_false, false_and, not_true_eq_false, not_false_eq_true, or_true, true_or, or_false, false_or, Int32.lt_irrefl, Int32.le_refl, r1, zBit, tb1, Bool.toNat_true, zShl, zXor, exx, u3, ev, ea]) only [nI_add, pk_mul, pk_sub, pk_div, znmod, nI_clamp, nIleT, nIleF, nIltT, nIltF, nIeqT, nIeqF, nIm1, nIm1q, zupE, zupN, vpT, nI_01, nI_11, ↓reduceIte, Option.bind_some, Option.toList_some, Option.toList_none, List.cons_append, List.nil_append, Nat.reduceAdd, Nat.reduceMul, Nat.reduceSub, Nat.reduceDiv, Nat.reduceMod, and_true, true_and, and_false, false_and, not_true_eq_false, not_false_eq_true, or_true, true_or, or_false, false_or, Int32.lt_irrefl, Int32.le_refl, r1, zBit, tb1, Bool.toNat_true, zShl, zXor, exx, u3, ev, ea, b2_70, b2_77, b2_88, b2_109]
              · have ev : ymx (ypf K P (i + 1)) (ymp K P (i + 1 &&& i)) (yfs (i + 1) + 1 + j + 1) = ymx (ypf K P (i + 1)) (ymp K P (i + 1 &&& i)) (yfs (i + 1) + 1 + j) := by rw [ymx, ef, if_neg (by omega)]
                simp (disch := first | omega | simp (disch := omega) only [nI_add, pk_mul, pk_sub, pk_div, znmod, nI_clamp, nIleT, nIleF, nIltT, nIltF, nIeqT, nIeqF, nIm1, nIm1q, zupE, zupN, vpT, nI_01, nI_11, ↓reduceIte, Option.bind_some, Option.toList_some, Option.toList_none, List.cons_append, List.nil_append, Nat.reduceAdd, Nat.reduceMul, Nat.reduceSub, Nat.reduceDiv, Nat.reduceMod, and_true, true_and, and_false, false_and, not_true_eq_false, not_false_eq_true, or_true, true_or, or_false, false_or, Int32.lt_irrefl, Int32.le_refl, r1, zBit, tb1, Bool.toNat_true, zShl, zXor, exx, u3, ev, ea]) only [nI_add, pk_mul, pk_sub, pk_div, znmod, nI_clamp, nIleT, nIleF, nIltT, nIltF, nIeqT, nIeqF, nIm1, nIm1q, zupE, zupN, vpT, nI_01, nI_11, ↓reduceIte, Option.bind_some, Option.toList_some, Option.toList_none, List.cons_append, List.nil_append, Nat.reduceAdd, Nat.reduceMul, Nat.reduceSub, Nat.reduceDiv, Nat.reduceMod, and_true, true_and, and_false, false_and, not_true_eq_false, not_false_eq_true, or_true, true_or, or_false, false_or, Int32.lt_irrefl, Int32.le_refl, r1, zBit, tb1, Bool.toNat_true, zShl, zXor, exx, u3, ev, ea, b2_70, b2_77, b2_88, b2_109]
          · have tb1 : (i + 1 &&& i &&& (4095 ^^^ K (yfs (i + 1)))).testBit (yfs (i + 1) + 1 + j) = false := by
              rw [tb]
              cases c1 : (i + 1 &&& i).testBit (yfs (i + 1) + 1 + j)
              · rfl
              · cases c2 : (K (yfs (i + 1))).testBit (yfs (i + 1) + 1 + j)
                · exact absurd ⟨c1, c2⟩ c
                · rfl
            have ef : ypf K P (i + 1) (yfs (i + 1) + 1 + j) = 0 := by unfold ypf; rw [ei, if_neg c]
            have ex : (if ymx (ypf K P (i + 1)) (ymp K P (i + 1 &&& i)) (yfs (i + 1) + 1 + j) ≤ 0 then 0 else ymx (ypf K P (i + 1)) (ymp K P (i + 1 &&& i)) (yfs (i + 1) + 1 + j)) = ymx (ypf K P (i + 1)) (ymp K P (i + 1 &&& i)) (yfs (i + 1) + 1 + j) := by split <;> omega
            have ev : ymx (ypf K P (i + 1)) (ymp K P (i + 1 &&& i)) (yfs (i + 1) + 1 + j + 1) = ymx (ypf K P (i + 1)) (ymp K P (i + 1 &&& i)) (yfs (i + 1) + 1 + j) := by rw [ymx, ef, ex]
            simp (disch := first | omega | simp (disch := omega) only [nI_add, pk_mul, pk_sub, pk_div, znmod, nI_clamp, nIleT, nIleF, nIltT, nIltF, nIeqT, nIeqF, nIm1, nIm1q, zupE, zupN, vpT, nI_01, nI_11, ↓reduceIte, Option.bind_some, Option.toList_some, Option.toList_none, List.cons_append, List.nil_append, Nat.reduceAdd, Nat.reduceMul, Nat.reduceSub, Nat.reduceDiv, Nat.reduceMod, and_true, true_and, and_false, false_and, not_true_eq_false, not_false_eq_true, or_true, true_or, or_false, false_or, Int32.lt_irrefl, Int32.le_refl, r1, zBit, tb1, Bool.toNat_false, ev, ea]) only [nI_add, pk_mul, pk_sub, pk_div, znmod, nI_clamp, nIleT, nIleF, nIltT, nIltF, nIeqT, nIeqF, nIm1, nIm1q, zupE, zupN, vpT, nI_01, nI_11, ↓reduceIte, Option.bind_some, Option.toList_some, Option.toList_none, List.cons_append, List.nil_append, Nat.reduceAdd, Nat.reduceMul, Nat.reduceSub, Nat.reduceDiv, Nat.reduceMod, and_true, true_and, and_false, false_and, not_true_eq_false, not_false_eq_true, or_true, true_or, or_false, false_or, Int32.lt_irrefl, Int32.le_refl, r1, zBit, tb1, Bool.toNat_false, ev, ea, b2_70, b2_77, b2_88, b2_109]) () (P - (yfs (i + 1) + 1)) (Nat.le_refl _)
      have fin : ∃ x8, zev L (d + 1) 2 61 [some (.inr (.inl (0, 0, 0))), some (.inl (nI (2 ^ P))), some (.inl (nI (i + 1))), some (.inl (nI (yfs (i + 1)))), some (.inl (nI (i + 1 &&& i))), some (.inl (nI (ymp K P (i + 1 &&& i)))), some (.inl (nI ((i + 1 &&& i) &&& (4095 ^^^ K (yfs (i + 1)))))), some (.inl (nI (yones (i + 1) / 2))), some (.inl (nI (yfs (i + 1) + 1)))] [] g = zev L (d + 1) 2 115 [some (.inr (.inl (0, 0, 0))), some (.inl (nI (2 ^ P))), some (.inl (nI (i + 1))), some (.inl (nI (yfs (i + 1)))), some (.inl (nI (i + 1 &&& i))), some (.inl (nI (ymp K P (i + 1)))), some (.inl (nI ((i + 1 &&& i) &&& (4095 ^^^ K (yfs (i + 1)))))), some (.inl (nI (yones (i + 1) / 2))), some (.inl x8)] [] g := by
        rw [← hz0]
        cases hf : zfst (fun j => decide (yones (i + 1) / 2 ≤ ymx (ypf K P (i + 1)) (ymp K P (i + 1 &&& i)) (yfs (i + 1) + 1 + j))) (P - (yfs (i + 1) + 1)) with
        | some j => rw [hf] at inner; exact ⟨_, inner⟩
        | none =>
          rw [hf] at inner
          obtain ⟨_, inner⟩ := inner
          refine ⟨nI P, inner.trans (b2_61.trans ?_)⟩
          rw [show yfs (i + 1) + 1 + (P - (yfs (i + 1) + 1)) = P by omega, ← hst]
          simp (disch := first | omega | simp (disch := omega) only [nI_add, pk_mul, pk_sub, pk_div, znmod, nI_clamp, nIleT, nIleF, nIltT, nIltF, nIeqT, nIeqF, nIm1, nIm1q, zupE, zupN, vpT, nI_01, nI_11, ↓reduceIte, Option.bind_some, Option.toList_some, Option.toList_none, List.cons_append, List.nil_append, Nat.reduceAdd, Nat.reduceMul, Nat.reduceSub, Nat.reduceDiv, Nat.reduceMod, and_true, true_and, and_false, false_and, not_true_eq_false, not_false_eq_true, or_true, true_or, or_false, false_or, Int32.lt_irrefl, Int32.le_refl, r1]) only [nI_add, pk_mul, pk_sub, pk_div, znmod, nI_clamp, nIleT, nIleF, nIltT, nIltF, nIeqT, nIeqF, nIm1, nIm1q, zupE, zupN, vpT, nI_01, nI_11, ↓reduceIte, Option.bind_some, Option.toList_some, Option.toList_none, List.cons_append, List.nil_append, Nat.reduceAdd, Nat.reduceMul, Nat.reduceSub, Nat.reduceDiv, Nat.reduceMod, and_true, true_and, and_false, false_and, not_true_eq_false, not_false_eq_true, or_true, true_or, or_false, false_or, Int32.lt_irrefl, Int32.le_refl, r1]
      obtain ⟨x8, fin⟩ := fin
      have hb7 := ybyte7 (ymp K P (i + 1)) (by omega)
      refine ⟨(zup g 0 0 2 (i + 1) (nI (ymp K P (i + 1))), some (.inl (nI (yfs (i + 1)))), some (.inl (nI (i + 1 &&& i))), some (.inl (nI (ymp K P (i + 1)))), some (.inl (nI ((i + 1 &&& i) &&& (4095 ^^^ K (yfs (i + 1)))))), some (.inl (nI (yones (i + 1) / 2))), some (.inl x8)), b2_9.trans ?_, ?_, fun p hp => ?_, fun u hu => ?_, yC_u r4 ?_⟩
      · have ei2 : nI (i + 1) - nI 1 = nI i := nI_pred i
        simp (disch := first | omega | simp (disch := omega) only [nI_add, pk_mul, pk_sub, pk_div, znmod, nI_clamp, nIleT, nIleF, nIltT, nIltF, nIeqT, nIeqF, nIm1, nIm1q, zupE, zupN, vpT, nI_01, nI_11, ↓reduceIte, Option.bind_some, Option.toList_some, Option.toList_none, List.cons_append, List.nil_append, Nat.reduceAdd, Nat.reduceMul, Nat.reduceSub, Nat.reduceDiv, Nat.reduceMod, and_true, true_and, and_false, false_and, not_true_eq_false, not_false_eq_true, or_true, true_or, or_false, false_or, Int32.lt_irrefl, Int32.le_refl, kn, kb, ei2, zAnd, u1, u2, eo, fin, hb7]) only [nI_add, pk_mul, pk_sub, pk_div, znmod, nI_clamp, nIleT, nIleF, nIltT, nIltF, nIeqT, nIeqF, nIm1, nIm1q, zupE, zupN, vpT, nI_01, nI_11, ↓reduceIte, Option.bind_some, Option.toList_some, Option.toList_none, List.cons_append, List.nil_append, Nat.reduceAdd, Nat.reduceMul, Nat.reduceSub, Nat.reduceDiv, Nat.reduceMod, and_true, true_and, and_false, false_and, not_true_eq_false, not_false_eq_true, or_true, true_or, or_false, false_or, Int32.lt_irrefl, Int32.le_refl, kn, kb, ei2, zAnd, u1, u2, eo, fin, hb7, b2_14, b2_18, b2_52, b2_115, b2_124]
      · show zup g 0 0 2 (i + 1) (nI (ymp K P (i + 1))) 0 0 0 2 = nI P
        rw [zupN (by omega)]
        exact r1
      · show zup g 0 0 2 (i + 1) (nI (ymp K P (i + 1))) 0 0 1 p = _
        rw [zupN (by omega)]
        exact r2 p hp
      · show zup g 0 0 2 (i + 1) (nI (ymp K P (i + 1))) 0 0 2 u = _
        by_cases c : u = i + 1
        · rw [zupE (by omega), c]
        · rw [zupN (by omega)]
          exact r3 u (by omega)
      · rfl) (2 ^ P - 1) (Nat.le_refl _) (g0, none, none, none, none, none, none) ⟨e, hk, fun u hu => by rw [show u = 0 by omega, ymp_0]; exact h0, yC_r⟩
  simp only at r1 r2 r3 r4 k1
  refine ⟨g, ?_, r1, r2, fun s hs => r3 s (by omega), r4⟩
  have k2 := k1.trans b2_9
  have e1 : 2 ^ P - 1 + 1 = 2 ^ P := by omega
  have u := r3 (2 ^ P - 1) (by omega)
  rw [e1] at k2
  simp (disch := first | omega | simp (disch := omega) only [nI_add, pk_mul, pk_sub, pk_div, znmod, nI_clamp, nIleT, nIleF, nIltT, nIltF, nIeqT, nIeqF, nIm1, nIm1q, zupE, zupN, vpT, nI_01, nI_11, ↓reduceIte, Option.bind_some, Option.toList_some, Option.toList_none, List.cons_append, List.nil_append, Nat.reduceAdd, Nat.reduceMul, Nat.reduceSub, Nat.reduceDiv, Nat.reduceMod, and_true, true_and, and_false, false_and, not_true_eq_false, not_false_eq_true, or_true, true_or, or_false, false_or, Int32.lt_irrefl, Int32.le_refl, u]) only [nI_add, pk_mul, pk_sub, pk_div, znmod, nI_clamp, nIleT, nIleF, nIltT, nIltF, nIeqT, nIeqF, nIm1, nIm1q, zupE, zupN, vpT, nI_01, nI_11, ↓reduceIte, Option.bind_some, Option.toList_some, Option.toList_none, List.cons_append, List.nil_append, Nat.reduceAdd, Nat.reduceMul, Nat.reduceSub, Nat.reduceDiv, Nat.reduceMod, and_true, true_and, and_false, false_and, not_true_eq_false, not_false_eq_true, or_true, true_or, or_false, false_or, Int32.lt_irrefl, Int32.le_refl, u, b2_130] at k2
  simp (disch := first | omega | simp (disch := omega) only [nI_add, pk_mul, pk_sub, pk_div, znmod, nI_clamp, nIleT, nIleF, nIltT, nIltF, nIeqT, nIeqF, nIm1, nIm1q, zupE, zupN, vpT, nI_01, nI_11, ↓reduceIte, Option.bind_some, Option.toList_some, Option.toList_none, List.cons_append, List.nil_append, Nat.reduceAdd, Nat.reduceMul, Nat.reduceSub, Nat.reduceDiv, Nat.reduceMod, and_true, true_and, and_false, false_and, not_true_eq_false, not_false_eq_true, or_true, true_or, or_false, false_or, Int32.lt_irrefl, Int32.le_refl, e, zShl, k2]) only [nI_add, pk_mul, pk_sub, pk_div, znmod, nI_clamp, nIleT, nIleF, nIltT, nIltF, nIeqT, nIeqF, nIm1, nIm1q, zupE, zupN, vpT, nI_01, nI_11, ↓reduceIte, Option.bind_some, Option.toList_some, Option.toList_none, List.cons_append, List.nil_append, Nat.reduceAdd, Nat.reduceMul, Nat.reduceSub, Nat.reduceDiv, Nat.reduceMod, and_true, true_and, and_false, false_and, not_true_eq_false, not_false_eq_true, or_true, true_or, or_false, false_or, Int32.lt_irrefl, Int32.le_refl, e, zShl, k2, b2_0]
end PA
