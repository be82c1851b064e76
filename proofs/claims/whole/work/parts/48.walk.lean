/-! operation walk, the reference's side -/
section WM
variable {L d : Nat} {hc hm h : zH} {x1 x2 x3 x4 x5 x : Int32} {K : Nat → Nat} {P N : Nat}
theorem mKk {a : Nat} (hP : P ≤ 12) (e : h 12 0 0 6 = nI P) (hk : ∀ p, p < P → h 12 0 40 p = nI (K p)) (hK : ∀ p, p < P → K p < 2 ^ 12) (ha : a < 12) : zev L (d + 1) 261 0 [some (.inr (.inl (12, 0, 0))), some (.inl (nI a)), none, none, none] [] h = some (some (.inl (nI (yit K P (2 ^ a) 12))), h) := by
  obtain ⟨s, k1, _⟩ := zinv (P := fun n (s : Option zV) => zev L (d + 1) 261 6 [some (.inr (.inl (12, 0, 0))), some (.inl (nI a)), some (.inl (nI (ykk K P (2 ^ a) n))), some (.inl (nI n)), s] [] h) (R := fun _ _ => True) (N := 12) (fun n s hn _ => by
    have l0 := ykk_lt (K := K) (P := P) (s := 2 ^ a) (z2p ha) hK n
    obtain ⟨_, j1, _⟩ := zinv (P := fun p (_ : Unit) => zev L (d + 1) 261 15 [some (.inr (.inl (12, 0, 0))), some (.inl (nI a)), some (.inl (nI (yseq K (ykk K P (2^a) n) p))), some (.inl (nI n)), some (.inl (nI p))] [] h) (R := fun _ _ => True) (N := P) (fun p _ hp _ => by
      refine ⟨(), b261_15.trans ?_, trivial⟩
      have u := hk p hp
      have l1 := yseq_lt (K := K) l0 p (fun r hr => hK r (by omega))
      cases c : (yseq K (ykk K P (2 ^ a) n) p).testBit p
      · simp (disch := first | omega | simp (disch := omega) only [nI_add, pk_mul, pk_sub, pk_div, znmod, nI_clamp, nIleT, nIleF, nIltT, nIltF, nIeqT, nIeqF, nIm1, nIm1q, zupE, zupN, vpT, nI_01, nI_11, ↓reduceIte, Option.bind_some, Option.toList_some, Option.toList_none, List.cons_append, List.nil_append, Nat.reduceAdd, Nat.reduceMul, Nat.reduceSub, Nat.reduceDiv, Nat.reduceMod, and_true, true_and, and_false, false_and, not_true_eq_false, not_false_eq_true, or_true, true_or, or_false, false_or, Int32.lt_irrefl, Int32.le_refl, e, mHasB, c, Bool.toNat_false, yseq, Bool.false_eq_true]) only [nI_add, pk_mul, pk_sub, pk_div, znmod, nI_clamp, nIleT, nIleF, nIltT, nIltF, nIeqT, nIeqF, nIm1, nIm1q, zupE, zupN, vpT, nI_01, nI_11, ↓reduceIte, Option.bind_some, Option.toList_some, Option.toList_none, List.cons_append, List.nil_append, Nat.reduceAdd, Nat.reduceMul, Nat.reduceSub, Nat.reduceDiv, Nat.reduceMod, and_true, true_and, and_false, false_and, not_true_eq_false, not_false_eq_true, or_true, true_or, or_false, false_or, Int32.lt_irrefl, Int32.le_refl, e, mHasB, c, Bool.toNat_false, yseq, Bool.false_eq_true, b261_24, b261_31, b261_34, b261_44]
      · simp (disch := first | omega | simp (disch := omega) only [nI_add, pk_mul, pk_sub, pk_div, znmod, nI_clamp, nIleT, nIleF, nIltT, nIltF, nIeqT, nIeqF, nIm1, nIm1q, zupE, zupN, vpT, nI_01, nI_11, ↓reduceIte, Option.bind_some, Option.toList_some, Option.toList_none, List.cons_append, List.nil_append, Nat.reduceAdd, Nat.reduceMul, Nat.reduceSub, Nat.reduceDiv, Nat.reduceMod, and_true, true_and, and_false, false_and, not_true_eq_false, not_false_eq_true, or_true, true_or, or_false, false_or, Int32.lt_irrefl, Int32.le_refl, e, mHasB, c, Bool.toNat_true, yseq, u, zOr]) only [nI_add, pk_mul, pk_sub, pk_div, znmod, nI_clamp, nIleT, nIleF, nIltT, nIltF, nIeqT, nIeqF, nIm1, nIm1q, zupE, zupN, vpT, nI_01, nI_11, ↓reduceIte, Option.bind_some, Option.toList_some, Option.toList_none, List.cons_append, List.nil_append, Nat.reduceAdd, Nat.reduceMul, Nat.reduceSub, Nat.reduceDiv, Nat.reduceMod, and_true, true_and, and_false, false_and, not_true_eq_false, not_false_eq_true, or_true, true_or, or_false, false_or, Int32.lt_irrefl, Int32.le_refl, e, mHasB, c, Bool.toNat_true, yseq, u, zOr, b261_24, b261_31, b261_34, b261_44]) P (Nat.le_refl _) () trivial
    have j2 := j1.trans b261_15
    have e0 : yseq K (ykk K P (2 ^ a) n) 0 = ykk K P (2 ^ a) n := rfl
    have e1 : yseq K (ykk K P (2 ^ a) n) P = ykk K P (2 ^ a) (n + 1) := rfl
    simp (disch := first | omega | simp (disch := omega) only [nI_add, pk_mul, pk_sub, pk_div, znmod, nI_clamp, nIleT, nIleF, nIltT, nIltF, nIeqT, nIeqF, nIm1, nIm1q, zupE, zupN, vpT, nI_01, nI_11, ↓reduceIte, Option.bind_some, Option.toList_some, Option.toList_none, List.cons_append, List.nil_append, Nat.reduceAdd, Nat.reduceMul, Nat.reduceSub, Nat.reduceDiv, Nat.reduceMod, and_true, true_and, and_false, false_and, not_true_eq_false, not_false_eq_true, or_true, true_or, or_false, false_or, Int32.lt_irrefl, Int32.le_refl, e, e0, e1]) only [nI_add, pk_mul, pk_sub, pk_div, znmod, nI_clamp, nIleT, nIleF, nIltT, nIltF, nIeqT, nIeqF, nIm1, nIm1q, zupE, zupN, vpT, nI_01, nI_11, ↓reduceIte, Option.bind_some, Option.toList_some, Option.toList_none, List.cons_append, List.nil_append, Nat.reduceAdd, Nat.reduceMul, Nat.reduceSub, Nat.reduceDiv, Nat.reduceMod, and_true, true_and, and_false, false_and, not_true_eq_false, not_false_eq_true, or_true, true_or, or_false, false_or, Int32.lt_irrefl, Int32.le_refl, e, e0, e1, b261_50] at j2
    refine ⟨some (.inl (nI P)), b261_6.trans ?_, trivial⟩
    simp (disch := first | omega | simp (disch := omega) only [nI_add, pk_mul, pk_sub, pk_div, znmod, nI_clamp, nIleT, nIleF, nIltT, nIltF, nIeqT, nIeqF, nIm1, nIm1q, zupE, zupN, vpT, nI_01, nI_11, ↓reduceIte, Option.bind_some, Option.toList_some, Option.toList_none, List.cons_append, List.nil_append, Nat.reduceAdd, Nat.reduceMul, Nat.reduceSub, Nat.reduceDiv, Nat.reduceMod, and_true, true_and, and_false, false_and, not_true_eq_false, not_false_eq_true, or_true, true_or, or_false, false_or, Int32.lt_irrefl, Int32.le_refl, j2]) only [nI_add, pk_mul, pk_sub, pk_div, znmod, nI_clamp, nIleT, nIleF, nIltT, nIltF, nIeqT, nIeqF, nIm1, nIm1q, zupE, zupN, vpT, nI_01, nI_11, ↓reduceIte, Option.bind_some, Option.toList_some, Option.toList_none, List.cons_append, List.nil_append, Nat.reduceAdd, Nat.reduceMul, Nat.reduceSub, Nat.reduceDiv, Nat.reduceMod, and_true, true_and, and_false, false_and, not_true_eq_false, not_false_eq_true, or_true, true_or, or_false, false_or, Int32.lt_irrefl, Int32.le_refl, j2, b261_12]) 12 (Nat.le_refl _) none trivial
  have k2 := k1.trans b261_6
  have e0 : ykk K P (2 ^ a) 0 = 2 ^ a := rfl
  have e1 := ykk_eq (K := K) (P := P) (s := 2 ^ a) hK (z2p ha)
  simp (disch := first | omega | simp (disch := omega) only [nI_add, pk_mul, pk_sub, pk_div, znmod, nI_clamp, nIleT, nIleF, nIltT, nIltF, nIeqT, nIeqF, nIm1, nIm1q, zupE, zupN, vpT, nI_01, nI_11, ↓reduceIte, Option.bind_some, Option.toList_some, Option.toList_none, List.cons_append, List.nil_append, Nat.reduceAdd, Nat.reduceMul, Nat.reduceSub, Nat.reduceDiv, Nat.reduceMod, and_true, true_and, and_false, false_and, not_true_eq_false, not_false_eq_true, or_true, true_or, or_false, false_or, Int32.lt_irrefl, Int32.le_refl, e0, e1]) only [nI_add, pk_mul, pk_sub, pk_div, znmod, nI_clamp, nIleT, nIleF, nIltT, nIltF, nIeqT, nIeqF, nIm1, nIm1q, zupE, zupN, vpT, nI_01, nI_11, ↓reduceIte, Option.bind_some, Option.toList_some, Option.toList_none, List.cons_append, List.nil_append, Nat.reduceAdd, Nat.reduceMul, Nat.reduceSub, Nat.reduceDiv, Nat.reduceMod, and_true, true_and, and_false, false_and, not_true_eq_false, not_false_eq_true, or_true, true_or, or_false, false_or, Int32.lt_irrefl, Int32.le_refl, e0, e1, b261_56] at k2
  simp (disch := first | omega | simp (disch := omega) only [nI_add, pk_mul, pk_sub, pk_div, znmod, nI_clamp, nIleT, nIleF, nIltT, nIltF, nIeqT, nIeqF, nIm1, nIm1q, zupE, zupN, vpT, nI_01, nI_11, ↓reduceIte, Option.bind_some, Option.toList_some, Option.toList_none, List.cons_append, List.nil_append, Nat.reduceAdd, Nat.reduceMul, Nat.reduceSub, Nat.reduceDiv, Nat.reduceMod, and_true, true_and, and_false, false_and, not_true_eq_false, not_false_eq_true, or_true, true_or, or_false, false_or, Int32.lt_irrefl, Int32.le_refl, zShl, k2]) only [nI_add, pk_mul, pk_sub, pk_div, znmod, nI_clamp, nIleT, nIleF, nIltT, nIltF, nIeqT, nIeqF, nIm1, nIm1q, zupE, zupN, vpT, nI_01, nI_11, ↓reduceIte, Option.bind_some, Option.toList_some, Option.toList_none, List.cons_append, List.nil_append, Nat.reduceAdd, Nat.reduceMul, Nat.reduceSub, Nat.reduceDiv, Nat.reduceMod, and_true, true_and, and_false, false_and, not_true_eq_false, not_false_eq_true, or_true, true_or, or_false, false_or, Int32.lt_irrefl, Int32.le_refl, zShl, k2, b261_0]
def ysm' (K : Nat → Nat) (P : Nat) : Nat := ybs (fun p => decide (¬ K p = 0)) P
theorem ysome_eq (hP : P ≤ 12) (h : yKo K P) : ysm' K P = ysome K P := by
  obtain ⟨h1, h2, h3, h4⟩ := h
  apply ysub_eq
  · intro q hq
    unfold ysm' at hq
    rw [ybs_bit, Bool.and_eq_true, decide_eq_true_eq, decide_eq_true_eq] at hq
    obtain ⟨a, b⟩ := hq
    obtain ⟨p, hp⟩ : ∃ p, (K q).testBit p = true := by
      apply Classical.byContradiction
      intro hn
      apply b
      apply Nat.eq_of_testBit_eq
      intro i
      rw [Nat.zero_testBit]
      cases hb : (K q).testBit i
      · rfl
      · exact absurd ⟨i, hb⟩ hn
    have hb := h4 q p (by omega) hp
    unfold ysome
    rw [yor_bit]
    refine ⟨p, hb.2, ?_, ?_⟩
    · rw [Nat.testBit_two_pow_sub_one]; simp [hb.2]
    · rw [h2 p q (by omega) (by omega)]; exact hp
  · intro q hq
    unfold ysome at hq
    rw [yor_bit] at hq
    obtain ⟨p, hp, _, hb⟩ := hq
    have hb2 := h4 p q (by omega) hb
    unfold ysm'
    rw [ybs_bit, Bool.and_eq_true, decide_eq_true_eq, decide_eq_true_eq]
    refine ⟨hb2.2, fun z => ?_⟩
    have := h2 p q (by omega) (by omega)
    rw [hb, z, Nat.zero_testBit] at this
    cases this
theorem yones_pos {n : Nat} (hn : n < 2 ^ 12) (h : n ≠ 0) : 0 < yones n := by
  rcases Nat.eq_zero_or_pos (yones n) with q | q
  · exact absurd (yones_0 hn q) h
  · exact q
theorem ybit_of {n : Nat} (hn : n < 2 ^ P) (h : n ≠ 0) : ∃ f, zfst (fun i => n.testBit i) P = some f := by
  cases hz : zfst (fun i => n.testBit i) P with
  | some f => exact ⟨f, rfl⟩
  | none =>
    exfalso
    apply h
    apply Nat.eq_of_testBit_eq
    intro i
    rw [Nat.zero_testBit]
    by_cases c : i < P
    · exact zfst_none hz i c
    · exact Nat.testBit_lt_two_pow (Nat.lt_of_lt_of_le hn (Nat.pow_le_pow_right (by decide) (by omega)))
theorem ybs_lt2 {f : Nat → Bool} : ∀ n, ybs f n < 2 ^ n
  | 0 => by show 0 < 1; decide
  | n + 1 => by
    have h1 := ybs_lt2 (f := f) n
    rw [ybs]
    split
    · exact zOrLt (Nat.lt_of_lt_of_le h1 (Nat.pow_le_pow_right (by decide) (by omega))) (z2p (by omega))
    · exact Nat.lt_of_lt_of_le h1 (Nat.pow_le_pow_right (by decide) (by omega))
/-- whether one can walk -/
def ycan (K : Nat → Nat) (P f : Nat) : Bool := decide (¬ ysome K P = 0) && (decide (yit K P (2 ^ f) 12 &&& ysome K P = ysome K P) && decide (yones (yodd K P) < 3))
theorem ycan_k (hP : P ≤ 12) (h : yKo K P) : (ycan K P (yfs (ysome K P)) = true ↔ ykind K P ≠ 0) ∧ (ycan K P (yfs (ysome K P)) = true → (ykind K P = 2 ↔ yodd K P = 0)) := by
  have hK : ∀ p, p < P → K p < 2 ^ 12 := fun p hp => h.1 p (by omega)
  have lO : yodd K P < 2 ^ 12 := ybs_lt P hP
  have ev := yodd_even hP h
  unfold ycan ykind
  by_cases c0 : ysome K P = 0
  · simp [c0]
  · have l2 : ysome K P < 2 ^ P := by rw [← ysome_eq hP h]; exact ybs_lt2 P
    obtain ⟨f, hf⟩ := ybit_of l2 c0
    obtain ⟨f1, f2⟩ := zfst_lt hf
    have ef : yfs (ysome K P) = f := by
      have := zfst_mono hf (12 - P)
      rw [show P + (12 - P) = 12 by omega] at this
      unfold yfs
      rw [this]
      rfl
    rw [ef]
    have sub : ∀ n, ysub (yit K P (2 ^ f) n) (ysome K P) := by
      intro n
      induction n with
      | zero =>
        intro q hq
        rw [show yit K P (2 ^ f) 0 = 2 ^ f from rfl, Nat.testBit_two_pow, decide_eq_true_eq] at hq
        rw [← hq]; exact f2
      | succ n ih =>
        intro q hq
        rw [yit, yca_bit] at hq
        rcases hq with hq | ⟨p, hp, h1, h2⟩
        · exact ih q hq
        · unfold ysome
          rw [yor_bit]
          exact ⟨p, hp, by rw [Nat.testBit_two_pow_sub_one]; simp [hp], h2⟩
    have e1 : yit K P (2 ^ f) 12 &&& ysome K P = ysome K P ↔ yit K P (2 ^ f) 12 = ysome K P := by
      constructor
      · intro e
        refine ysub_eq (sub 12) (fun q hq => ?_)
        rw [← e, Nat.testBit_and, Bool.and_eq_true] at hq
        exact hq.1
      · intro e; rw [e, Nat.and_self]
    by_cases c1 : yit K P (2 ^ f) 12 = ysome K P
    · rw [if_neg c0, if_pos c1]
      have c1' := e1.2 c1
      by_cases c2 : yodd K P = 0
      · rw [if_pos c2, c2, show yones 0 = 0 by decide]
        simp [c0, c1']
      · have := yones_pos lO c2
        rw [if_neg c2]
        by_cases c3 : yones (yodd K P) = 2
        · rw [if_pos c3, c3]
          simp [c0, c1', c2]
        · rw [if_neg c3]
          have c4 : ¬ yones (yodd K P) < 3 := by omega
          simp [c4]
    · rw [if_neg c0, if_neg c1]
      have c1' : ¬ (yit K P (2 ^ f) 12 &&& ysome K P = ysome K P) := fun q => c1 (e1.1 q)
      simp [c1']
theorem o_walk (R : Rel hc hm) : zS2 (zev L (d + 20) 138 0 [some (.inr (.inl (11, 0, 0))), some (.inl x1)] [] hc) (zev L (d + 20) 262 0 [some (.inr (.inl (12, 0, 0))), some (.inl x1), none, none, none, none] [] hm) Rel := by
  have R' := R
  obtain ⟨P, H, ⟨rM, rp, rb, rl, rf, rh, rk, r0, r1, r2, r3, r4⟩, ra, rt, re, ri, rs⟩ := R
  have e8 : hc 3 0 0 8 = nI P := rM.1.1
  have hP : P ≤ 12 := rM.1.2.2.1
  have e6 : hm 12 0 0 6 = nI P := rp.1
  obtain ⟨N, hN, k1, k2, k3, k4, k5⟩ := yKo_of rk hP
  rcases zarg x1 1 (by omega) with ⟨w, hw, rfl⟩ | q
  · obtain ⟨g, t1, t2, t3, t4⟩ := kTake (L := L) (d := d + 16) hP hN k1 k3
    generalize hKK : (fun p => ks (hc 2 3 1) p N) = K at k5
    have k4' : ∀ p, p < 12 → hm 12 0 40 p = nI (K p) := fun p hp => by rw [← hKK]; exact k4 p hp
    have t3' : ∀ p, p < P → g 0 0 1 p = nI (K p) := fun p hp => by rw [← hKK]; exact t3 p hp
    have hK : ∀ p, p < P → K p < 2 ^ 12 := fun p hp => k5.1 p (by omega)
    have g6 : (zup hm 12 0 0 0 (nI 0)) 12 0 0 6 = nI P := by simp (disch := first | omega | simp (disch := omega) only [nI_add, pk_mul, pk_sub, pk_div, znmod, nI_clamp, nIleT, nIleF, nIltT, nIltF, nIeqT, nIeqF, nIm1, nIm1q, zupE, zupN, vpT, nI_01, nI_11, ↓reduceIte, Option.bind_some, Option.toList_some, Option.toList_none, List.cons_append, List.nil_append, Nat.reduceAdd, Nat.reduceMul, Nat.reduceSub, Nat.reduceDiv, Nat.reduceMod, and_true, true_and, and_false, false_and, not_true_eq_false, not_false_eq_true, or_true, true_or, or_false, false_or, Int32.lt_irrefl, Int32.le_refl]) only [nI_add, pk_mul, pk_sub, pk_div, znmod, nI_clamp, nIleT, nIleF, nIltT, nIltF, nIeqT, nIeqF, nIm1, nIm1q, zupE, zupN, vpT, nI_01, nI_11, ↓reduceIte, Option.bind_some, Option.toList_some, Option.toList_none, List.cons_append, List.nil_append, Nat.reduceAdd, Nat.reduceMul, Nat.reduceSub, Nat.reduceDiv, Nat.reduceMod, and_true, true_and, and_false, false_and, not_true_eq_false, not_false_eq_true, or_true, true_or, or_false, false_or, Int32.lt_irrefl, Int32.le_refl]; exact e6
    have g40 : ∀ p, p < P → (zup hm 12 0 0 0 (nI 0)) 12 0 40 p = nI (K p) := by simp (disch := first | omega | simp (disch := omega) only [nI_add, pk_mul, pk_sub, pk_div, znmod, nI_clamp, nIleT, nIleF, nIltT, nIltF, nIeqT, nIeqF, nIm1, nIm1q, zupE, zupN, vpT, nI_01, nI_11, ↓reduceIte, Option.bind_some, Option.toList_some, Option.toList_none, List.cons_append, List.nil_append, Nat.reduceAdd, Nat.reduceMul, Nat.reduceSub, Nat.reduceDiv, Nat.reduceMod, and_true, true_and, and_false, false_and, not_true_eq_false, not_false_eq_true, or_true, true_or, or_false, false_or, Int32.lt_irrefl, Int32.le_refl]) only [nI_add, pk_mul, pk_sub, pk_div, znmod, nI_clamp, nIleT, nIleF, nIltT, nIltF, nIeqT, nIeqF, nIm1, nIm1q, zupE, zupN, vpT, nI_01, nI_11, ↓reduceIte, Option.bind_some, Option.toList_some, Option.toList_none, List.cons_append, List.nil_append, Nat.reduceAdd, Nat.reduceMul, Nat.reduceSub, Nat.reduceDiv, Nat.reduceMod, and_true, true_and, and_false, false_and, not_true_eq_false, not_false_eq_true, or_true, true_or, or_false, false_or, Int32.lt_irrefl, Int32.le_refl]; exact fun p hp => k4' p (by omega)
    have lO : yodd K P < 2 ^ 12 := ybs_lt P hP
    have lS : ysome K P < 2 ^ 12 := yor_lt hK
    have l12 := yones_12 (yodd K P)
    have kk := fun d => kKind (L := L) (d := d) (h := g) hP t2 t3' hK
    have kst := fun d => kStart (L := L) (d := d) (h := g) hP t2 t3' hK
    obtain ⟨_, m1, _⟩ := zinv (P := fun i (_ : Unit) => zev L (d + 19 + 1) 262 29 [some (.inr (.inl (12, 0, 0))), some (.inl (nI w)), some (.inl (nI (ybw (fun p => decide (¬ K p = 0)) P i))), some (.inl (nI (ybw (fun p => decide (yones (K p) % 2 = 1)) P i))), some (.inl (nI P - nI (i + 1))), none] [] (zup hm 12 0 0 0 (nI 0))) (R := fun _ _ => True) (N := P) (fun i _ hi _ => by
      refine ⟨(), b262_29.trans ?_, trivial⟩
      have u := g40 (P - 1 - i) (by omega)
      rw [zupN (by omega)] at u
      have e3 : nI P - nI (i + 1) = nI (P - 1 - i) := by rw [pk_sub (by omega)]; congr 1; omega
      have e4 : nI (P - 1 - i) + (-1) = nI P - nI (i + 1 + 1) := by
        rw [← e3, show ((-1) : Int32) = -(nI 1) from by decide, ← Int32.sub_eq_add_neg, yc4, nI_add]
      have mo := mOnes (L := L) (d := d + 19) (h := zup hm 12 0 0 0 (nI 0)) (hK (P - 1 - i) (by omega))
      have l1 := hK (P - 1 - i) (by omega)
      have l2 := yones_12 (K (P - 1 - i))
      have e5 : yones (K (P - 1 - i)) - yones (K (P - 1 - i)) / 2 * 2 = yones (K (P - 1 - i)) % 2 := znmod
      by_cases c1 : K (P - 1 - i) = 0
      · have f1 : ybw (fun p => decide (¬ K p = 0)) P (i + 1) = ybw (fun p => decide (¬ K p = 0)) P i := by rw [ybw, if_neg (by simp [c1])]
        have f2 : ybw (fun p => decide (yones (K p) % 2 = 1)) P (i + 1) = ybw (fun p => decide (yones (K p) % 2 = 1)) P i := by rw [ybw, if_neg (by rw [c1]; decide)]
        rw [c1, show yones 0 = 0 by decide] at mo
        rw [e3]
        simp (disch := first | omega | simp (disch := omega) only [nI_add, pk_mul, pk_sub, pk_div, znmod, nI_clamp, nIleT, nIleF, nIltT, nIltF, nIeqT, nIeqF, nIm1, nIm1q, zupE, zupN, vpT, nI_01, nI_11, ↓reduceIte, Option.bind_some, Option.toList_some, Option.toList_none, List.cons_append, List.nil_append, Nat.reduceAdd, Nat.reduceMul, Nat.reduceSub, Nat.reduceDiv, Nat.reduceMod, and_true, true_and, and_false, false_and, not_true_eq_false, not_false_eq_true, or_true, true_or, or_false, false_or, Int32.lt_irrefl, Int32.le_refl, u, c1, mo, e4, f1, f2]) only [nI_add, pk_mul, pk_sub, pk_div, znmod, nI_clamp, nIleT, nIleF, nIltT, nIltF, nIeqT, nIeqF, nIm1, nIm1q, zupE, zupN, vpT, nI_01, nI_11, ↓reduceIte, Option.bind_some, Option.toList_some, Option.toList_none, List.cons_append, List.nil_append, Nat.reduceAdd, Nat.reduceMul, Nat.reduceSub, Nat.reduceDiv, Nat.reduceMod, and_true, true_and, and_false, false_and, not_true_eq_false, not_false_eq_true, or_true, true_or, or_false, false_or, Int32.lt_irrefl, Int32.le_refl, u, c1, mo, e4, f1, f2, b262_34, b262_44, b262_51, b262_62, b262_68, b262_75]
      · have f1 : ybw (fun p => decide (¬ K p = 0)) P (i + 1) = ybw (fun p => decide (¬ K p = 0)) P i ||| 2 ^ (P - 1 - i) := by rw [ybw, if_pos (by simp [c1])]
        rw [e3]
        by_cases c2 : yones (K (P - 1 - i)) % 2 = 1
        · have f2 : ybw (fun p => decide (yones (K p) % 2 = 1)) P (i + 1) = ybw (fun p => decide (yones (K p) % 2 = 1)) P i ||| 2 ^ (P - 1 - i) := by rw [ybw, if_pos (decide_eq_true c2)]
          simp (disch := first | omega | simp (disch := omega) only [nI_add, pk_mul, pk_sub, pk_div, znmod, nI_clamp, nIleT, nIleF, nIltT, nIltF, nIeqT, nIeqF, nIm1, nIm1q, zupE, zupN, vpT, nI_01, nI_11, ↓reduceIte, Option.bind_some, Option.toList_some, Option.toList_none, List.cons_append, List.nil_append, Nat.reduceAdd, Nat.reduceMul, Nat.reduceSub, Nat.reduceDiv, Nat.reduceMod, and_true, true_and, and_false, false_and, not_true_eq_false, not_false_eq_true, or_true, true_or, or_false, false_or, Int32.lt_irrefl, Int32.le_refl, u, c1, mo, e5, c2, zShl, zOr, e4, f1, f2]) only [nI_add, pk_mul, pk_sub, pk_div, znmod, nI_clamp, nIleT, nIleF, nIltT, nIltF, nIeqT, nIeqF, nIm1, nIm1q, zupE, zupN, vpT, nI_01, nI_11, ↓reduceIte, Option.bind_some, Option.toList_some, Option.toList_none, List.cons_append, List.nil_append, Nat.reduceAdd, Nat.reduceMul, Nat.reduceSub, Nat.reduceDiv, Nat.reduceMod, and_true, true_and, and_false, false_and, not_true_eq_false, not_false_eq_true, or_true, true_or, or_false, false_or, Int32.lt_irrefl, Int32.le_refl, u, c1, mo, e5, c2, zShl, zOr, e4, f1, f2, b262_34, b262_44, b262_51, b262_62, b262_68, b262_75]
        · have f2 : ybw (fun p => decide (yones (K p) % 2 = 1)) P (i + 1) = ybw (fun p => decide (yones (K p) % 2 = 1)) P i := by rw [ybw, if_neg (by simp [c2])]
          simp (disch := first | omega | simp (disch := omega) only [nI_add, pk_mul, pk_sub, pk_div, znmod, nI_clamp, nIleT, nIleF, nIltT, nIltF, nIeqT, nIeqF, nIm1, nIm1q, zupE, zupN, vpT, nI_01, nI_11, ↓reduceIte, Option.bind_some, Option.toList_some, Option.toList_none, List.cons_append, List.nil_append, Nat.reduceAdd, Nat.reduceMul, Nat.reduceSub, Nat.reduceDiv, Nat.reduceMod, and_true, true_and, and_false, false_and, not_true_eq_false, not_false_eq_true, or_true, true_or, or_false, false_or, Int32.lt_irrefl, Int32.le_refl, u, c1, mo, e5, c2, zShl, zOr, e4, f1, f2]) only [nI_add, pk_mul, pk_sub, pk_div, znmod, nI_clamp, nIleT, nIleF, nIltT, nIltF, nIeqT, nIeqF, nIm1, nIm1q, zupE, zupN, vpT, nI_01, nI_11, ↓reduceIte, Option.bind_some, Option.toList_some, Option.toList_none, List.cons_append, List.nil_append, Nat.reduceAdd, Nat.reduceMul, Nat.reduceSub, Nat.reduceDiv, Nat.reduceMod, and_true, true_and, and_false, false_and, not_true_eq_false, not_false_eq_true, or_true, true_or, or_false, false_or, Int32.lt_irrefl, Int32.le_refl, u, c1, mo, e5, c2, zShl, zOr, e4, f1, f2, b262_34, b262_44, b262_51, b262_62, b262_68, b262_75]) P (Nat.le_refl _) () trivial
    have m2 := m1.trans b262_29
    have z1 : (nI P - nI (P + 1) < nI 0) = True := eq_true (pk_sneg (by omega) (by omega))
    have f3 : ybw (fun p => decide (¬ K p = 0)) P P = ysome K P := ybw_eq.trans (ysome_eq hP k5)
    have f4 : ybw (fun p => decide (yones (K p) % 2 = 1)) P P = yodd K P := ybw_eq
    have f5 : ybw (fun p => decide (¬ K p = 0)) P 0 = 0 := rfl
    have f6 : ybw (fun p => decide (yones (K p) % 2 = 1)) P 0 = 0 := rfl
    rw [f3, f4, f5, f6] at m2
    simp (disch := first | omega | simp (disch := omega) only [nI_add, pk_mul, pk_sub, pk_div, znmod, nI_clamp, nIleT, nIleF, nIltT, nIltF, nIeqT, nIeqF, nIm1, nIm1q, zupE, zupN, vpT, nI_01, nI_11, ↓reduceIte, Option.bind_some, Option.toList_some, Option.toList_none, List.cons_append, List.nil_append, Nat.reduceAdd, Nat.reduceMul, Nat.reduceSub, Nat.reduceDiv, Nat.reduceMod, and_true, true_and, and_false, false_and, not_true_eq_false, not_false_eq_true, or_true, true_or, or_false, false_or, Int32.lt_irrefl, Int32.le_refl, z1]) only [nI_add, pk_mul, pk_sub, pk_div, znmod, nI_clamp, nIleT, nIleF, nIltT, nIltF, nIeqT, nIeqF, nIm1, nIm1q, zupE, zupN, vpT, nI_01, nI_11, ↓reduceIte, Option.bind_some, Option.toList_some, Option.toList_none, List.cons_append, List.nil_append, Nat.reduceAdd, Nat.reduceMul, Nat.reduceSub, Nat.reduceDiv, Nat.reduceMod, and_true, true_and, and_false, false_and, not_true_eq_false, not_false_eq_true, or_true, true_or, or_false, false_or, Int32.lt_irrefl, Int32.le_refl, z1, b262_81] at m2
    have hstart : nI P - nI (0 + 1) = nI P - nI 1 := rfl
    have ml := zfirst (P := fun j => zev L (d + 19 + 1) 262 84 [some (.inr (.inl (12, 0, 0))), some (.inl (nI w)), some (.inl (nI (ysome K P))), some (.inl (nI (yodd K P))), some (.inl (nI j)), none] [] (zup hm 12 0 0 0 (nI 0))) (r := fun j => zev L (d + 19 + 1) 262 112 [some (.inr (.inl (12, 0, 0))), some (.inl (nI w)), some (.inl (nI (ysome K P))), some (.inl (nI (yodd K P))), some (.inl (nI j)), none] [] (zup hm 12 0 0 0 (nI 0))) (N := P) (fun i => (ysome K P).testBit i) (fun j hj => by
      refine b262_84.trans ?_
      cases c : (ysome K P).testBit j
      · simp (disch := first | omega | simp (disch := omega) only [nI_add, pk_mul, pk_sub, pk_div, znmod, nI_clamp, nIleT, nIleF, nIltT, nIltF, nIeqT, nIeqF, nIm1, nIm1q, zupE, zupN, vpT, nI_01, nI_11, ↓reduceIte, Option.bind_some, Option.toList_some, Option.toList_none, List.cons_append, List.nil_append, Nat.reduceAdd, Nat.reduceMul, Nat.reduceSub, Nat.reduceDiv, Nat.reduceMod, and_true, true_and, and_false, false_and, not_true_eq_false, not_false_eq_true, or_true, true_or, or_false, false_or, Int32.lt_irrefl, Int32.le_refl, e6, mHasB, c, Bool.toNat_false, Bool.false_eq_true]) only [nI_add, pk_mul, pk_sub, pk_div, znmod, nI_clamp, nIleT, nIleF, nIltT, nIltF, nIeqT, nIeqF, nIm1, nIm1q, zupE, zupN, vpT, nI_01, nI_11, ↓reduceIte, Option.bind_some, Option.toList_some, Option.toList_none, List.cons_append, List.nil_append, Nat.reduceAdd, Nat.reduceMul, Nat.reduceSub, Nat.reduceDiv, Nat.reduceMod, and_true, true_and, and_false, false_and, not_true_eq_false, not_false_eq_true, or_true, true_or, or_false, false_or, Int32.lt_irrefl, Int32.le_refl, e6, mHasB, c, Bool.toNat_false, Bool.false_eq_true, b262_93, b262_100, b262_103]
      · simp (disch := first | omega | simp (disch := omega) only [nI_add, pk_mul, pk_sub, pk_div, znmod, nI_clamp, nIleT, nIleF, nIltT, nIltF, nIeqT, nIeqF, nIm1, nIm1q, zupE, zupN, vpT, nI_01, nI_11, ↓reduceIte, Option.bind_some, Option.toList_some, Option.toList_none, List.cons_append, List.nil_append, Nat.reduceAdd, Nat.reduceMul, Nat.reduceSub, Nat.reduceDiv, Nat.reduceMod, and_true, true_and, and_false, false_and, not_true_eq_false, not_false_eq_true, or_true, true_or, or_false, false_or, Int32.lt_irrefl, Int32.le_refl, e6, mHasB, c, Bool.toNat_true]) only [nI_add, pk_mul, pk_sub, pk_div, znmod, nI_clamp, nIleT, nIleF, nIltT, nIltF, nIeqT, nIeqF, nIm1, nIm1q, zupE, zupN, vpT, nI_01, nI_11, ↓reduceIte, Option.bind_some, Option.toList_some, Option.toList_none, List.cons_append, List.nil_append, Nat.reduceAdd, Nat.reduceMul, Nat.reduceSub, Nat.reduceDiv, Nat.reduceMod, and_true, true_and, and_false, false_and, not_true_eq_false, not_false_eq_true, or_true, true_or, or_false, false_or, Int32.lt_irrefl, Int32.le_refl, e6, mHasB, c, Bool.toNat_true, b262_93, b262_100, b262_103]) P (Nat.le_refl _)
    obtain ⟨hcan, hcan2⟩ := ycan_k hP k5
    by_cases c0 : ysome K P = 0
    · have hk0 : ykind K P = 0 := by unfold ykind; rw [if_pos c0]
      have hz : zfst (fun i => (ysome K P).testBit i) P = none := by
        cases hz : zfst (fun i => (ysome K P).testBit i) P with
        | none => rfl
        | some f => have := (zfst_lt hz).2; rw [c0, Nat.zero_testBit] at this; cases this
      rw [hz] at ml
      have ml2 := ml.trans b262_84
      have st : ystart K P = (-1) := by unfold ystart; rw [hk0, if_neg (by decide), if_neg (by decide)]
      rw [c0] at ml2 m2
      have : w = 0 ∨ w = 1 := by omega
      rcases this with rfl | rfl
      · simp (disch := first | omega | simp (disch := omega) only [nI_add, pk_mul, pk_sub, pk_div, znmod, nI_clamp, nIleT, nIleF, nIltT, nIltF, nIeqT, nIeqF, nIm1, nIm1q, zupE, zupN, vpT, nI_01, nI_11, ↓reduceIte, Option.bind_some, Option.toList_some, Option.toList_none, List.cons_append, List.nil_append, Nat.reduceAdd, Nat.reduceMul, Nat.reduceSub, Nat.reduceDiv, Nat.reduceMod, and_true, true_and, and_false, false_and, not_true_eq_false, not_false_eq_true, or_true, true_or, or_false, false_or, Int32.lt_irrefl, Int32.le_refl, e6]) only [nI_add, pk_mul, pk_sub, pk_div, znmod, nI_clamp, nIleT, nIleF, nIltT, nIltF, nIeqT, nIeqF, nIm1, nIm1q, zupE, zupN, vpT, nI_01, nI_11, ↓reduceIte, Option.bind_some, Option.toList_some, Option.toList_none, List.cons_append, List.nil_append, Nat.reduceAdd, Nat.reduceMul, Nat.reduceSub, Nat.reduceDiv, Nat.reduceMod, and_true, true_and, and_false, false_and, not_true_eq_false, not_false_eq_true, or_true, true_or, or_false, false_or, Int32.lt_irrefl, Int32.le_refl, e6, b262_112, b262_141, b262_142, b262_148, b262_153, b262_166] at ml2
        simp (disch := first | omega | simp (disch := omega) only [nI_add, pk_mul, pk_sub, pk_div, znmod, nI_clamp, nIleT, nIleF, nIltT, nIltF, nIeqT, nIeqF, nIm1, nIm1q, zupE, zupN, vpT, nI_01, nI_11, ↓reduceIte, Option.bind_some, Option.toList_some, Option.toList_none, List.cons_append, List.nil_append, Nat.reduceAdd, Nat.reduceMul, Nat.reduceSub, Nat.reduceDiv, Nat.reduceMod, and_true, true_and, and_false, false_and, not_true_eq_false, not_false_eq_true, or_true, true_or, or_false, false_or, Int32.lt_irrefl, Int32.le_refl, e8, kw, mIn, t1, kk, hk0, e6, m2, ml2]) only [nI_add, pk_mul, pk_sub, pk_div, znmod, nI_clamp, nIleT, nIleF, nIltT, nIltF, nIeqT, nIeqF, nIm1, nIm1q, zupE, zupN, vpT, nI_01, nI_11, ↓reduceIte, Option.bind_some, Option.toList_some, Option.toList_none, List.cons_append, List.nil_append, Nat.reduceAdd, Nat.reduceMul, Nat.reduceSub, Nat.reduceDiv, Nat.reduceMod, and_true, true_and, and_false, false_and, not_true_eq_false, not_false_eq_true, or_true, true_or, or_false, false_or, Int32.lt_irrefl, Int32.le_refl, e8, kw, mIn, t1, kk, hk0, e6, m2, ml2, b138_0, b138_6, b138_9, b138_11, b138_32, b138_36, b138_43, b138_46, b138_53, b262_0, b262_5, b262_12, b262_17]
        exact ⟨_, _, _, rfl, rfl, Rel_y R' t4 (yM_u yM_r rfl)⟩
      · simp (disch := first | omega | simp (disch := omega) only [nI_add, pk_mul, pk_sub, pk_div, znmod, nI_clamp, nIleT, nIleF, nIltT, nIltF, nIeqT, nIeqF, nIm1, nIm1q, zupE, zupN, vpT, nI_01, nI_11, ↓reduceIte, Option.bind_some, Option.toList_some, Option.toList_none, List.cons_append, List.nil_append, Nat.reduceAdd, Nat.reduceMul, Nat.reduceSub, Nat.reduceDiv, Nat.reduceMod, and_true, true_and, and_false, false_and, not_true_eq_false, not_false_eq_true, or_true, true_or, or_false, false_or, Int32.lt_irrefl, Int32.le_refl, e6]) only [nI_add, pk_mul, pk_sub, pk_div, znmod, nI_clamp, nIleT, nIleF, nIltT, nIltF, nIeqT, nIeqF, nIm1, nIm1q, zupE, zupN, vpT, nI_01, nI_11, ↓reduceIte, Option.bind_some, Option.toList_some, Option.toList_none, List.cons_append, List.nil_append, Nat.reduceAdd, Nat.reduceMul, Nat.reduceSub, Nat.reduceDiv, Nat.reduceMod, and_true, true_and, and_false, false_and, not_true_eq_false, not_false_eq_true, or_true, true_or, or_false, false_or, Int32.lt_irrefl, Int32.le_refl, e6, b262_112, b262_141, b262_142, b262_167, b262_172] at ml2
        simp (disch := first | omega | simp (disch := omega) only [nI_add, pk_mul, pk_sub, pk_div, znmod, nI_clamp, nIleT, nIleF, nIltT, nIltF, nIeqT, nIeqF, nIm1, nIm1q, zupE, zupN, vpT, nI_01, nI_11, ↓reduceIte, Option.bind_some, Option.toList_some, Option.toList_none, List.cons_append, List.nil_append, Nat.reduceAdd, Nat.reduceMul, Nat.reduceSub, Nat.reduceDiv, Nat.reduceMod, and_true, true_and, and_false, false_and, not_true_eq_false, not_false_eq_true, or_true, true_or, or_false, false_or, Int32.lt_irrefl, Int32.le_refl, e8, kw, mIn, t1, kst, st, e6, m2, ml2]) only [nI_add, pk_mul, pk_sub, pk_div, znmod, nI_clamp, nIleT, nIleF, nIltT, nIltF, nIeqT, nIeqF, nIm1, nIm1q, zupE, zupN, vpT, nI_01, nI_11, ↓reduceIte, Option.bind_some, Option.toList_some, Option.toList_none, List.cons_append, List.nil_append, Nat.reduceAdd, Nat.reduceMul, Nat.reduceSub, Nat.reduceDiv, Nat.reduceMod, and_true, true_and, and_false, false_and, not_true_eq_false, not_false_eq_true, or_true, true_or, or_false, false_or, Int32.lt_irrefl, Int32.le_refl, e8, kw, mIn, t1, kst, st, e6, m2, ml2, b138_0, b138_6, b138_9, b138_11, b138_32, b138_36, b138_43, b138_46, b138_53, b262_0, b262_5, b262_12, b262_17]
        exact ⟨_, _, _, rfl, rfl, Rel_y R' t4 (yM_u yM_r rfl)⟩
    · have l2 : ysome K P < 2 ^ P := by rw [← ysome_eq hP k5]; exact ybs_lt2 P
      obtain ⟨f, hf⟩ := ybit_of l2 c0
      obtain ⟨f1, f2⟩ := zfst_lt hf
      have ef : yfs (ysome K P) = f := by
        have := zfst_mono hf (12 - P)
        rw [show P + (12 - P) = 12 by omega] at this
        unfold yfs
        rw [this]
        rfl
      rw [hf] at ml
      rw [ef] at hcan hcan2
      simp (disch := first | omega | simp (disch := omega) only [nI_add, pk_mul, pk_sub, pk_div, znmod, nI_clamp, nIleT, nIleF, nIltT, nIltF, nIeqT, nIeqF, nIm1, nIm1q, zupE, zupN, vpT, nI_01, nI_11, ↓reduceIte, Option.bind_some, Option.toList_some, Option.toList_none, List.cons_append, List.nil_append, Nat.reduceAdd, Nat.reduceMul, Nat.reduceSub, Nat.reduceDiv, Nat.reduceMod, and_true, true_and, and_false, false_and, not_true_eq_false, not_false_eq_true, or_true, true_or, or_false, false_or, Int32.lt_irrefl, Int32.le_refl]) only [nI_add, pk_mul, pk_sub, pk_div, znmod, nI_clamp, nIleT, nIleF, nIltT, nIltF, nIeqT, nIeqF, nIm1, nIm1q, zupE, zupN, vpT, nI_01, nI_11, ↓reduceIte, Option.bind_some, Option.toList_some, Option.toList_none, List.cons_append, List.nil_append, Nat.reduceAdd, Nat.reduceMul, Nat.reduceSub, Nat.reduceDiv, Nat.reduceMod, and_true, true_and, and_false, false_and, not_true_eq_false, not_false_eq_true, or_true, true_or, or_false, false_or, Int32.lt_irrefl, Int32.le_refl] at m2
      have mk := fun d => mKk (L := L) (d := d) (h := zup hm 12 0 0 0 (nI 0)) (a := f) hP g6 g40 hK (by omega)
      have lC := yit_lt (K := K) (P := P) (n := 12) hK (z2p (a := f) (n := 12) (by omega))
      have lA : yit K P (2 ^ f) 12 &&& ysome K P < 2 ^ 12 := Nat.lt_of_le_of_lt Nat.and_le_left lC
      have mo := fun d => mOnes (L := L) (d := d) (h := zup hm 12 0 0 0 (nI 0)) lO
      have m142 : zev L (d + 19 + 1) 262 112 [some (.inr (.inl (12, 0, 0))), some (.inl (nI w)), some (.inl (nI (ysome K P))), some (.inl (nI (yodd K P))), some (.inl (nI f)), none] [] (zup hm 12 0 0 0 (nI 0)) = zev L (d + 19 + 1) 262 142 [some (.inr (.inl (12, 0, 0))), some (.inl (nI w)), some (.inl (nI (ysome K P))), some (.inl (nI (yodd K P))), some (.inl (nI f)), none] [.inl (nI (ycan K P f).toNat)] (zup hm 12 0 0 0 (nI 0)) := by
        unfold ycan
        by_cases c1 : yit K P (2 ^ f) 12 &&& ysome K P = ysome K P
        · by_cases c2 : yones (yodd K P) < 3
          · have e1 : (decide (¬ ysome K P = 0) && (decide (yit K P (2 ^ f) 12 &&& ysome K P = ysome K P) && decide (yones (yodd K P) < 3))).toNat = 1 := by simp [c0, c1, c2]
            rw [e1]
            simp (disch := first | omega | simp (disch := omega) only [nI_add, pk_mul, pk_sub, pk_div, znmod, nI_clamp, nIleT, nIleF, nIltT, nIltF, nIeqT, nIeqF, nIm1, nIm1q, zupE, zupN, vpT, nI_01, nI_11, ↓reduceIte, Option.bind_some, Option.toList_some, Option.toList_none, List.cons_append, List.nil_append, Nat.reduceAdd, Nat.reduceMul, Nat.reduceSub, Nat.reduceDiv, Nat.reduceMod, and_true, true_and, and_false, false_and, not_true_eq_false, not_false_eq_true, or_true, true_or, or_false, false_or, Int32.lt_irrefl, Int32.le_refl, c0, mk, zAnd, c1, mo]) only [nI_add, pk_mul, pk_sub, pk_div, znmod, nI_clamp, nIleT, nIleF, nIltT, nIltF, nIeqT, nIeqF, nIm1, nIm1q, zupE, zupN, vpT, nI_01, nI_11, ↓reduceIte, Option.bind_some, Option.toList_some, Option.toList_none, List.cons_append, List.nil_append, Nat.reduceAdd, Nat.reduceMul, Nat.reduceSub, Nat.reduceDiv, Nat.reduceMod, and_true, true_and, and_false, false_and, not_true_eq_false, not_false_eq_true, or_true, true_or, or_false, false_or, Int32.lt_irrefl, Int32.le_refl, c0, mk, zAnd, c1, mo, b262_112, b262_116, b262_122, b262_128, b262_133, b262_137, b262_141]
          · have e1 : (decide (¬ ysome K P = 0) && (decide (yit K P (2 ^ f) 12 &&& ysome K P = ysome K P) && decide (yones (yodd K P) < 3))).toNat = 0 := by simp [c2]
            rw [e1]
            simp (disch := first | omega | simp (disch := omega) only [nI_add, pk_mul, pk_sub, pk_div, znmod, nI_clamp, nIleT, nIleF, nIltT, nIltF, nIeqT, nIeqF, nIm1, nIm1q, zupE, zupN, vpT, nI_01, nI_11, ↓reduceIte, Option.bind_some, Option.toList_some, Option.toList_none, List.cons_append, List.nil_append, Nat.reduceAdd, Nat.reduceMul, Nat.reduceSub, Nat.reduceDiv, Nat.reduceMod, and_true, true_and, and_false, false_and, not_true_eq_false, not_false_eq_true, or_true, true_or, or_false, false_or, Int32.lt_irrefl, Int32.le_refl, c0, mk, zAnd, c1, mo]) only [nI_add, pk_mul, pk_sub, pk_div, znmod, nI_clamp, nIleT, nIleF, nIltT, nIltF, nIeqT, nIeqF, nIm1, nIm1q, zupE, zupN, vpT, nI_01, nI_11, ↓reduceIte, Option.bind_some, Option.toList_some, Option.toList_none, List.cons_append, List.nil_append, Nat.reduceAdd, Nat.reduceMul, Nat.reduceSub, Nat.reduceDiv, Nat.reduceMod, and_true, true_and, and_false, false_and, not_true_eq_false, not_false_eq_true, or_true, true_or, or_false, false_or, Int32.lt_irrefl, Int32.le_refl, c0, mk, zAnd, c1, mo, b262_112, b262_116, b262_122, b262_128, b262_133, b262_137, b262_141]
        · have e1 : (decide (¬ ysome K P = 0) && (decide (yit K P (2 ^ f) 12 &&& ysome K P = ysome K P) && decide (yones (yodd K P) < 3))).toNat = 0 := by simp [c1]
          rw [e1]
          simp (disch := first | omega | simp (disch := omega) only [nI_add, pk_mul, pk_sub, pk_div, znmod, nI_clamp, nIleT, nIleF, nIltT, nIltF, nIeqT, nIeqF, nIm1, nIm1q, zupE, zupN, vpT, nI_01, nI_11, ↓reduceIte, Option.bind_some, Option.toList_some, Option.toList_none, List.cons_append, List.nil_append, Nat.reduceAdd, Nat.reduceMul, Nat.reduceSub, Nat.reduceDiv, Nat.reduceMod, and_true, true_and, and_false, false_and, not_true_eq_false, not_false_eq_true, or_true, true_or, or_false, false_or, Int32.lt_irrefl, Int32.le_refl, c0, mk, zAnd, c1]) only [nI_add, pk_mul, pk_sub, pk_div, znmod, nI_clamp, nIleT, nIleF, nIltT, nIltF, nIeqT, nIeqF, nIm1, nIm1q, zupE, zupN, vpT, nI_01, nI_11, ↓reduceIte, Option.bind_some, Option.toList_some, Option.toList_none, List.cons_append, List.nil_append, Nat.reduceAdd, Nat.reduceMul, Nat.reduceSub, Nat.reduceDiv, Nat.reduceMod, and_true, true_and, and_false, false_and, not_true_eq_false, not_false_eq_true, or_true, true_or, or_false, false_or, Int32.lt_irrefl, Int32.le_refl, c0, mk, zAnd, c1, b262_112, b262_116, b262_122, b262_128, b262_133, b262_137, b262_141]
      have ml2 := ml.trans m142
      cases hc2 : ycan K P f
      · have hk0 : ykind K P = 0 := Classical.byContradiction fun q => by rw [hcan.2 q] at hc2; cases hc2
        have st : ystart K P = (-1) := by unfold ystart; rw [hk0, if_neg (by decide), if_neg (by decide)]
        rw [hc2, Bool.toNat_false] at ml2
        have : w = 0 ∨ w = 1 := by omega
        rcases this with rfl | rfl
        · simp (disch := first | omega | simp (disch := omega) only [nI_add, pk_mul, pk_sub, pk_div, znmod, nI_clamp, nIleT, nIleF, nIltT, nIltF, nIeqT, nIeqF, nIm1, nIm1q, zupE, zupN, vpT, nI_01, nI_11, ↓reduceIte, Option.bind_some, Option.toList_some, Option.toList_none, List.cons_append, List.nil_append, Nat.reduceAdd, Nat.reduceMul, Nat.reduceSub, Nat.reduceDiv, Nat.reduceMod, and_true, true_and, and_false, false_and, not_true_eq_false, not_false_eq_true, or_true, true_or, or_false, false_or, Int32.lt_irrefl, Int32.le_refl]) only [nI_add, pk_mul, pk_sub, pk_div, znmod, nI_clamp, nIleT, nIleF, nIltT, nIltF, nIeqT, nIeqF, nIm1, nIm1q, zupE, zupN, vpT, nI_01, nI_11, ↓reduceIte, Option.bind_some, Option.toList_some, Option.toList_none, List.cons_append, List.nil_append, Nat.reduceAdd, Nat.reduceMul, Nat.reduceSub, Nat.reduceDiv, Nat.reduceMod, and_true, true_and, and_false, false_and, not_true_eq_false, not_false_eq_true, or_true, true_or, or_false, false_or, Int32.lt_irrefl, Int32.le_refl, b262_142, b262_148, b262_153, b262_166] at ml2
          simp (disch := first | omega | simp (disch := omega) only [nI_add, pk_mul, pk_sub, pk_div, znmod, nI_clamp, nIleT, nIleF, nIltT, nIltF, nIeqT, nIeqF, nIm1, nIm1q, zupE, zupN, vpT, nI_01, nI_11, ↓reduceIte, Option.bind_some, Option.toList_some, Option.toList_none, List.cons_append, List.nil_append, Nat.reduceAdd, Nat.reduceMul, Nat.reduceSub, Nat.reduceDiv, Nat.reduceMod, and_true, true_and, and_false, false_and, not_true_eq_false, not_false_eq_true, or_true, true_or, or_false, false_or, Int32.lt_irrefl, Int32.le_refl, e8, kw, mIn, t1, kk, hk0, e6, m2, ml2]) only [nI_add, pk_mul, pk_sub, pk_div, znmod, nI_clamp, nIleT, nIleF, nIltT, nIltF, nIeqT, nIeqF, nIm1, nIm1q, zupE, zupN, vpT, nI_01, nI_11, ↓reduceIte, Option.bind_some, Option.toList_some, Option.toList_none, List.cons_append, List.nil_append, Nat.reduceAdd, Nat.reduceMul, Nat.reduceSub, Nat.reduceDiv, Nat.reduceMod, and_true, true_and, and_false, false_and, not_true_eq_false, not_false_eq_true, or_true, true_or, or_false, false_or, Int32.lt_irrefl, Int32.le_refl, e8, kw, mIn, t1, kk, hk0, e6, m2, ml2, b138_0, b138_6, b138_9, b138_11, b138_32, b138_36, b138_43, b138_46, b138_53, b262_0, b262_5, b262_12, b262_17]
          exact ⟨_, _, _, rfl, rfl, Rel_y R' t4 (yM_u yM_r rfl)⟩
        · simp (disch := first | omega | simp (disch := omega) only [nI_add, pk_mul, pk_sub, pk_div, znmod, nI_clamp, nIleT, nIleF, nIltT, nIltF, nIeqT, nIeqF, nIm1, nIm1q, zupE, zupN, vpT, nI_01, nI_11, ↓reduceIte, Option.bind_some, Option.toList_some, Option.toList_none, List.cons_append, List.nil_append, Nat.reduceAdd, Nat.reduceMul, Nat.reduceSub, Nat.reduceDiv, Nat.reduceMod, and_true, true_and, and_false, false_and, not_true_eq_false, not_false_eq_true, or_true, true_or, or_false, false_or, Int32.lt_irrefl, Int32.le_refl]) only [nI_add, pk_mul, pk_sub, pk_div, znmod, nI_clamp, nIleT, nIleF, nIltT, nIltF, nIeqT, nIeqF, nIm1, nIm1q, zupE, zupN, vpT, nI_01, nI_11, ↓reduceIte, Option.bind_some, Option.toList_some, Option.toList_none, List.cons_append, List.nil_append, Nat.reduceAdd, Nat.reduceMul, Nat.reduceSub, Nat.reduceDiv, Nat.reduceMod, and_true, true_and, and_false, false_and, not_true_eq_false, not_false_eq_true, or_true, true_or, or_false, false_or, Int32.lt_irrefl, Int32.le_refl, b262_142, b262_167, b262_172] at ml2
          simp (disch := first | omega | simp (disch := omega) only [nI_add, pk_mul, pk_sub, pk_div, znmod, nI_clamp, nIleT, nIleF, nIltT, nIltF, nIeqT, nIeqF, nIm1, nIm1q, zupE, zupN, vpT, nI_01, nI_11, ↓reduceIte, Option.bind_some, Option.toList_some, Option.toList_none, List.cons_append, List.nil_append, Nat.reduceAdd, Nat.reduceMul, Nat.reduceSub, Nat.reduceDiv, Nat.reduceMod, and_true, true_and, and_false, false_and, not_true_eq_false, not_false_eq_true, or_true, true_or, or_false, false_or, Int32.lt_irrefl, Int32.le_refl, e8, kw, mIn, t1, kst, st, e6, m2, ml2]) only [nI_add, pk_mul, pk_sub, pk_div, znmod, nI_clamp, nIleT, nIleF, nIltT, nIltF, nIeqT, nIeqF, nIm1, nIm1q, zupE, zupN, vpT, nI_01, nI_11, ↓reduceIte, Option.bind_some, Option.toList_some, Option.toList_none, List.cons_append, List.nil_append, Nat.reduceAdd, Nat.reduceMul, Nat.reduceSub, Nat.reduceDiv, Nat.reduceMod, and_true, true_and, and_false, false_and, not_true_eq_false, not_false_eq_true, or_true, true_or, or_false, false_or, Int32.lt_irrefl, Int32.le_refl, e8, kw, mIn, t1, kst, st, e6, m2, ml2, b138_0, b138_6, b138_9, b138_11, b138_32, b138_36, b138_43, b138_46, b138_53, b262_0, b262_5, b262_12, b262_17]
          exact ⟨_, _, _, rfl, rfl, Rel_y R' t4 (yM_u yM_r rfl)⟩
      · have hk0 : ykind K P ≠ 0 := hcan.1 hc2
        have hk2 := hcan2 hc2
        have hle := ykind_le (K := K) (P := P)
        rw [hc2, Bool.toNat_true] at ml2
        by_cases c2 : yodd K P = 0
        · have hk : ykind K P = 2 := hk2.2 c2
          have st : ystart K P = nI f := by unfold ystart; rw [if_pos hk, ef]
          rw [c2] at ml2 m2
          have : w = 0 ∨ w = 1 := by omega
          rcases this with rfl | rfl
          · simp (disch := first | omega | simp (disch := omega) only [nI_add, pk_mul, pk_sub, pk_div, znmod, nI_clamp, nIleT, nIleF, nIltT, nIltF, nIeqT, nIeqF, nIm1, nIm1q, zupE, zupN, vpT, nI_01, nI_11, ↓reduceIte, Option.bind_some, Option.toList_some, Option.toList_none, List.cons_append, List.nil_append, Nat.reduceAdd, Nat.reduceMul, Nat.reduceSub, Nat.reduceDiv, Nat.reduceMod, and_true, true_and, and_false, false_and, not_true_eq_false, not_false_eq_true, or_true, true_or, or_false, false_or, Int32.lt_irrefl, Int32.le_refl]) only [nI_add, pk_mul, pk_sub, pk_div, znmod, nI_clamp, nIleT, nIleF, nIltT, nIltF, nIeqT, nIeqF, nIm1, nIm1q, zupE, zupN, vpT, nI_01, nI_11, ↓reduceIte, Option.bind_some, Option.toList_some, Option.toList_none, List.cons_append, List.nil_append, Nat.reduceAdd, Nat.reduceMul, Nat.reduceSub, Nat.reduceDiv, Nat.reduceMod, and_true, true_and, and_false, false_and, not_true_eq_false, not_false_eq_true, or_true, true_or, or_false, false_or, Int32.lt_irrefl, Int32.le_refl, b262_142, b262_148, b262_157, b262_161, b262_166] at ml2
            simp (disch := first | omega | simp (disch := omega) only [nI_add, pk_mul, pk_sub, pk_div, znmod, nI_clamp, nIleT, nIleF, nIltT, nIltF, nIeqT, nIeqF, nIm1, nIm1q, zupE, zupN, vpT, nI_01, nI_11, ↓reduceIte, Option.bind_some, Option.toList_some, Option.toList_none, List.cons_append, List.nil_append, Nat.reduceAdd, Nat.reduceMul, Nat.reduceSub, Nat.reduceDiv, Nat.reduceMod, and_true, true_and, and_false, false_and, not_true_eq_false, not_false_eq_true, or_true, true_or, or_false, false_or, Int32.lt_irrefl, Int32.le_refl, e8, kw, mIn, t1, kk, hk, e6, m2, ml2]) only [nI_add, pk_mul, pk_sub, pk_div, znmod, nI_clamp, nIleT, nIleF, nIltT, nIltF, nIeqT, nIeqF, nIm1, nIm1q, zupE, zupN, vpT, nI_01, nI_11, ↓reduceIte, Option.bind_some, Option.toList_some, Option.toList_none, List.cons_append, List.nil_append, Nat.reduceAdd, Nat.reduceMul, Nat.reduceSub, Nat.reduceDiv, Nat.reduceMod, and_true, true_and, and_false, false_and, not_true_eq_false, not_false_eq_true, or_true, true_or, or_false, false_or, Int32.lt_irrefl, Int32.le_refl, e8, kw, mIn, t1, kk, hk, e6, m2, ml2, b138_0, b138_6, b138_9, b138_11, b138_32, b138_36, b138_43, b138_46, b138_53, b262_0, b262_5, b262_12, b262_17]
            exact ⟨_, _, _, rfl, rfl, Rel_y R' t4 (yM_u yM_r rfl)⟩
          · have b174 := b262_174 (L := L) (d := d + 19 + 1) (h := zup hm 12 0 0 0 (nI 0)) (x1 := nI 1) (x2 := nI (ysome K P)) (x3 := nI 0) (x4 := nI f) (x5 := nI 1)
            simp (disch := first | omega | simp (disch := omega) only [nI_add, pk_mul, pk_sub, pk_div, znmod, nI_clamp, nIleT, nIleF, nIltT, nIltF, nIeqT, nIeqF, nIm1, nIm1q, zupE, zupN, vpT, nI_01, nI_11, ↓reduceIte, Option.bind_some, Option.toList_some, Option.toList_none, List.cons_append, List.nil_append, Nat.reduceAdd, Nat.reduceMul, Nat.reduceSub, Nat.reduceDiv, Nat.reduceMod, and_true, true_and, and_false, false_and, not_true_eq_false, not_false_eq_true, or_true, true_or, or_false, false_or, Int32.lt_irrefl, Int32.le_refl]) only [nI_add, pk_mul, pk_sub, pk_div, znmod, nI_clamp, nIleT, nIleF, nIltT, nIltF, nIeqT, nIeqF, nIm1, nIm1q, zupE, zupN, vpT, nI_01, nI_11, ↓reduceIte, Option.bind_some, Option.toList_some, Option.toList_none, List.cons_append, List.nil_append, Nat.reduceAdd, Nat.reduceMul, Nat.reduceSub, Nat.reduceDiv, Nat.reduceMod, and_true, true_and, and_false, false_and, not_true_eq_false, not_false_eq_true, or_true, true_or, or_false, false_or, Int32.lt_irrefl, Int32.le_refl, b262_142, b262_167] at ml2
            simp (disch := first | omega | simp (disch := omega) only [nI_add, pk_mul, pk_sub, pk_div, znmod, nI_clamp, nIleT, nIleF, nIltT, nIltF, nIeqT, nIeqF, nIm1, nIm1q, zupE, zupN, vpT, nI_01, nI_11, ↓reduceIte, Option.bind_some, Option.toList_some, Option.toList_none, List.cons_append, List.nil_append, Nat.reduceAdd, Nat.reduceMul, Nat.reduceSub, Nat.reduceDiv, Nat.reduceMod, and_true, true_and, and_false, false_and, not_true_eq_false, not_false_eq_true, or_true, true_or, or_false, false_or, Int32.lt_irrefl, Int32.le_refl]) only [nI_add, pk_mul, pk_sub, pk_div, znmod, nI_clamp, nIleT, nIleF, nIltT, nIltF, nIeqT, nIeqF, nIm1, nIm1q, zupE, zupN, vpT, nI_01, nI_11, ↓reduceIte, Option.bind_some, Option.toList_some, Option.toList_none, List.cons_append, List.nil_append, Nat.reduceAdd, Nat.reduceMul, Nat.reduceSub, Nat.reduceDiv, Nat.reduceMod, and_true, true_and, and_false, false_and, not_true_eq_false, not_false_eq_true, or_true, true_or, or_false, false_or, Int32.lt_irrefl, Int32.le_refl, b262_197] at b174
            simp (disch := first | omega | simp (disch := omega) only [nI_add, pk_mul, pk_sub, pk_div, znmod, nI_clamp, nIleT, nIleF, nIltT, nIltF, nIeqT, nIeqF, nIm1, nIm1q, zupE, zupN, vpT, nI_01, nI_11, ↓reduceIte, Option.bind_some, Option.toList_some, Option.toList_none, List.cons_append, List.nil_append, Nat.reduceAdd, Nat.reduceMul, Nat.reduceSub, Nat.reduceDiv, Nat.reduceMod, and_true, true_and, and_false, false_and, not_true_eq_false, not_false_eq_true, or_true, true_or, or_false, false_or, Int32.lt_irrefl, Int32.le_refl, e8, kw, mIn, t1, kst, st, e6, m2, ml2, b174]) only [nI_add, pk_mul, pk_sub, pk_div, znmod, nI_clamp, nIleT, nIleF, nIltT, nIltF, nIeqT, nIeqF, nIm1, nIm1q, zupE, zupN, vpT, nI_01, nI_11, ↓reduceIte, Option.bind_some, Option.toList_some, Option.toList_none, List.cons_append, List.nil_append, Nat.reduceAdd, Nat.reduceMul, Nat.reduceSub, Nat.reduceDiv, Nat.reduceMod, and_true, true_and, and_false, false_and, not_true_eq_false, not_false_eq_true, or_true, true_or, or_false, false_or, Int32.lt_irrefl, Int32.le_refl, e8, kw, mIn, t1, kst, st, e6, m2, ml2, b174, b138_0, b138_6, b138_9, b138_11, b138_32, b138_36, b138_43, b138_46, b138_53, b262_0, b262_5, b262_12, b262_17]
            exact ⟨_, _, _, rfl, rfl, Rel_y R' t4 (yM_u yM_r rfl)⟩
        · have hk : ykind K P = 1 := by
            have : ykind K P ≠ 2 := fun q => c2 (hk2.1 q)
            omega
          have : w = 0 ∨ w = 1 := by omega
          rcases this with rfl | rfl
          · simp (disch := first | omega | simp (disch := omega) only [nI_add, pk_mul, pk_sub, pk_div, znmod, nI_clamp, nIleT, nIleF, nIltT, nIltF, nIeqT, nIeqF, nIm1, nIm1q, zupE, zupN, vpT, nI_01, nI_11, ↓reduceIte, Option.bind_some, Option.toList_some, Option.toList_none, List.cons_append, List.nil_append, Nat.reduceAdd, Nat.reduceMul, Nat.reduceSub, Nat.reduceDiv, Nat.reduceMod, and_true, true_and, and_false, false_and, not_true_eq_false, not_false_eq_true, or_true, true_or, or_false, false_or, Int32.lt_irrefl, Int32.le_refl, c2]) only [nI_add, pk_mul, pk_sub, pk_div, znmod, nI_clamp, nIleT, nIleF, nIltT, nIltF, nIeqT, nIeqF, nIm1, nIm1q, zupE, zupN, vpT, nI_01, nI_11, ↓reduceIte, Option.bind_some, Option.toList_some, Option.toList_none, List.cons_append, List.nil_append, Nat.reduceAdd, Nat.reduceMul, Nat.reduceSub, Nat.reduceDiv, Nat.reduceMod, and_true, true_and, and_false, false_and, not_true_eq_false, not_false_eq_true, or_true, true_or, or_false, false_or, Int32.lt_irrefl, Int32.le_refl, c2, b262_142, b262_148, b262_157, b262_165, b262_166] at ml2
            simp (disch := first | omega | simp (disch := omega) only [nI_add, pk_mul, pk_sub, pk_div, znmod, nI_clamp, nIleT, nIleF, nIltT, nIltF, nIeqT, nIeqF, nIm1, nIm1q, zupE, zupN, vpT, nI_01, nI_11, ↓reduceIte, Option.bind_some, Option.toList_some, Option.toList_none, List.cons_append, List.nil_append, Nat.reduceAdd, Nat.reduceMul, Nat.reduceSub, Nat.reduceDiv, Nat.reduceMod, and_true, true_and, and_false, false_and, not_true_eq_false, not_false_eq_true, or_true, true_or, or_false, false_or, Int32.lt_irrefl, Int32.le_refl, e8, kw, mIn, t1, kk, hk, e6, m2, ml2]) only [nI_add, pk_mul, pk_sub, pk_div, znmod, nI_clamp, nIleT, nIleF, nIltT, nIltF, nIeqT, nIeqF, nIm1, nIm1q, zupE, zupN, vpT, nI_01, nI_11, ↓reduceIte, Option.bind_some, Option.toList_some, Option.toList_none, List.cons_append, List.nil_append, Nat.reduceAdd, Nat.reduceMul, Nat.reduceSub, Nat.reduceDiv, Nat.reduceMod, and_true, true_and, and_false, false_and, not_true_eq_false, not_false_eq_true, or_true, true_or, or_false, false_or, Int32.lt_irrefl, Int32.le_refl, e8, kw, mIn, t1, kk, hk, e6, m2, ml2, b138_0, b138_6, b138_9, b138_11, b138_32, b138_36, b138_43, b138_46, b138_53, b262_0, b262_5, b262_12, b262_17]
            exact ⟨_, _, _, rfl, rfl, Rel_y R' t4 (yM_u yM_r rfl)⟩
          · have lO2 : yodd K P < 2 ^ P := ybs_lt2 P
            obtain ⟨o, ho⟩ := ybit_of lO2 c2
            obtain ⟨o1, o2⟩ := zfst_lt ho
            have eo : yfs (yodd K P) = o := by
              have := zfst_mono ho (12 - P)
              rw [show P + (12 - P) = 12 by omega] at this
              unfold yfs
              rw [this]
              rfl
            have st : ystart K P = nI o := by unfold ystart; rw [hk, if_neg (by decide), if_pos rfl, eo]
            have hfo : f ≤ o := by
              apply Classical.byContradiction
              intro hlt
              have h1 := zfst_min hf o (by omega)
              have h2 : (yodd K P).testBit o = true := o2
              unfold yodd at h2
              rw [ybs_bit, Bool.and_eq_true, decide_eq_true_eq, decide_eq_true_eq] at h2
              rw [← ysome_eq hP k5] at h1
              unfold ysm' at h1
              rw [ybs_bit] at h1
              have : ¬ K o = 0 := fun q => by rw [q] at h2; exact absurd h2.2 (by decide)
              simp [o1, this] at h1
            obtain ⟨_, w1, _⟩ := zinv (P := fun i (_ : Unit) => zev L (d + 19 + 1) 262 174 [some (.inr (.inl (12, 0, 0))), some (.inl (nI 1)), some (.inl (nI (ysome K P))), some (.inl (nI (yodd K P))), some (.inl (nI (f+i))), some (.inl (nI 1))] [] (zup hm 12 0 0 0 (nI 0))) (R := fun _ _ => True) (N := o - f) (fun i _ hi _ => by
              refine ⟨(), b262_174.trans ?_, trivial⟩
              have c := zfst_min ho (f + i) (by omega)
              simp (disch := first | omega | simp (disch := omega) only [nI_add, pk_mul, pk_sub, pk_div, znmod, nI_clamp, nIleT, nIleF, nIltT, nIltF, nIeqT, nIeqF, nIm1, nIm1q, zupE, zupN, vpT, nI_01, nI_11, ↓reduceIte, Option.bind_some, Option.toList_some, Option.toList_none, List.cons_append, List.nil_append, Nat.reduceAdd, Nat.reduceMul, Nat.reduceSub, Nat.reduceDiv, Nat.reduceMod, and_true, true_and, and_false, false_and, not_true_eq_false, not_false_eq_true, or_true, true_or, or_false, false_or, Int32.lt_irrefl, Int32.le_refl, c2, mHasB, c, Bool.toNat_false]) only [nI_add, pk_mul, pk_sub, pk_div, znmod, nI_clamp, nIleT, nIleF, nIltT, nIltF, nIeqT, nIeqF, nIm1, nIm1q, zupE, zupN, vpT, nI_01, nI_11, ↓reduceIte, Option.bind_some, Option.toList_some, Option.toList_none, List.cons_append, List.nil_append, Nat.reduceAdd, Nat.reduceMul, Nat.reduceSub, Nat.reduceDiv, Nat.reduceMod, and_true, true_and, and_false, false_and, not_true_eq_false, not_false_eq_true, or_true, true_or, or_false, false_or, Int32.lt_irrefl, Int32.le_refl, c2, mHasB, c, Bool.toNat_false, b262_178, b262_185, b262_188]
              rfl) (o - f) (Nat.le_refl _) () trivial
            have w2 := w1.trans b262_174
            rw [show f + (o - f) = o by omega] at w2
            have o2' : (yodd K P).testBit o = true := o2
            simp (disch := first | omega | simp (disch := omega) only [nI_add, pk_mul, pk_sub, pk_div, znmod, nI_clamp, nIleT, nIleF, nIltT, nIltF, nIeqT, nIeqF, nIm1, nIm1q, zupE, zupN, vpT, nI_01, nI_11, ↓reduceIte, Option.bind_some, Option.toList_some, Option.toList_none, List.cons_append, List.nil_append, Nat.reduceAdd, Nat.reduceMul, Nat.reduceSub, Nat.reduceDiv, Nat.reduceMod, and_true, true_and, and_false, false_and, not_true_eq_false, not_false_eq_true, or_true, true_or, or_false, false_or, Int32.lt_irrefl, Int32.le_refl, c2, mHasB, o2', Bool.toNat_true, Nat.add_zero]) only [nI_add, pk_mul, pk_sub, pk_div, znmod, nI_clamp, nIleT, nIleF, nIltT, nIltF, nIeqT, nIeqF, nIm1, nIm1q, zupE, zupN, vpT, nI_01, nI_11, ↓reduceIte, Option.bind_some, Option.toList_some, Option.toList_none, List.cons_append, List.nil_append, Nat.reduceAdd, Nat.reduceMul, Nat.reduceSub, Nat.reduceDiv, Nat.reduceMod, and_true, true_and, and_false, false_and, not_true_eq_false, not_false_eq_true, or_true, true_or, or_false, false_or, Int32.lt_irrefl, Int32.le_refl, c2, mHasB, o2', Bool.toNat_true, Nat.add_zero, b262_178, b262_185, b262_197] at w2
            simp (disch := first | omega | simp (disch := omega) only [nI_add, pk_mul, pk_sub, pk_div, znmod, nI_clamp, nIleT, nIleF, nIltT, nIltF, nIeqT, nIeqF, nIm1, nIm1q, zupE, zupN, vpT, nI_01, nI_11, ↓reduceIte, Option.bind_some, Option.toList_some, Option.toList_none, List.cons_append, List.nil_append, Nat.reduceAdd, Nat.reduceMul, Nat.reduceSub, Nat.reduceDiv, Nat.reduceMod, and_true, true_and, and_false, false_and, not_true_eq_false, not_false_eq_true, or_true, true_or, or_false, false_or, Int32.lt_irrefl, Int32.le_refl, w2]) only [nI_add, pk_mul, pk_sub, pk_div, znmod, nI_clamp, nIleT, nIleF, nIltT, nIltF, nIeqT, nIeqF, nIm1, nIm1q, zupE, zupN, vpT, nI_01, nI_11, ↓reduceIte, Option.bind_some, Option.toList_some, Option.toList_none, List.cons_append, List.nil_append, Nat.reduceAdd, Nat.reduceMul, Nat.reduceSub, Nat.reduceDiv, Nat.reduceMod, and_true, true_and, and_false, false_and, not_true_eq_false, not_false_eq_true, or_true, true_or, or_false, false_or, Int32.lt_irrefl, Int32.le_refl, w2, b262_142, b262_167] at ml2
            simp (disch := first | omega | simp (disch := omega) only [nI_add, pk_mul, pk_sub, pk_div, znmod, nI_clamp, nIleT, nIleF, nIltT, nIltF, nIeqT, nIeqF, nIm1, nIm1q, zupE, zupN, vpT, nI_01, nI_11, ↓reduceIte, Option.bind_some, Option.toList_some, Option.toList_none, List.cons_append, List.nil_append, Nat.reduceAdd, Nat.reduceMul, Nat.reduceSub, Nat.reduceDiv, Nat.reduceMod, and_true, true_and, and_false, false_and, not_true_eq_false, not_false_eq_true, or_true, true_or, or_false, false_or, Int32.lt_irrefl, Int32.le_refl, e8, kw, mIn, t1, kst, st, e6, m2, ml2]) only [nI_add, pk_mul, pk_sub, pk_div, znmod, nI_clamp, nIleT, nIleF, nIltT, nIltF, nIeqT, nIeqF, nIm1, nIm1q, zupE, zupN, vpT, nI_01, nI_11, ↓reduceIte, Option.bind_some, Option.toList_some, Option.toList_none, List.cons_append, List.nil_append, Nat.reduceAdd, Nat.reduceMul, Nat.reduceSub, Nat.reduceDiv, Nat.reduceMod, and_true, true_and, and_false, false_and, not_true_eq_false, not_false_eq_true, or_true, true_or, or_false, false_or, Int32.lt_irrefl, Int32.le_refl, e8, kw, mIn, t1, kst, st, e6, m2, ml2, b138_0, b138_6, b138_9, b138_11, b138_32, b138_36, b138_43, b138_46, b138_53, b262_0, b262_5, b262_12, b262_17]
            exact ⟨_, _, _, rfl, rfl, Rel_y R' t4 (yM_u yM_r rfl)⟩
  · simp (disch := first | omega | simp (disch := omega) only [nI_add, pk_mul, pk_sub, pk_div, znmod, nI_clamp, nIleT, nIleF, nIltT, nIltF, nIeqT, nIeqF, nIm1, nIm1q, zupE, zupN, vpT, nI_01, nI_11, ↓reduceIte, Option.bind_some, Option.toList_some, Option.toList_none, List.cons_append, List.nil_append, Nat.reduceAdd, Nat.reduceMul, Nat.reduceSub, Nat.reduceDiv, Nat.reduceMod, and_true, true_and, and_false, false_and, not_true_eq_false, not_false_eq_true, or_true, true_or, or_false, false_or, Int32.lt_irrefl, Int32.le_refl, kw, mIn, q]) only [nI_add, pk_mul, pk_sub, pk_div, znmod, nI_clamp, nIleT, nIleF, nIltT, nIltF, nIeqT, nIeqF, nIm1, nIm1q, zupE, zupN, vpT, nI_01, nI_11, ↓reduceIte, Option.bind_some, Option.toList_some, Option.toList_none, List.cons_append, List.nil_append, Nat.reduceAdd, Nat.reduceMul, Nat.reduceSub, Nat.reduceDiv, Nat.reduceMod, and_true, true_and, and_false, false_and, not_true_eq_false, not_false_eq_true, or_true, true_or, or_false, false_or, Int32.lt_irrefl, Int32.le_refl, kw, mIn, q, b138_0, b138_6, b138_9, b138_11, b138_32, b138_36, b138_43, b138_46, b138_53, b262_0, b262_5, b262_12, b262_15]
    exact zS2_no R'
end WM
