/-! operation pairs, the reference's side and partners -/
theorem zfst_left {g : Nat → Bool} : ∀ n, zfst g (n + 1) = if g 0 = true then some 0 else (zfst (fun i => g (i + 1)) n).map (· + 1)
  | 0 => by
    show (if g 0 = true then some 0 else none) = _
    cases g 0 <;> rfl
  | n + 1 => by
    rw [zfst, zfst_left n]
    by_cases h : g 0 = true
    · rw [if_pos h, if_pos h]
    · rw [if_neg h, if_neg h, zfst]
      cases zfst (fun i => g (i + 1)) n with
      | some j => rfl
      | none => cases g (n + 1) <;> rfl
theorem zfst_shift {g : Nat → Bool} : ∀ k n, (∀ q, q < k → g q = false) → zfst g (k + n) = (zfst (fun i => g (k + i)) n).map (k + ·)
  | 0, n, _ => by
    rw [Nat.zero_add]
    simp
  | k + 1, n, h => by
    rw [show k + 1 + n = k + n + 1 by omega, zfst_left, if_neg (by rw [h 0 (by omega)]; decide), zfst_shift k n (fun q hq => h (q + 1) (by omega))]
    rw [Option.map_map]
    have e1 : (fun i => g (k + i + 1)) = (fun i => g (k + 1 + i)) := funext fun i => by congr 1; omega
    rw [e1]
    congr 1
    funext i
    show k + i + 1 = k + 1 + i
    omega
/-- as an int: the first, or NONE -/
def yoI (o : Option Nat) : Int32 := match o with
  | some j => nI j
  | none => (-1)
def ywd (g : Nat → Bool) (P : Nat) : Nat → Int32
  | 0 => (-1)
  | i + 1 => if g (P - 1 - i) = true then nI (P - 1 - i) else ywd g P i
theorem ywd_eq {g : Nat → Bool} {P : Nat} : ∀ i, i ≤ P → ywd g P i = yoI ((zfst (fun j => g (P - i + j)) i).map (P - i + ·))
  | 0, _ => rfl
  | i + 1, h => by
    rw [ywd, zfst_left, ywd_eq i (by omega)]
    have e0 : P - (i + 1) + 0 = P - 1 - i := by omega
    rw [e0]
    have e1 : (fun j => g (P - (i + 1) + (j + 1))) = fun j => g (P - i + j) := funext fun j => by congr 1; omega
    rw [e1]
    split
    · show _ = nI (P - (i + 1) + 0)
      rw [e0]
    · rw [Option.map_map]
      congr 2
      funext j
      show P - i + j = P - (i + 1) + (j + 1)
      omega
section PB
variable {L d : Nat} {hc hm h : zH} {x1 x2 x3 x4 x5 x : Int32} {K : Nat → Nat} {P N : Nat}
theorem ySk {s q : Nat} (hs : s < 4096) (hq : q < 12) : nI s &&& (nI (2 ^ q) ^^^ (-1)) = nI (s &&& ymk q) := yAndN hs (z2p (n := 12) hq)
theorem mMost (hP : P ≤ 12) (hK : ∀ p, p < 12 → K p < 2 ^ 12) (e : hm 12 0 0 6 = nI P) (hk : ∀ p, p < 12 → hm 12 0 40 p = nI (K p)) :
    ∃ g, zev L (d + 1) 258 0 [some (.inr (.inl (12, 0, 0))), none, none, none, none, none] [] hm = some (none, g) ∧ (∀ s, s < 2 ^ P → g 12 0 56 s = nI (ymp K P s)) ∧ yM hm g := by
  have h2p := y2P12 hP
  have hpos := Nat.two_pow_pos P
  have e2 : nI 1 <<< (nI P &&& 31) = nI (2 ^ P) := zShl (by omega)
  obtain ⟨⟨g, a2, a3, a4, a5⟩, k1, r3, r4⟩ := zinv (P := fun s (t : zH × Option zV × Option zV × Option zV × Option zV) => zev L (d + 1) 258 2 [some (.inr (.inl (12, 0, 0))), some (.inl (nI s)), t.2.1, t.2.2.1, t.2.2.2.1, t.2.2.2.2] [] t.1)
    (R := fun s t => (∀ u, u < s → t.1 12 0 56 u = nI (ymp K P u)) ∧ yM hm t.1) (N := 2 ^ P) (fun s t hs hr => by
      obtain ⟨g, a2, a3, a4, a5⟩ := t
      obtain ⟨r3, r4⟩ := hr
      simp only at r3 r4
      have g6 : g 12 0 0 6 = nI P := (yM_f r4 6 (by decide)).trans e
      have g40 : ∀ p, p < 12 → g 12 0 40 p = nI (K p) := fun p hp => by rw [yM_s r4 40 (by decide) (by decide)]; exact hk p hp
      by_cases h0 : s = 0
      · subst h0
        by_cases hP0 : P = 0
        · refine ⟨(zup g 12 0 56 0 (nI 0), some (.inl (nI 0)), some (.inl (nI 0)), a4, a5), b258_2.trans ?_, fun u hu => ?_, yM_u r4 rfl⟩
          · simp (disch := first | omega | simp (disch := omega) only [nI_add, pk_mul, pk_sub, pk_div, znmod, nI_clamp, nIleT, nIleF, nIltT, nIltF, nIeqT, nIeqF, nIm1, nIm1q, zupE, zupN, vpT, nI_01, nI_11, ↓reduceIte, Option.bind_some, Option.toList_some, Option.toList_none, List.cons_append, List.nil_append, Nat.reduceAdd, Nat.reduceMul, Nat.reduceSub, Nat.reduceDiv, Nat.reduceMod, and_true, true_and, and_false, false_and, not_true_eq_false, not_false_eq_true, or_true, true_or, or_false, false_or, Int32.lt_irrefl, Int32.le_refl, g6, e2]) only [nI_add, pk_mul, pk_sub, pk_div, znmod, nI_clamp, nIleT, nIleF, nIltT, nIltF, nIeqT, nIeqF, nIm1, nIm1q, zupE, zupN, vpT, nI_01, nI_11, ↓reduceIte, Option.bind_some, Option.toList_some, Option.toList_none, List.cons_append, List.nil_append, Nat.reduceAdd, Nat.reduceMul, Nat.reduceSub, Nat.reduceDiv, Nat.reduceMod, and_true, true_and, and_false, false_and, not_true_eq_false, not_false_eq_true, or_true, true_or, or_false, false_or, Int32.lt_irrefl, Int32.le_refl, g6, e2, b258_12, b258_16, b258_24, b258_137, b258_144]
          · show zup g 12 0 56 0 (nI 0) 12 0 56 u = _
            rw [show u = 0 by omega, ymp_0, zupE (by omega)]
        · refine ⟨(zup g 12 0 56 0 (nI 0), some (.inl (nI 0)), some (.inl (nI 0)), a4, a5), b258_2.trans ?_, fun u hu => ?_, yM_u r4 rfl⟩
          · simp (disch := first | omega | simp (disch := omega) only [nI_add, pk_mul, pk_sub, pk_div, znmod, nI_clamp, nIleT, nIleF, nIltT, nIltF, nIeqT, nIeqF, nIm1, nIm1q, zupE, zupN, vpT, nI_01, nI_11, ↓reduceIte, Option.bind_some, Option.toList_some, Option.toList_none, List.cons_append, List.nil_append, Nat.reduceAdd, Nat.reduceMul, Nat.reduceSub, Nat.reduceDiv, Nat.reduceMod, and_true, true_and, and_false, false_and, not_true_eq_false, not_false_eq_true, or_true, true_or, or_false, false_or, Int32.lt_irrefl, Int32.le_refl, g6, e2]) only [nI_add, pk_mul, pk_sub, pk_div, znmod, nI_clamp, nIleT, nIleF, nIltT, nIltF, nIeqT, nIeqF, nIm1, nIm1q, zupE, zupN, vpT, nI_01, nI_11, ↓reduceIte, Option.bind_some, Option.toList_some, Option.toList_none, List.cons_append, List.nil_append, Nat.reduceAdd, Nat.reduceMul, Nat.reduceSub, Nat.reduceDiv, Nat.reduceMod, and_true, true_and, and_false, false_and, not_true_eq_false, not_false_eq_true, or_true, true_or, or_false, false_or, Int32.lt_irrefl, Int32.le_refl, g6, e2, b258_12, b258_16, b258_24, b258_137, b258_144]
          · show zup g 12 0 56 0 (nI 0) 12 0 56 u = _
            rw [show u = 0 by omega, ymp_0, zupE (by omega)]
      · have hs4 : s < 4096 := by omega
        obtain ⟨o1, o2⟩ := yones_s s hs4 h0
        obtain ⟨s1, s2⟩ := ysf1 s hs4 h0
        have s3 := ysf2 s hs4 h0
        have hfl := yfs_lt (m := s)
        have hfP : yfs s < P := by
          apply Classical.byContradiction
          intro hge
          have : s.testBit (yfs s) = false := Nat.testBit_lt_two_pow (Nat.lt_of_lt_of_le hs (Nat.pow_le_pow_right (by decide) (by omega)))
          rw [s1] at this
          cases this
        have hmin : ∀ q, q < yfs s → s.testBit q = false := by
          intro q hq
          have : zfst (fun i => s.testBit i) 12 = some (yfs s) := by
            cases hz : zfst (fun i => s.testBit i) 12 with
            | some j => unfold yfs; rw [hz]; rfl
            | none => have := zfst_none hz (yfs s) hfl; rw [s1] at this; cases this
          exact zfst_min this q hq
        have hKp : K (yfs s) < 4096 := hK _ hfl
        have u1 := g40 (yfs s) hfl
        have lr : s &&& (s - 1) < 4096 := by omega
        have u2 := r3 (s &&& (s - 1)) o1
        have l2 := ymp_le (K := K) hP (s &&& (s - 1)) lr
        have l12 := yones_12 (s &&& (s - 1))
        have esk := ySk (s := s) (q := yfs s) hs4 hfl
        rw [s2] at esk
        -- to the first that is in the set
        obtain ⟨_, j1, _⟩ := zinv (P := fun p (_ : Unit) => zev L (d + 1) 258 16 [some (.inr (.inl (12, 0, 0))), some (.inl (nI s)), some (.inl (nI 0)), some (.inl (nI p)), a4, a5] [] g) (R := fun _ _ => True) (N := yfs s) (fun p _ hp _ => by
          refine ⟨(), b258_16.trans ?_, trivial⟩
          have c := hmin p hp
          simp (disch := first | omega | simp (disch := omega) only [nI_add, pk_mul, pk_sub, pk_div, znmod, nI_clamp, nIleT, nIleF, nIltT, nIltF, nIeqT, nIeqF, nIm1, nIm1q, zupE, zupN, vpT, nI_01, nI_11, ↓reduceIte, Option.bind_some, Option.toList_some, Option.toList_none, List.cons_append, List.nil_append, Nat.reduceAdd, Nat.reduceMul, Nat.reduceSub, Nat.reduceDiv, Nat.reduceMod, and_true, true_and, and_false, false_and, not_true_eq_false, not_false_eq_true, or_true, true_or, or_false, false_or, Int32.lt_irrefl, Int32.le_refl, g6, mHasB, c, Bool.toNat_false]) only [nI_add, pk_mul, pk_sub, pk_div, znmod, nI_clamp, nIleT, nIleF, nIltT, nIltF, nIeqT, nIeqF, nIm1, nIm1q, zupE, zupN, vpT, nI_01, nI_11, ↓reduceIte, Option.bind_some, Option.toList_some, Option.toList_none, List.cons_append, List.nil_append, Nat.reduceAdd, Nat.reduceMul, Nat.reduceSub, Nat.reduceDiv, Nat.reduceMod, and_true, true_and, and_false, false_and, not_true_eq_false, not_false_eq_true, or_true, true_or, or_false, false_or, Int32.lt_irrefl, Int32.le_refl, g6, mHasB, c, Bool.toNat_false, b258_24, b258_28, b258_34, b258_37, b258_131]) (yfs s) (Nat.le_refl _) () trivial
        have j2 := j1.trans b258_16
        -- with whom he can be
        obtain ⟨_, i1, _⟩ := zinv (P := fun q (_ : Unit) => zev L (d + 1) 258 65 [some (.inr (.inl (12, 0, 0))), some (.inl (nI s)), some (.inl (nI (ymx (ypf K P s) (ymp K P (s &&& (s - 1))) q))), some (.inl (nI (yfs s))), some (.inl (nI (s &&& (s - 1)))), some (.inl (nI q))] [] g) (R := fun _ _ => True) (N := P) (fun q _ hq _ => by
          refine ⟨(), b258_65.trans ?_, trivial⟩
          have l3 : ymx (ypf K P s) (ymp K P (s &&& (s - 1))) q ≤ ymp K P s := by
            rw [ymp_s h0]
            have := ymx_m (f := ypf K P s) (b := ymp K P (s &&& (s - 1))) (n := q) (P - q)
            rwa [show q + (P - q) = P by omega] at this
          have l4 := ymp_le (K := K) hP s hs4
          have l5 := yones_12 s
          cases c1 : (s &&& (s - 1)).testBit q
          · have ef : ypf K P s q = 0 := by unfold ypf; rw [c1, if_neg (by simp)]
            have ev : ymx (ypf K P s) (ymp K P (s &&& (s - 1))) (q + 1) = ymx (ypf K P s) (ymp K P (s &&& (s - 1))) q := by rw [ymx, ef]; split <;> omega
            simp (disch := first | omega | simp (disch := omega) only [nI_add, pk_mul, pk_sub, pk_div, znmod, nI_clamp, nIleT, nIleF, nIltT, nIltF, nIeqT, nIeqF, nIm1, nIm1q, zupE, zupN, vpT, nI_01, nI_11, ↓reduceIte, Option.bind_some, Option.toList_some, Option.toList_none, List.cons_append, List.nil_append, Nat.reduceAdd, Nat.reduceMul, Nat.reduceSub, Nat.reduceDiv, Nat.reduceMod, and_true, true_and, and_false, false_and, not_true_eq_false, not_false_eq_true, or_true, true_or, or_false, false_or, Int32.lt_irrefl, Int32.le_refl, g6, mHasB, c1, Bool.toNat_false, ev]) only [nI_add, pk_mul, pk_sub, pk_div, znmod, nI_clamp, nIleT, nIleF, nIltT, nIltF, nIeqT, nIeqF, nIm1, nIm1q, zupE, zupN, vpT, nI_01, nI_11, ↓reduceIte, Option.bind_some, Option.toList_some, Option.toList_none, List.cons_append, List.nil_append, Nat.reduceAdd, Nat.reduceMul, Nat.reduceSub, Nat.reduceDiv, Nat.reduceMod, and_true, true_and, and_false, false_and, not_true_eq_false, not_false_eq_true, or_true, true_or, or_false, false_or, Int32.lt_irrefl, Int32.le_refl, g6, mHasB, c1, Bool.toNat_false, ev, b258_74, b258_82, b258_85, b258_97, b258_100, b258_121, b258_122]
          · cases c2 : (K (yfs s)).testBit q
            · have ef : ypf K P s q = 1 + ymp K P (s &&& (s - 1) &&& ymk q) := by unfold ypf; rw [c1, c2, if_pos ⟨rfl, rfl⟩]
              have lz : s &&& (s - 1) &&& ymk q ≤ s &&& (s - 1) := Nat.and_le_left
              have u3 := r3 (s &&& (s - 1) &&& ymk q) (by omega)
              have lf := ymp_le (K := K) hP (s &&& (s - 1) &&& ymk q) (by omega)
              have lo := yones_12 (s &&& (s - 1) &&& ymk q)
              have esk2 := ySk (s := s &&& (s - 1)) (q := q) lr (by omega)
              by_cases c3 : ymx (ypf K P s) (ymp K P (s &&& (s - 1))) q ≤ 1 + ymp K P (s &&& (s - 1) &&& ymk q)
              · have ev : ymx (ypf K P s) (ymp K P (s &&& (s - 1))) (q + 1) = 1 + ymp K P (s &&& (s - 1) &&& ymk q) := by rw [ymx, ef, if_pos c3]
                simp (disch := first | omega | simp (disch := omega) only [nI_add, pk_mul, pk_sub, pk_div, znmod, nI_clamp, nIleT, nIleF, nIltT, nIltF, nIeqT, nIeqF, nIm1, nIm1q, zupE, zupN, vpT, nI_01, nI_11, ↓reduceIte, Option.bind_some, Option.toList_some, Option.toList_none, List.cons_append, List.nil_append, Nat.reduceAdd, Nat.reduceMul, Nat.reduceSub, Nat.reduceDiv, Nat.reduceMod, and_true, true_and, and_false, false_and, not_true_eq_false, not_false_eq_true, or_true, true_or, or_false, false_or, Int32.lt_irrefl, Int32.le_refl, g6, mHasB, u1, c1, c2, Bool.toNat_false, Bool.toNat_true, zShl, esk2, u3, mGrt, ev]) only [nI_add, pk_mul, pk_sub, pk_div, znmod, nI_clamp, nIleT, nIleF, nIltT, nIltF, nIeqT, nIeqF, nIm1, nIm1q, zupE, zupN, vpT, nI_01, nI_11, ↓reduceIte, Option.bind_some, Option.toList_some, Option.toList_none, List.cons_append, List.nil_append, Nat.reduceAdd, Nat.reduceMul, Nat.reduceSub, Nat.reduceDiv, Nat.reduceMod, and_true, true_and, and_false, false_and, not_true_eq_false, not_false_eq_true, or_true, true_or, or_false, false_or, Int32.lt_irrefl, Int32.le_refl, g6, mHasB, u1, c1, c2, Bool.toNat_false, Bool.toNat_true, zShl, esk2, u3, mGrt, ev, b258_74, b258_82, b258_85, b258_97, b258_100, b258_121, b258_122]
              · have ev : ymx (ypf K P s) (ymp K P (s &&& (s - 1))) (q + 1) = ymx (ypf K P s) (ymp K P (s &&& (s - 1))) q := by rw [ymx, ef, if_neg c3]
                simp (disch := first | omega | simp (disch := omega) only [nI_add, pk_mul, pk_sub, pk_div, znmod, nI_clamp, nIleT, nIleF, nIltT, nIltF, nIeqT, nIeqF, nIm1, nIm1q, zupE, zupN, vpT, nI_01, nI_11, ↓reduceIte, Option.bind_some, Option.toList_some, Option.toList_none, List.cons_append, List.nil_append, Nat.reduceAdd, Nat.reduceMul, Nat.reduceSub, Nat.reduceDiv, Nat.reduceMod, and_true, true_and, and_false, false_and, not_true_eq_false, not_false_eq_true, or_true, true_or, or_false, false_or, Int32.lt_irrefl, Int32.le_refl, g6, mHasB, u1, c1, c2, Bool.toNat_false, Bool.toNat_true, zShl, esk2, u3, mGrt, ev]) only [nI_add, pk_mul, pk_sub, pk_div, znmod, nI_clamp, nIleT, nIleF, nIltT, nIltF, nIeqT, nIeqF, nIm1, nIm1q, zupE, zupN, vpT, nI_01, nI_11, ↓reduceIte, Option.bind_some, Option.toList_some, Option.toList_none, List.cons_append, List.nil_append, Nat.reduceAdd, Nat.reduceMul, Nat.reduceSub, Nat.reduceDiv, Nat.reduceMod, and_true, true_and, and_false, false_and, not_true_eq_false, not_false_eq_true, or_true, true_or, or_false, false_or, Int32.lt_irrefl, Int32.le_refl, g6, mHasB, u1, c1, c2, Bool.toNat_false, Bool.toNat_true, zShl, esk2, u3, mGrt, ev, b258_74, b258_82, b258_85, b258_97, b258_100, b258_121, b258_122]
            · have ef : ypf K P s q = 0 := by unfold ypf; rw [c1, c2, if_neg (by simp)]
              have ev : ymx (ypf K P s) (ymp K P (s &&& (s - 1))) (q + 1) = ymx (ypf K P s) (ymp K P (s &&& (s - 1))) q := by rw [ymx, ef]; split <;> omega
              simp (disch := first | omega | simp (disch := omega) only [nI_add, pk_mul, pk_sub, pk_div, znmod, nI_clamp, nIleT, nIleF, nIltT, nIltF, nIeqT, nIeqF, nIm1, nIm1q, zupE, zupN, vpT, nI_01, nI_11, ↓reduceIte, Option.bind_some, Option.toList_some, Option.toList_none, List.cons_append, List.nil_append, Nat.reduceAdd, Nat.reduceMul, Nat.reduceSub, Nat.reduceDiv, Nat.reduceMod, and_true, true_and, and_false, false_and, not_true_eq_false, not_false_eq_true, or_true, true_or, or_false, false_or, Int32.lt_irrefl, Int32.le_refl, g6, mHasB, u1, c1, c2, Bool.toNat_false, Bool.toNat_true, ev]) only [nI_add, pk_mul, pk_sub, pk_div, znmod, nI_clamp, nIleT, nIleF, nIltT, nIltF, nIeqT, nIeqF, nIm1, nIm1q, zupE, zupN, vpT, nI_01, nI_11, ↓reduceIte, Option.bind_some, Option.toList_some, Option.toList_none, List.cons_append, List.nil_append, Nat.reduceAdd, Nat.reduceMul, Nat.reduceSub, Nat.reduceDiv, Nat.reduceMod, and_true, true_and, and_false, false_and, not_true_eq_false, not_false_eq_true, or_true, true_or, or_false, false_or, Int32.lt_irrefl, Int32.le_refl, g6, mHasB, u1, c1, c2, Bool.toNat_false, Bool.toNat_true, ev, b258_74, b258_82, b258_85, b258_97, b258_100, b258_121, b258_122]) P (Nat.le_refl _) () trivial
        have i2 := i1.trans b258_65
        rw [← ymp_s h0] at i2
        have f0 : ymx (ypf K P s) (ymp K P (s &&& (s - 1))) 0 = ymp K P (s &&& (s - 1)) := rfl
        simp (disch := first | omega | simp (disch := omega) only [nI_add, pk_mul, pk_sub, pk_div, znmod, nI_clamp, nIleT, nIleF, nIltT, nIltF, nIeqT, nIeqF, nIm1, nIm1q, zupE, zupN, vpT, nI_01, nI_11, ↓reduceIte, Option.bind_some, Option.toList_some, Option.toList_none, List.cons_append, List.nil_append, Nat.reduceAdd, Nat.reduceMul, Nat.reduceSub, Nat.reduceDiv, Nat.reduceMod, and_true, true_and, and_false, false_and, not_true_eq_false, not_false_eq_true, or_true, true_or, or_false, false_or, Int32.lt_irrefl, Int32.le_refl, g6, f0]) only [nI_add, pk_mul, pk_sub, pk_div, znmod, nI_clamp, nIleT, nIleF, nIltT, nIltF, nIeqT, nIeqF, nIm1, nIm1q, zupE, zupN, vpT, nI_01, nI_11, ↓reduceIte, Option.bind_some, Option.toList_some, Option.toList_none, List.cons_append, List.nil_append, Nat.reduceAdd, Nat.reduceMul, Nat.reduceSub, Nat.reduceDiv, Nat.reduceMod, and_true, true_and, and_false, false_and, not_true_eq_false, not_false_eq_true, or_true, true_or, or_false, false_or, Int32.lt_irrefl, Int32.le_refl, g6, f0, b258_128] at i2
        simp (disch := first | omega | simp (disch := omega) only [nI_add, pk_mul, pk_sub, pk_div, znmod, nI_clamp, nIleT, nIleF, nIltT, nIltF, nIeqT, nIeqF, nIm1, nIm1q, zupE, zupN, vpT, nI_01, nI_11, ↓reduceIte, Option.bind_some, Option.toList_some, Option.toList_none, List.cons_append, List.nil_append, Nat.reduceAdd, Nat.reduceMul, Nat.reduceSub, Nat.reduceDiv, Nat.reduceMod, and_true, true_and, and_false, false_and, not_true_eq_false, not_false_eq_true, or_true, true_or, or_false, false_or, Int32.lt_irrefl, Int32.le_refl, g6, mHasB, s1, Bool.toNat_true, zShl, esk, u2, mGrt, i2]) only [nI_add, pk_mul, pk_sub, pk_div, znmod, nI_clamp, nIleT, nIleF, nIltT, nIltF, nIeqT, nIeqF, nIm1, nIm1q, zupE, zupN, vpT, nI_01, nI_11, ↓reduceIte, Option.bind_some, Option.toList_some, Option.toList_none, List.cons_append, List.nil_append, Nat.reduceAdd, Nat.reduceMul, Nat.reduceSub, Nat.reduceDiv, Nat.reduceMod, and_true, true_and, and_false, false_and, not_true_eq_false, not_false_eq_true, or_true, true_or, or_false, false_or, Int32.lt_irrefl, Int32.le_refl, g6, mHasB, s1, Bool.toNat_true, zShl, esk, u2, mGrt, i2, b258_24, b258_28, b258_34, b258_40, b258_61] at j2
        refine ⟨(zup g 12 0 56 s (nI (ymp K P s)), some (.inl (nI (ymp K P s))), some (.inl (nI (yfs s))), some (.inl (nI (s &&& (s - 1)))), some (.inl (nI P))), b258_2.trans ?_, fun u hu => ?_, yM_u r4 rfl⟩
        · simp (disch := first | omega | simp (disch := omega) only [nI_add, pk_mul, pk_sub, pk_div, znmod, nI_clamp, nIleT, nIleF, nIltT, nIltF, nIeqT, nIeqF, nIm1, nIm1q, zupE, zupN, vpT, nI_01, nI_11, ↓reduceIte, Option.bind_some, Option.toList_some, Option.toList_none, List.cons_append, List.nil_append, Nat.reduceAdd, Nat.reduceMul, Nat.reduceSub, Nat.reduceDiv, Nat.reduceMod, and_true, true_and, and_false, false_and, not_true_eq_false, not_false_eq_true, or_true, true_or, or_false, false_or, Int32.lt_irrefl, Int32.le_refl, g6, e2, j2]) only [nI_add, pk_mul, pk_sub, pk_div, znmod, nI_clamp, nIleT, nIleF, nIltT, nIltF, nIeqT, nIeqF, nIm1, nIm1q, zupE, zupN, vpT, nI_01, nI_11, ↓reduceIte, Option.bind_some, Option.toList_some, Option.toList_none, List.cons_append, List.nil_append, Nat.reduceAdd, Nat.reduceMul, Nat.reduceSub, Nat.reduceDiv, Nat.reduceMod, and_true, true_and, and_false, false_and, not_true_eq_false, not_false_eq_true, or_true, true_or, or_false, false_or, Int32.lt_irrefl, Int32.le_refl, g6, e2, j2, b258_12, b258_137, b258_144]
        · show zup g 12 0 56 s (nI (ymp K P s)) 12 0 56 u = _
          by_cases c : u = s
          · rw [zupE (by omega), c]
          · rw [zupN (by omega)]
            exact r3 u (by omega)) (2 ^ P) (Nat.le_refl _) (hm, none, none, none, none) ⟨fun u hu => absurd hu (Nat.not_lt_zero _), yM_r⟩
  simp only at r3 r4 k1
  have g6 : g 12 0 0 6 = nI P := (yM_f r4 6 (by decide)).trans e
  refine ⟨g, ?_, r3, r4⟩
  have k2 := k1.trans b258_2
  simp (disch := first | omega | simp (disch := omega) only [nI_add, pk_mul, pk_sub, pk_div, znmod, nI_clamp, nIleT, nIleF, nIltT, nIltF, nIeqT, nIeqF, nIm1, nIm1q, zupE, zupN, vpT, nI_01, nI_11, ↓reduceIte, Option.bind_some, Option.toList_some, Option.toList_none, List.cons_append, List.nil_append, Nat.reduceAdd, Nat.reduceMul, Nat.reduceSub, Nat.reduceDiv, Nat.reduceMod, and_true, true_and, and_false, false_and, not_true_eq_false, not_false_eq_true, or_true, true_or, or_false, false_or, Int32.lt_irrefl, Int32.le_refl, g6, e2]) only [nI_add, pk_mul, pk_sub, pk_div, znmod, nI_clamp, nIleT, nIleF, nIltT, nIltF, nIeqT, nIeqF, nIm1, nIm1q, zupE, zupN, vpT, nI_01, nI_11, ↓reduceIte, Option.bind_some, Option.toList_some, Option.toList_none, List.cons_append, List.nil_append, Nat.reduceAdd, Nat.reduceMul, Nat.reduceSub, Nat.reduceDiv, Nat.reduceMod, and_true, true_and, and_false, false_and, not_true_eq_false, not_false_eq_true, or_true, true_or, or_false, false_or, Int32.lt_irrefl, Int32.le_refl, g6, e2, b258_150] at k2
  exact b258_0.trans k2
end PB
