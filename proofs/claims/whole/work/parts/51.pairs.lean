/-! operation pairs: partners -/
def ygp (K : Nat → Nat) (P s p q : Nat) : Bool := decide (p < q) && ((s &&& ymk p).testBit q && (!(K p).testBit q && decide (1 + ymp K P (s &&& ymk p &&& ymk q) = ymp K P s)))
section PC
variable {L d : Nat} {hc hm h : zH} {x1 x2 x3 x4 x5 x : Int32} {K : Nat → Nat} {P N s p : Nat}
theorem yrb {q : Nat} (hp : p < 12) (hq : q < 12) (hne : p ≠ q) : (s &&& ymk p).testBit q = s.testBit q := by
  rw [Nat.testBit_and, ymk_bit hp]
  simp [hq, hne]
theorem kPin {g : zH} (hP : P ≤ 12) (hK : ∀ p, p < 12 → K p < 2 ^ 12) (r1 : g 0 0 0 2 = nI P) (r2 : ∀ p, p < P → g 0 0 1 p = nI (K p)) (r3 : ∀ s, s < 2 ^ P → g 0 0 2 s = nI (ymp K P s)) (hs : s < 2 ^ P) (hp : p < P) (hb : s.testBit p = true) :
    zev L d 4 0 [some (.inr (.inl (0, 0, 0))), some (.inl (nI s)), some (.inl (nI p)), none, none] [] g = some (some (.inl (yoI (zfst (ygp K P s p) P))), g) := by
  have h2p := y2P12 hP
  have hs4 : s < 4096 := by omega
  have hKp : K p < 4096 := hK p (by omega)
  have lr : s &&& ymk p < 4096 := yand_lt hs4
  have eo := yAndN (a := s) (b := K p) hs4 hKp
  have u1 := r2 p hp
  have u2 := r3 s hs
  have ex1 := yxor_mk (r := s) (q := p) hs4 (by omega) hb
  have l1 := ymp_le (K := K) hP s hs4
  have o1 := yones_12 s
  have lq : s &&& (4095 ^^^ K p) < 4096 := yand_lt hs4
  have k := zfirstS (P := fun i (t : Option zV) => zev L d 4 4 [some (.inr (.inl (0, 0, 0))), some (.inl (nI s)), some (.inl (nI p)), some (.inl (nI (p + 1 + i))), t] [] g) (r := fun i => some (some (.inl (nI (p + 1 + i))), g)) (N := P - (p + 1)) (fun i => ygp K P s p (p + 1 + i)) (fun i t hi hg => by
      unfold ygp at hg
      rw [Bool.and_eq_true, Bool.and_eq_true, Bool.and_eq_true, decide_eq_true_eq, decide_eq_true_eq, Bool.not_eq_true'] at hg
      obtain ⟨_, c1, c2, c3⟩ := hg
      have tb := yoth (r := s) (k := K p) (q := p + 1 + i) hs4 hKp (by omega)
      have c1' := c1
      rw [yrb (by omega) (by omega) (by omega)] at c1'
      rw [c1', c2] at tb
      have tb' : (s &&& (4095 ^^^ K p)).testBit (p + 1 + i) = true := tb
      have ex2 := yxor_mk (r := s &&& ymk p) (q := p + 1 + i) lr (by omega) c1
      have lz : s &&& ymk p &&& ymk (p + 1 + i) ≤ s &&& ymk p := Nat.and_le_left
      have lz2 : s &&& ymk p ≤ s := Nat.and_le_left
      have u3 := r3 (s &&& ymk p &&& ymk (p + 1 + i)) (by omega)
      refine b4_4.trans ?_
      simp (disch := first | omega | simp (disch := omega) only [nI_add, pk_mul, pk_sub, pk_div, znmod, nI_clamp, nIleT, nIleF, nIltT, nIltF, nIeqT, nIeqF, nIm1, nIm1q, zupE, zupN, vpT, nI_01, nI_11, ↓reduceIte, Option.bind_some, Option.toList_some, Option.toList_none, List.cons_append, List.nil_append, Nat.reduceAdd, Nat.reduceMul, Nat.reduceSub, Nat.reduceDiv, Nat.reduceMod, and_true, true_and, and_false, false_and, not_true_eq_false, not_false_eq_true, or_true, true_or, or_false, false_or, Int32.lt_irrefl, Int32.le_refl, r1, u1, u2, eo, zBit, tb', Bool.toNat_true, zShl, zXor, ex1, ex2, u3, c3]) only [nI_add, pk_mul, pk_sub, pk_div, znmod, nI_clamp, nIleT, nIleF, nIltT, nIltF, nIeqT, nIeqF, nIm1, nIm1q, zupE, zupN, vpT, nI_01, nI_11, ↓reduceIte, Option.bind_some, Option.toList_some, Option.toList_none, List.cons_append, List.nil_append, Nat.reduceAdd, Nat.reduceMul, Nat.reduceSub, Nat.reduceDiv, Nat.reduceMod, and_true, true_and, and_false, false_and, not_true_eq_false, not_false_eq_true, or_true, true_or, or_false, false_or, Int32.lt_irrefl, Int32.le_refl, r1, u1, u2, eo, zBit, tb', Bool.toNat_true, zShl, zXor, ex1, ex2, u3, c3, b4_12, b4_30, b4_34, b4_35, b4_42, b4_67, b4_69]) (fun i t hi hg => by
      have ea : p + 1 + (i + 1) = p + 1 + i + 1 := by omega
      have tb := yoth (r := s) (k := K p) (q := p + 1 + i) hs4 hKp (by omega)
      have c1' := yrb (s := s) (p := p) (q := p + 1 + i) (by omega) (by omega) (by omega)
      by_cases c : s.testBit (p + 1 + i) = true ∧ (K p).testBit (p + 1 + i) = false
      · rw [c.1, c.2] at tb
        have tb' : (s &&& (4095 ^^^ K p)).testBit (p + 1 + i) = true := tb
        have cr : (s &&& ymk p).testBit (p + 1 + i) = true := c1'.trans c.1
        have ex2 := yxor_mk (r := s &&& ymk p) (q := p + 1 + i) lr (by omega) cr
        have lz : s &&& ymk p &&& ymk (p + 1 + i) ≤ s &&& ymk p := Nat.and_le_left
        have lz2 : s &&& ymk p ≤ s := Nat.and_le_left
        have u3 := r3 (s &&& ymk p &&& ymk (p + 1 + i)) (by omega)
        have l3 := ymp_le (K := K) hP (s &&& ymk p &&& ymk (p + 1 + i)) (by omega)
        have o3 := yones_12 (s &&& ymk p &&& ymk (p + 1 + i))
        have c3 : ¬ 1 + ymp K P (s &&& ymk p &&& ymk (p + 1 + i)) = ymp K P s := fun q => by
          unfold ygp at hg
          rw [cr, c.2, q] at hg
          simp at hg
          omega
        refine ⟨some (.inl (nI 1)), b4_4.trans ?_⟩
        simp (disch := first | omega | simp (disch := omega) only [nI_add, pk_mul, pk_sub, pk_div, znmod, nI_clamp, nIleT, nIleF, nIltT, nIltF, nIeqT, nIeqF, nIm1, nIm1q, zupE, zupN, vpT, nI_01, nI_11, ↓reduceIte, Option.bind_some, Option.toList_some, Option.toList_none, List.cons_append, List.nil_append, Nat.reduceAdd, Nat.reduceMul, Nat.reduceSub, Nat.reduceDiv, Nat.reduceMod, and_true, true_and, and_false, false_and, not_true_eq_false, not_false_eq_true, or_true, true_or, or_false, false_or, Int32.lt_irrefl, Int32.le_refl, r1, u1, u2, eo, zBit, tb', Bool.toNat_true, zShl, zXor, ex1, ex2, u3, ea]) only [nI_add, pk_mul, pk_sub, pk_div, znmod, nI_clamp, nIleT, nIleF, nIltT, nIltF, nIeqT, nIeqF, nIm1, nIm1q, zupE, zupN, vpT, nI_01, nI_11, ↓reduceIte, Option.bind_some, Option.toList_some, Option.toList_none, List.cons_append, List.nil_append, Nat.reduceAdd, Nat.reduceMul, Nat.reduceSub, Nat.reduceDiv, Nat.reduceMod, and_true, true_and, and_false, false_and, not_true_eq_false, not_false_eq_true, or_true, true_or, or_false, false_or, Int32.lt_irrefl, Int32.le_refl, r1, u1, u2, eo, zBit, tb', Bool.toNat_true, zShl, zXor, ex1, ex2, u3, ea, b4_12, b4_30, b4_34, b4_35, b4_42, b4_67, b4_69]
      · have tb' : (s &&& (4095 ^^^ K p)).testBit (p + 1 + i) = false := by
          rw [tb]
          cases d1 : s.testBit (p + 1 + i)
          · rfl
          · cases d2 : (K p).testBit (p + 1 + i)
            · exact absurd ⟨d1, d2⟩ c
            · rfl
        refine ⟨some (.inl (nI 0)), b4_4.trans ?_⟩
        simp (disch := first | omega | simp (disch := omega) only [nI_add, pk_mul, pk_sub, pk_div, znmod, nI_clamp, nIleT, nIleF, nIltT, nIltF, nIeqT, nIeqF, nIm1, nIm1q, zupE, zupN, vpT, nI_01, nI_11, ↓reduceIte, Option.bind_some, Option.toList_some, Option.toList_none, List.cons_append, List.nil_append, Nat.reduceAdd, Nat.reduceMul, Nat.reduceSub, Nat.reduceDiv, Nat.reduceMod, and_true, true_and, and_false, false_and, not_true_eq_false, not_false_eq_true, or_true, true_or, or_false, false_or, Int32.lt_irrefl, Int32.le_refl, r1, u1, u2, eo, zBit, tb', Bool.toNat_false, ea]) only [nI_add, pk_mul, pk_sub, pk_div, znmod, nI_clamp, nIleT, nIleF, nIltT, nIltF, nIeqT, nIeqF, nIm1, nIm1q, zupE, zupN, vpT, nI_01, nI_11, ↓reduceIte, Option.bind_some, Option.toList_some, Option.toList_none, List.cons_append, List.nil_append, Nat.reduceAdd, Nat.reduceMul, Nat.reduceSub, Nat.reduceDiv, Nat.reduceMod, and_true, true_and, and_false, false_and, not_true_eq_false, not_false_eq_true, or_true, true_or, or_false, false_or, Int32.lt_irrefl, Int32.le_refl, r1, u1, u2, eo, zBit, tb', Bool.toNat_false, ea, b4_12, b4_30, b4_34, b4_35, b4_42, b4_67, b4_69]) none (P - (p + 1)) (Nat.le_refl _)
  have hsh := zfst_shift (g := ygp K P s p) (p + 1) (P - (p + 1)) (fun q hq => by
    unfold ygp
    have : ¬ p < q := by omega
    simp [this])
  rw [show p + 1 + (P - (p + 1)) = P by omega] at hsh
  rw [hsh]
  cases hf : zfst (fun i => ygp K P s p (p + 1 + i)) (P - (p + 1)) with
  | some i =>
    rw [hf] at k
    exact (show _ = _ from by simp (disch := first | omega | simp (disch := omega) only [nI_add, pk_mul, pk_sub, pk_div, znmod, nI_clamp, nIleT, nIleF, nIltT, nIltF, nIeqT, nIeqF, nIm1, nIm1q, zupE, zupN, vpT, nI_01, nI_11, ↓reduceIte, Option.bind_some, Option.toList_some, Option.toList_none, List.cons_append, List.nil_append, Nat.reduceAdd, Nat.reduceMul, Nat.reduceSub, Nat.reduceDiv, Nat.reduceMod, and_true, true_and, and_false, false_and, not_true_eq_false, not_false_eq_true, or_true, true_or, or_false, false_or, Int32.lt_irrefl, Int32.le_refl]) only [nI_add, pk_mul, pk_sub, pk_div, znmod, nI_clamp, nIleT, nIleF, nIltT, nIltF, nIeqT, nIeqF, nIm1, nIm1q, zupE, zupN, vpT, nI_01, nI_11, ↓reduceIte, Option.bind_some, Option.toList_some, Option.toList_none, List.cons_append, List.nil_append, Nat.reduceAdd, Nat.reduceMul, Nat.reduceSub, Nat.reduceDiv, Nat.reduceMod, and_true, true_and, and_false, false_and, not_true_eq_false, not_false_eq_true, or_true, true_or, or_false, false_or, Int32.lt_irrefl, Int32.le_refl, b4_0]; exact k)
  | none =>
    rw [hf] at k
    obtain ⟨t, k⟩ := k
    have k2 := k.trans b4_4
    rw [show p + 1 + (P - (p + 1)) = P by omega] at k2
    simp (disch := first | omega | simp (disch := omega) only [nI_add, pk_mul, pk_sub, pk_div, znmod, nI_clamp, nIleT, nIleF, nIltT, nIltF, nIeqT, nIeqF, nIm1, nIm1q, zupE, zupN, vpT, nI_01, nI_11, ↓reduceIte, Option.bind_some, Option.toList_some, Option.toList_none, List.cons_append, List.nil_append, Nat.reduceAdd, Nat.reduceMul, Nat.reduceSub, Nat.reduceDiv, Nat.reduceMod, and_true, true_and, and_false, false_and, not_true_eq_false, not_false_eq_true, or_true, true_or, or_false, false_or, Int32.lt_irrefl, Int32.le_refl, r1, Nat.add_zero]) only [nI_add, pk_mul, pk_sub, pk_div, znmod, nI_clamp, nIleT, nIleF, nIltT, nIltF, nIeqT, nIeqF, nIm1, nIm1q, zupE, zupN, vpT, nI_01, nI_11, ↓reduceIte, Option.bind_some, Option.toList_some, Option.toList_none, List.cons_append, List.nil_append, Nat.reduceAdd, Nat.reduceMul, Nat.reduceSub, Nat.reduceDiv, Nat.reduceMod, and_true, true_and, and_false, false_and, not_true_eq_false, not_false_eq_true, or_true, true_or, or_false, false_or, Int32.lt_irrefl, Int32.le_refl, r1, Nat.add_zero, b4_75] at k2
    exact (show _ = _ from by simp (disch := first | omega | simp (disch := omega) only [nI_add, pk_mul, pk_sub, pk_div, znmod, nI_clamp, nIleT, nIleF, nIltT, nIltF, nIeqT, nIeqF, nIm1, nIm1q, zupE, zupN, vpT, nI_01, nI_11, ↓reduceIte, Option.bind_some, Option.toList_some, Option.toList_none, List.cons_append, List.nil_append, Nat.reduceAdd, Nat.reduceMul, Nat.reduceSub, Nat.reduceDiv, Nat.reduceMod, and_true, true_and, and_false, false_and, not_true_eq_false, not_false_eq_true, or_true, true_or, or_false, false_or, Int32.lt_irrefl, Int32.le_refl]) only [nI_add, pk_mul, pk_sub, pk_div, znmod, nI_clamp, nIleT, nIleF, nIltT, nIltF, nIeqT, nIeqF, nIm1, nIm1q, zupE, zupN, vpT, nI_01, nI_11, ↓reduceIte, Option.bind_some, Option.toList_some, Option.toList_none, List.cons_append, List.nil_append, Nat.reduceAdd, Nat.reduceMul, Nat.reduceSub, Nat.reduceDiv, Nat.reduceMod, and_true, true_and, and_false, false_and, not_true_eq_false, not_false_eq_true, or_true, true_or, or_false, false_or, Int32.lt_irrefl, Int32.le_refl, b4_0]; exact k2)
theorem mPin {g : zH} {w : Int32} (hP : P ≤ 12) (hK : ∀ p, p < 12 → K p < 2 ^ 12) (r1 : g 12 0 0 6 = nI P) (r2 : ∀ p, p < 12 → g 12 0 40 p = nI (K p)) (r3 : ∀ s, s < 2 ^ P → g 12 0 56 s = nI (ymp K P s)) (hs : s < 2 ^ P) (hp : p < P) :
    zev L (d + 1) 259 51 [some (.inr (.inl (12, 0, 0))), some (.inl w), some (.inl (nI s)), some (.inl (nI p)), some (.inl (nI (s &&& ymk p))), some (.inl (-1)), some (.inl (nI (P-1)))] [] g = zev L (d + 1) 259 118 [some (.inr (.inl (12, 0, 0))), some (.inl w), some (.inl (nI s)), some (.inl (nI p)), some (.inl (nI (s &&& ymk p))), some (.inl (yoI (zfst (ygp K P s p) P))), some (.inl (nI p))] [] g := by
  have h2p := y2P12 hP
  have hs4 : s < 4096 := by omega
  have hKp : K p < 4096 := hK p (by omega)
  have lr : s &&& ymk p < 4096 := yand_lt hs4
  have u1 := r2 p (by omega)
  have u2 := r3 s hs
  have l1 := ymp_le (K := K) hP s hs4
  have o1 := yones_12 s
  obtain ⟨_, k1, _⟩ := zinv (P := fun i (_ : Unit) => zev L (d + 1) 259 51 [some (.inr (.inl (12, 0, 0))), some (.inl w), some (.inl (nI s)), some (.inl (nI p)), some (.inl (nI (s &&& ymk p))), some (.inl (ywd (ygp K P s p) P i)), some (.inl (nI (P-1-i)))] [] g) (R := fun _ _ => True) (N := P - (p + 1)) (fun i _ hi _ => by
    refine ⟨(), b259_51.trans ?_, trivial⟩
    have em : nI (P - 1 - i) + (-1) = nI (P - 1 - (i + 1)) := by rw [sb_m1 (by omega)]; congr 1
    have hlt : p < P - 1 - i := by omega
    have hd : decide (p < P - 1 - i) = true := decide_eq_true hlt
    cases c1 : (s &&& ymk p).testBit (P - 1 - i)
    · have hg : ygp K P s p (P - 1 - i) = false := by unfold ygp; rw [c1]; simp
      have ev : ywd (ygp K P s p) P (i + 1) = ywd (ygp K P s p) P i := by rw [ywd, hg, if_neg (by decide)]
      simp (disch := first | omega | simp (disch := omega) only [nI_add, pk_mul, pk_sub, pk_div, znmod, nI_clamp, nIleT, nIleF, nIltT, nIltF, nIeqT, nIeqF, nIm1, nIm1q, zupE, zupN, vpT, nI_01, nI_11, ↓reduceIte, Option.bind_some, Option.toList_some, Option.toList_none, List.cons_append, List.nil_append, Nat.reduceAdd, Nat.reduceMul, Nat.reduceSub, Nat.reduceDiv, Nat.reduceMod, and_true, true_and, and_false, false_and, not_true_eq_false, not_false_eq_true, or_true, true_or, or_false, false_or, Int32.lt_irrefl, Int32.le_refl, mHasB, c1, Bool.toNat_false, em, ev]) only [nI_add, pk_mul, pk_sub, pk_div, znmod, nI_clamp, nIleT, nIleF, nIltT, nIltF, nIeqT, nIeqF, nIm1, nIm1q, zupE, zupN, vpT, nI_01, nI_11, ↓reduceIte, Option.bind_some, Option.toList_some, Option.toList_none, List.cons_append, List.nil_append, Nat.reduceAdd, Nat.reduceMul, Nat.reduceSub, Nat.reduceDiv, Nat.reduceMod, and_true, true_and, and_false, false_and, not_true_eq_false, not_false_eq_true, or_true, true_or, or_false, false_or, Int32.lt_irrefl, Int32.le_refl, mHasB, c1, Bool.toNat_false, em, ev, b259_57, b259_65, b259_68, b259_80, b259_83, b259_108, b259_112]
    · cases c2 : (K p).testBit (P - 1 - i)
      · have lz : s &&& ymk p &&& ymk (P - 1 - i) ≤ s &&& ymk p := Nat.and_le_left
        have lz2 : s &&& ymk p ≤ s := Nat.and_le_left
        have u3 := r3 (s &&& ymk p &&& ymk (P - 1 - i)) (by omega)
        have l3 := ymp_le (K := K) hP (s &&& ymk p &&& ymk (P - 1 - i)) (by omega)
        have o3 := yones_12 (s &&& ymk p &&& ymk (P - 1 - i))
        have esk := ySk (s := s &&& ymk p) (q := P - 1 - i) lr (by omega)
        by_cases c3 : 1 + ymp K P (s &&& ymk p &&& ymk (P - 1 - i)) = ymp K P s
        · have hg : ygp K P s p (P - 1 - i) = true := by unfold ygp; rw [c1, c2, c3, hd]; simp
          have ev : ywd (ygp K P s p) P (i + 1) = nI (P - 1 - i) := by rw [ywd, hg, if_pos rfl]
          simp (disch := first | omega | simp (disch := omega) only [nI_add, pk_mul, pk_sub, pk_div, znmod, nI_clamp, nIleT, nIleF, nIltT, nIltF, nIeqT, nIeqF, nIm1, nIm1q, zupE, zupN, vpT, nI_01, nI_11, ↓reduceIte, Option.bind_some, Option.toList_some, Option.toList_none, List.cons_append, List.nil_append, Nat.reduceAdd, Nat.reduceMul, Nat.reduceSub, Nat.reduceDiv, Nat.reduceMod, and_true, true_and, and_false, false_and, not_true_eq_false, not_false_eq_true, or_true, true_or, or_false, false_or, Int32.lt_irrefl, Int32.le_refl, mHasB, u1, u2, c1, c2, Bool.toNat_false, Bool.toNat_true, zShl, esk, u3, c3, em, ev]) only [nI_add, pk_mul, pk_sub, pk_div, znmod, nI_clamp, nIleT, nIleF, nIltT, nIltF, nIeqT, nIeqF, nIm1, nIm1q, zupE, zupN, vpT, nI_01, nI_11, ↓reduceIte, Option.bind_some, Option.toList_some, Option.toList_none, List.cons_append, List.nil_append, Nat.reduceAdd, Nat.reduceMul, Nat.reduceSub, Nat.reduceDiv, Nat.reduceMod, and_true, true_and, and_false, false_and, not_true_eq_false, not_false_eq_true, or_true, true_or, or_false, false_or, Int32.lt_irrefl, Int32.le_refl, mHasB, u1, u2, c1, c2, Bool.toNat_false, Bool.toNat_true, zShl, esk, u3, c3, em, ev, b259_57, b259_65, b259_68, b259_80, b259_83, b259_108, b259_112]
        · have hg : ygp K P s p (P - 1 - i) = false := by unfold ygp; simp [c3]
          have ev : ywd (ygp K P s p) P (i + 1) = ywd (ygp K P s p) P i := by rw [ywd, hg, if_neg (by decide)]
          simp (disch := first | omega | simp (disch := omega) only [nI_add, pk_mul, pk_sub, pk_div, znmod, nI_clamp, nIleT, nIleF, nIltT, nIltF, nIeqT, nIeqF, nIm1, nIm1q, zupE, zupN, vpT, nI_01, nI_11, ↓reduceIte, Option.bind_some, Option.toList_some, Option.toList_none, List.cons_append, List.nil_append, Nat.reduceAdd, Nat.reduceMul, Nat.reduceSub, Nat.reduceDiv, Nat.reduceMod, and_true, true_and, and_false, false_and, not_true_eq_false, not_false_eq_true, or_true, true_or, or_false, false_or, Int32.lt_irrefl, Int32.le_refl, mHasB, u1, u2, c1, c2, Bool.toNat_false, Bool.toNat_true, zShl, esk, u3, em, ev]) only [nI_add, pk_mul, pk_sub, pk_div, znmod, nI_clamp, nIleT, nIleF, nIltT, nIltF, nIeqT, nIeqF, nIm1, nIm1q, zupE, zupN, vpT, nI_01, nI_11, ↓reduceIte, Option.bind_some, Option.toList_some, Option.toList_none, List.cons_append, List.nil_append, Nat.reduceAdd, Nat.reduceMul, Nat.reduceSub, Nat.reduceDiv, Nat.reduceMod, and_true, true_and, and_false, false_and, not_true_eq_false, not_false_eq_true, or_true, true_or, or_false, false_or, Int32.lt_irrefl, Int32.le_refl, mHasB, u1, u2, c1, c2, Bool.toNat_false, Bool.toNat_true, zShl, esk, u3, em, ev, b259_57, b259_65, b259_68, b259_80, b259_83, b259_108, b259_112]
      · have hg : ygp K P s p (P - 1 - i) = false := by unfold ygp; rw [c2]; simp
        have ev : ywd (ygp K P s p) P (i + 1) = ywd (ygp K P s p) P i := by rw [ywd, hg, if_neg (by decide)]
        simp (disch := first | omega | simp (disch := omega) only [nI_add, pk_mul, pk_sub, pk_div, znmod, nI_clamp, nIleT, nIleF, nIltT, nIltF, nIeqT, nIeqF, nIm1, nIm1q, zupE, zupN, vpT, nI_01, nI_11, ↓reduceIte, Option.bind_some, Option.toList_some, Option.toList_none, List.cons_append, List.nil_append, Nat.reduceAdd, Nat.reduceMul, Nat.reduceSub, Nat.reduceDiv, Nat.reduceMod, and_true, true_and, and_false, false_and, not_true_eq_false, not_false_eq_true, or_true, true_or, or_false, false_or, Int32.lt_irrefl, Int32.le_refl, mHasB, u1, c1, c2, Bool.toNat_false, Bool.toNat_true, em, ev]) only [nI_add, pk_mul, pk_sub, pk_div, znmod, nI_clamp, nIleT, nIleF, nIltT, nIltF, nIeqT, nIeqF, nIm1, nIm1q, zupE, zupN, vpT, nI_01, nI_11, ↓reduceIte, Option.bind_some, Option.toList_some, Option.toList_none, List.cons_append, List.nil_append, Nat.reduceAdd, Nat.reduceMul, Nat.reduceSub, Nat.reduceDiv, Nat.reduceMod, and_true, true_and, and_false, false_and, not_true_eq_false, not_false_eq_true, or_true, true_or, or_false, false_or, Int32.lt_irrefl, Int32.le_refl, mHasB, u1, c1, c2, Bool.toNat_false, Bool.toNat_true, em, ev, b259_57, b259_65, b259_68, b259_80, b259_83, b259_108, b259_112]) (P - (p + 1)) (Nat.le_refl _) () trivial
  have k2 := k1.trans b259_51
  rw [ywd_eq (P - (p + 1)) (by omega)] at k2
  have hsh := zfst_shift (g := ygp K P s p) (p + 1) (P - (p + 1)) (fun q hq => by
    unfold ygp
    have : ¬ p < q := by omega
    simp [this])
  rw [show p + 1 + (P - (p + 1)) = P by omega] at hsh
  rw [show P - (P - (p + 1)) = p + 1 by omega, ← hsh, show P - 1 - (P - (p + 1)) = p by omega] at k2
  have e0 : ywd (ygp K P s p) P 0 = (-1) := rfl
  simp (disch := first | omega | simp (disch := omega) only [nI_add, pk_mul, pk_sub, pk_div, znmod, nI_clamp, nIleT, nIleF, nIltT, nIltF, nIeqT, nIeqF, nIm1, nIm1q, zupE, zupN, vpT, nI_01, nI_11, ↓reduceIte, Option.bind_some, Option.toList_some, Option.toList_none, List.cons_append, List.nil_append, Nat.reduceAdd, Nat.reduceMul, Nat.reduceSub, Nat.reduceDiv, Nat.reduceMod, and_true, true_and, and_false, false_and, not_true_eq_false, not_false_eq_true, or_true, true_or, or_false, false_or, Int32.lt_irrefl, Int32.le_refl, e0, Nat.sub_zero]) only [nI_add, pk_mul, pk_sub, pk_div, znmod, nI_clamp, nIleT, nIleF, nIltT, nIltF, nIeqT, nIeqF, nIm1, nIm1q, zupE, zupN, vpT, nI_01, nI_11, ↓reduceIte, Option.bind_some, Option.toList_some, Option.toList_none, List.cons_append, List.nil_append, Nat.reduceAdd, Nat.reduceMul, Nat.reduceSub, Nat.reduceDiv, Nat.reduceMod, and_true, true_and, and_false, false_and, not_true_eq_false, not_false_eq_true, or_true, true_or, or_false, false_or, Int32.lt_irrefl, Int32.le_refl, e0, Nat.sub_zero] at k2
  exact k2
theorem yPart {gc gm : zH} {w dd : Nat} (hP : P ≤ 12) (hK : ∀ p, p < 12 → K p < 2 ^ 12) (hw : w < P) (c1 : gc 0 0 0 2 = nI P) (c2 : ∀ p, p < P → gc 0 0 1 p = nI (K p)) (c3 : ∀ s, s < 2 ^ P → gc 0 0 2 s = nI (ymp K P s))
    (m1 : gm 12 0 0 6 = nI P) (m2 : ∀ p, p < 12 → gm 12 0 40 p = nI (K p)) (m3 : ∀ s, s < 2 ^ P → gm 12 0 56 s = nI (ymp K P s)) :
    ∃ v, zev L (dd + 1) 3 16 [some (.inr (.inl (0, 0, 0))), some (.inl (nI w)), some (.inl (nI (2^P-1))), some (.inl (nI 0)), none] [] gc = some (some (.inl v), gc) ∧ zev L (d + 2) 259 11 [some (.inr (.inl (12, 0, 0))), some (.inl (nI w)), some (.inl (nI (2^P-1))), some (.inl (nI 0)), none, none, none] [] gm = some (some (.inl v), gm) := by
  have h2p := y2P12 hP
  have hpos := Nat.two_pow_pos P
  have key := zsimX (P := fun p (a : Nat × Option zV) => zev L (dd + 1) 3 16 [some (.inr (.inl (0, 0, 0))), some (.inl (nI w)), some (.inl (nI a.1)), some (.inl (nI p)), a.2] [] gc)
    (Q := fun p (a : Nat × Option zV × Option zV × Option zV) => zev L (d + 2) 259 11 [some (.inr (.inl (12, 0, 0))), some (.inl (nI w)), some (.inl (nI a.1)), some (.inl (nI p)), a.2.1, a.2.2.1, a.2.2.2] [] gm)
    (R := fun _ a b => a.1 = b.1 ∧ a.1 < 2 ^ P) (E := fun c m => ∃ v, c = some (some (.inl v), gc) ∧ m = some (some (.inl v), gm)) (N := P) (fun p a b hp hr => by
      obtain ⟨s, a4⟩ := a
      obtain ⟨s', b4, b5, b6⟩ := b
      obtain ⟨e, hs⟩ := hr
      simp only at e hs
      subst e
      have hs4 : s < 4096 := by omega
      cases hb : s.testBit p
      · refine Or.inr ⟨(s, a4), (s, b4, b5, b6), b3_16.trans ?_, b259_11.trans ?_, rfl, hs⟩
        · simp (disch := first | omega | simp (disch := omega) only [nI_add, pk_mul, pk_sub, pk_div, znmod, nI_clamp, nIleT, nIleF, nIltT, nIltF, nIeqT, nIeqF, nIm1, nIm1q, zupE, zupN, vpT, nI_01, nI_11, ↓reduceIte, Option.bind_some, Option.toList_some, Option.toList_none, List.cons_append, List.nil_append, Nat.reduceAdd, Nat.reduceMul, Nat.reduceSub, Nat.reduceDiv, Nat.reduceMod, and_true, true_and, and_false, false_and, not_true_eq_false, not_false_eq_true, or_true, true_or, or_false, false_or, Int32.lt_irrefl, Int32.le_refl, c1, zBit, hb, Bool.toNat_false]) only [nI_add, pk_mul, pk_sub, pk_div, znmod, nI_clamp, nIleT, nIleF, nIltT, nIltF, nIeqT, nIeqF, nIm1, nIm1q, zupE, zupN, vpT, nI_01, nI_11, ↓reduceIte, Option.bind_some, Option.toList_some, Option.toList_none, List.cons_append, List.nil_append, Nat.reduceAdd, Nat.reduceMul, Nat.reduceSub, Nat.reduceDiv, Nat.reduceMod, and_true, true_and, and_false, false_and, not_true_eq_false, not_false_eq_true, or_true, true_or, or_false, false_or, Int32.lt_irrefl, Int32.le_refl, c1, zBit, hb, Bool.toNat_false, b3_24, b3_87]
        · simp (disch := first | omega | simp (disch := omega) only [nI_add, pk_mul, pk_sub, pk_div, znmod, nI_clamp, nIleT, nIleF, nIltT, nIltF, nIeqT, nIeqF, nIm1, nIm1q, zupE, zupN, vpT, nI_01, nI_11, ↓reduceIte, Option.bind_some, Option.toList_some, Option.toList_none, List.cons_append, List.nil_append, Nat.reduceAdd, Nat.reduceMul, Nat.reduceSub, Nat.reduceDiv, Nat.reduceMod, and_true, true_and, and_false, false_and, not_true_eq_false, not_false_eq_true, or_true, true_or, or_false, false_or, Int32.lt_irrefl, Int32.le_refl, m1, mHasB, hb, Bool.toNat_false]) only [nI_add, pk_mul, pk_sub, pk_div, znmod, nI_clamp, nIleT, nIleF, nIltT, nIltF, nIeqT, nIeqF, nIm1, nIm1q, zupE, zupN, vpT, nI_01, nI_11, ↓reduceIte, Option.bind_some, Option.toList_some, Option.toList_none, List.cons_append, List.nil_append, Nat.reduceAdd, Nat.reduceMul, Nat.reduceSub, Nat.reduceDiv, Nat.reduceMod, and_true, true_and, and_false, false_and, not_true_eq_false, not_false_eq_true, or_true, true_or, or_false, false_or, Int32.lt_irrefl, Int32.le_refl, m1, mHasB, hb, Bool.toNat_false, b259_19, b259_25, b259_28, b259_168]
      · have kp := kPin (L := L) (d := dd) (K := K) hP hK c1 c2 c3 hs hp hb
        have mp := mPin (L := L) (d := d + 1) (K := K) (w := nI w) hP hK m1 m2 m3 hs hp
        have esk := ySk (s := s) (q := p) hs4 (by omega)
        have ex1 := yxor_mk (r := s) (q := p) hs4 (by omega) hb
        have lr : s &&& ymk p ≤ s := Nat.and_le_left
        by_cases hpw : p = w
        · refine Or.inl ⟨yoI (zfst (ygp K P s p) P), b3_16.trans ?_, b259_11.trans ?_⟩
          · simp (disch := first | omega | simp (disch := omega) only [nI_add, pk_mul, pk_sub, pk_div, znmod, nI_clamp, nIleT, nIleF, nIltT, nIltF, nIeqT, nIeqF, nIm1, nIm1q, zupE, zupN, vpT, nI_01, nI_11, ↓reduceIte, Option.bind_some, Option.toList_some, Option.toList_none, List.cons_append, List.nil_append, Nat.reduceAdd, Nat.reduceMul, Nat.reduceSub, Nat.reduceDiv, Nat.reduceMod, and_true, true_and, and_false, false_and, not_true_eq_false, not_false_eq_true, or_true, true_or, or_false, false_or, Int32.lt_irrefl, Int32.le_refl, c1, zBit, hb, Bool.toNat_true, kp]) only [nI_add, pk_mul, pk_sub, pk_div, znmod, nI_clamp, nIleT, nIleF, nIltT, nIltF, nIeqT, nIeqF, nIm1, nIm1q, zupE, zupN, vpT, nI_01, nI_11, ↓reduceIte, Option.bind_some, Option.toList_some, Option.toList_none, List.cons_append, List.nil_append, Nat.reduceAdd, Nat.reduceMul, Nat.reduceSub, Nat.reduceDiv, Nat.reduceMod, and_true, true_and, and_false, false_and, not_true_eq_false, not_false_eq_true, or_true, true_or, or_false, false_or, Int32.lt_irrefl, Int32.le_refl, c1, zBit, hb, Bool.toNat_true, kp, b3_24, b3_33, b3_39, b3_52, b3_57, b3_63]
          · simp (disch := first | omega | simp (disch := omega) only [nI_add, pk_mul, pk_sub, pk_div, znmod, nI_clamp, nIleT, nIleF, nIltT, nIltF, nIeqT, nIeqF, nIm1, nIm1q, zupE, zupN, vpT, nI_01, nI_11, ↓reduceIte, Option.bind_some, Option.toList_some, Option.toList_none, List.cons_append, List.nil_append, Nat.reduceAdd, Nat.reduceMul, Nat.reduceSub, Nat.reduceDiv, Nat.reduceMod, and_true, true_and, and_false, false_and, not_true_eq_false, not_false_eq_true, or_true, true_or, or_false, false_or, Int32.lt_irrefl, Int32.le_refl, m1, mHasB, hb, Bool.toNat_true, zShl, esk, mp]) only [nI_add, pk_mul, pk_sub, pk_div, znmod, nI_clamp, nIleT, nIleF, nIltT, nIltF, nIeqT, nIeqF, nIm1, nIm1q, zupE, zupN, vpT, nI_01, nI_11, ↓reduceIte, Option.bind_some, Option.toList_some, Option.toList_none, List.cons_append, List.nil_append, Nat.reduceAdd, Nat.reduceMul, Nat.reduceSub, Nat.reduceDiv, Nat.reduceMod, and_true, true_and, and_false, false_and, not_true_eq_false, not_false_eq_true, or_true, true_or, or_false, false_or, Int32.lt_irrefl, Int32.le_refl, m1, mHasB, hb, Bool.toNat_true, zShl, esk, mp, b259_19, b259_25, b259_31, b259_118, b259_135, b259_140, b259_146]
        · cases hz : zfst (ygp K P s p) P with
          | none =>
            rw [hz] at kp mp
            have eI : yoI none = (-1) := rfl
            rw [eI] at kp mp
            refine Or.inr ⟨(s &&& ymk p, some (.inl (-1))), (s &&& ymk p, some (.inl (nI (s &&& ymk p))), some (.inl (-1)), some (.inl (nI p))), b3_16.trans ?_, b259_11.trans ?_, rfl, Nat.lt_of_le_of_lt lr hs⟩
            · simp (disch := first | omega | simp (disch := omega) only [nI_add, pk_mul, pk_sub, pk_div, znmod, nI_clamp, nIleT, nIleF, nIltT, nIltF, nIeqT, nIeqF, nIm1, nIm1q, zupE, zupN, vpT, nI_01, nI_11, ↓reduceIte, Option.bind_some, Option.toList_some, Option.toList_none, List.cons_append, List.nil_append, Nat.reduceAdd, Nat.reduceMul, Nat.reduceSub, Nat.reduceDiv, Nat.reduceMod, and_true, true_and, and_false, false_and, not_true_eq_false, not_false_eq_true, or_true, true_or, or_false, false_or, Int32.lt_irrefl, Int32.le_refl, c1, zBit, hb, Bool.toNat_true, kp, zShl, zXor, ex1, Nat.xor_zero]) only [nI_add, pk_mul, pk_sub, pk_div, znmod, nI_clamp, nIleT, nIleF, nIltT, nIltF, nIeqT, nIeqF, nIm1, nIm1q, zupE, zupN, vpT, nI_01, nI_11, ↓reduceIte, Option.bind_some, Option.toList_some, Option.toList_none, List.cons_append, List.nil_append, Nat.reduceAdd, Nat.reduceMul, Nat.reduceSub, Nat.reduceDiv, Nat.reduceMod, and_true, true_and, and_false, false_and, not_true_eq_false, not_false_eq_true, or_true, true_or, or_false, false_or, Int32.lt_irrefl, Int32.le_refl, c1, zBit, hb, Bool.toNat_true, kp, zShl, zXor, ex1, Nat.xor_zero, b3_24, b3_33, b3_39, b3_46, b3_64, b3_77, b3_85, b3_87]
            · simp (disch := first | omega | simp (disch := omega) only [nI_add, pk_mul, pk_sub, pk_div, znmod, nI_clamp, nIleT, nIleF, nIltT, nIltF, nIeqT, nIeqF, nIm1, nIm1q, zupE, zupN, vpT, nI_01, nI_11, ↓reduceIte, Option.bind_some, Option.toList_some, Option.toList_none, List.cons_append, List.nil_append, Nat.reduceAdd, Nat.reduceMul, Nat.reduceSub, Nat.reduceDiv, Nat.reduceMod, and_true, true_and, and_false, false_and, not_true_eq_false, not_false_eq_true, or_true, true_or, or_false, false_or, Int32.lt_irrefl, Int32.le_refl, m1, mHasB, hb, Bool.toNat_true, zShl, esk, mp]) only [nI_add, pk_mul, pk_sub, pk_div, znmod, nI_clamp, nIleT, nIleF, nIltT, nIltF, nIeqT, nIeqF, nIm1, nIm1q, zupE, zupN, vpT, nI_01, nI_11, ↓reduceIte, Option.bind_some, Option.toList_some, Option.toList_none, List.cons_append, List.nil_append, Nat.reduceAdd, Nat.reduceMul, Nat.reduceSub, Nat.reduceDiv, Nat.reduceMod, and_true, true_and, and_false, false_and, not_true_eq_false, not_false_eq_true, or_true, true_or, or_false, false_or, Int32.lt_irrefl, Int32.le_refl, m1, mHasB, hb, Bool.toNat_true, zShl, esk, mp, b259_19, b259_25, b259_31, b259_118, b259_123, b259_147, b259_153, b259_167, b259_168]
          | some q =>
            rw [hz] at kp mp
            have eI : yoI (some q) = nI q := rfl
            rw [eI] at kp mp
            obtain ⟨q1, q2⟩ := zfst_lt hz
            by_cases hqw : q = w
            · refine Or.inl ⟨nI p, b3_16.trans ?_, b259_11.trans ?_⟩
              · simp (disch := first | omega | simp (disch := omega) only [nI_add, pk_mul, pk_sub, pk_div, znmod, nI_clamp, nIleT, nIleF, nIltT, nIltF, nIeqT, nIeqF, nIm1, nIm1q, zupE, zupN, vpT, nI_01, nI_11, ↓reduceIte, Option.bind_some, Option.toList_some, Option.toList_none, List.cons_append, List.nil_append, Nat.reduceAdd, Nat.reduceMul, Nat.reduceSub, Nat.reduceDiv, Nat.reduceMod, and_true, true_and, and_false, false_and, not_true_eq_false, not_false_eq_true, or_true, true_or, or_false, false_or, Int32.lt_irrefl, Int32.le_refl, c1, zBit, hb, Bool.toNat_true, kp]) only [nI_add, pk_mul, pk_sub, pk_div, znmod, nI_clamp, nIleT, nIleF, nIltT, nIltF, nIeqT, nIeqF, nIm1, nIm1q, zupE, zupN, vpT, nI_01, nI_11, ↓reduceIte, Option.bind_some, Option.toList_some, Option.toList_none, List.cons_append, List.nil_append, Nat.reduceAdd, Nat.reduceMul, Nat.reduceSub, Nat.reduceDiv, Nat.reduceMod, and_true, true_and, and_false, false_and, not_true_eq_false, not_false_eq_true, or_true, true_or, or_false, false_or, Int32.lt_irrefl, Int32.le_refl, c1, zBit, hb, Bool.toNat_true, kp, b3_24, b3_33, b3_39, b3_46, b3_52, b3_62, b3_63]
              · simp (disch := first | omega | simp (disch := omega) only [nI_add, pk_mul, pk_sub, pk_div, znmod, nI_clamp, nIleT, nIleF, nIltT, nIltF, nIeqT, nIeqF, nIm1, nIm1q, zupE, zupN, vpT, nI_01, nI_11, ↓reduceIte, Option.bind_some, Option.toList_some, Option.toList_none, List.cons_append, List.nil_append, Nat.reduceAdd, Nat.reduceMul, Nat.reduceSub, Nat.reduceDiv, Nat.reduceMod, and_true, true_and, and_false, false_and, not_true_eq_false, not_false_eq_true, or_true, true_or, or_false, false_or, Int32.lt_irrefl, Int32.le_refl, m1, mHasB, hb, Bool.toNat_true, zShl, esk, mp]) only [nI_add, pk_mul, pk_sub, pk_div, znmod, nI_clamp, nIleT, nIleF, nIltT, nIltF, nIeqT, nIeqF, nIm1, nIm1q, zupE, zupN, vpT, nI_01, nI_11, ↓reduceIte, Option.bind_some, Option.toList_some, Option.toList_none, List.cons_append, List.nil_append, Nat.reduceAdd, Nat.reduceMul, Nat.reduceSub, Nat.reduceDiv, Nat.reduceMod, and_true, true_and, and_false, false_and, not_true_eq_false, not_false_eq_true, or_true, true_or, or_false, false_or, Int32.lt_irrefl, Int32.le_refl, m1, mHasB, hb, Bool.toNat_true, zShl, esk, mp, b259_19, b259_25, b259_31, b259_118, b259_123, b259_129, b259_135, b259_145, b259_146]
            · unfold ygp at q2
              rw [Bool.and_eq_true, Bool.and_eq_true] at q2
              have esk2 := ySk (s := s &&& ymk p) (q := q) (by omega) (by omega)
              have ex2 := yxor_mk (r := s &&& ymk p) (q := q) (by omega) (by omega) q2.2.1
              have lr2 : s &&& ymk p &&& ymk q ≤ s &&& ymk p := Nat.and_le_left
              refine Or.inr ⟨(s &&& ymk p &&& ymk q, some (.inl (nI q))), (s &&& ymk p &&& ymk q, some (.inl (nI (s &&& ymk p))), some (.inl (nI q)), some (.inl (nI p))), b3_16.trans ?_, b259_11.trans ?_, rfl, by show s &&& ymk p &&& ymk q < _; omega⟩
              · simp (disch := first | omega | simp (disch := omega) only [nI_add, pk_mul, pk_sub, pk_div, znmod, nI_clamp, nIleT, nIleF, nIltT, nIltF, nIeqT, nIeqF, nIm1, nIm1q, zupE, zupN, vpT, nI_01, nI_11, ↓reduceIte, Option.bind_some, Option.toList_some, Option.toList_none, List.cons_append, List.nil_append, Nat.reduceAdd, Nat.reduceMul, Nat.reduceSub, Nat.reduceDiv, Nat.reduceMod, and_true, true_and, and_false, false_and, not_true_eq_false, not_false_eq_true, or_true, true_or, or_false, false_or, Int32.lt_irrefl, Int32.le_refl, c1, zBit, hb, Bool.toNat_true, kp, zShl, zXor, ex1, ex2]) only [nI_add, pk_mul, pk_sub, pk_div, znmod, nI_clamp, nIleT, nIleF, nIltT, nIltF, nIeqT, nIeqF, nIm1, nIm1q, zupE, zupN, vpT, nI_01, nI_11, ↓reduceIte, Option.bind_some, Option.toList_some, Option.toList_none, List.cons_append, List.nil_append, Nat.reduceAdd, Nat.reduceMul, Nat.reduceSub, Nat.reduceDiv, Nat.reduceMod, and_true, true_and, and_false, false_and, not_true_eq_false, not_false_eq_true, or_true, true_or, or_false, false_or, Int32.lt_irrefl, Int32.le_refl, c1, zBit, hb, Bool.toNat_true, kp, zShl, zXor, ex1, ex2, b3_24, b3_33, b3_39, b3_46, b3_64, b3_81, b3_85, b3_87]
              · simp (disch := first | omega | simp (disch := omega) only [nI_add, pk_mul, pk_sub, pk_div, znmod, nI_clamp, nIleT, nIleF, nIltT, nIltF, nIeqT, nIeqF, nIm1, nIm1q, zupE, zupN, vpT, nI_01, nI_11, ↓reduceIte, Option.bind_some, Option.toList_some, Option.toList_none, List.cons_append, List.nil_append, Nat.reduceAdd, Nat.reduceMul, Nat.reduceSub, Nat.reduceDiv, Nat.reduceMod, and_true, true_and, and_false, false_and, not_true_eq_false, not_false_eq_true, or_true, true_or, or_false, false_or, Int32.lt_irrefl, Int32.le_refl, m1, mHasB, hb, Bool.toNat_true, zShl, esk, mp, esk2]) only [nI_add, pk_mul, pk_sub, pk_div, znmod, nI_clamp, nIleT, nIleF, nIltT, nIltF, nIeqT, nIeqF, nIm1, nIm1q, zupE, zupN, vpT, nI_01, nI_11, ↓reduceIte, Option.bind_some, Option.toList_some, Option.toList_none, List.cons_append, List.nil_append, Nat.reduceAdd, Nat.reduceMul, Nat.reduceSub, Nat.reduceDiv, Nat.reduceMod, and_true, true_and, and_false, false_and, not_true_eq_false, not_false_eq_true, or_true, true_or, or_false, false_or, Int32.lt_irrefl, Int32.le_refl, m1, mHasB, hb, Bool.toNat_true, zShl, esk, mp, esk2, b259_19, b259_25, b259_31, b259_118, b259_123, b259_147, b259_158, b259_167, b259_168]) P (Nat.le_refl _) (2 ^ P - 1, none) (2 ^ P - 1, none, none, none) ⟨rfl, by show 2 ^ P - 1 < _; omega⟩
  rcases key with ⟨v, q1, q2⟩ | ⟨a, b, q1, q2, _⟩
  · exact ⟨v, q1, q2⟩
  · refine ⟨(-1), q1.trans (b3_16.trans ?_), q2.trans (b259_11.trans ?_)⟩
    · simp (disch := first | omega | simp (disch := omega) only [nI_add, pk_mul, pk_sub, pk_div, znmod, nI_clamp, nIleT, nIleF, nIltT, nIltF, nIeqT, nIeqF, nIm1, nIm1q, zupE, zupN, vpT, nI_01, nI_11, ↓reduceIte, Option.bind_some, Option.toList_some, Option.toList_none, List.cons_append, List.nil_append, Nat.reduceAdd, Nat.reduceMul, Nat.reduceSub, Nat.reduceDiv, Nat.reduceMod, and_true, true_and, and_false, false_and, not_true_eq_false, not_false_eq_true, or_true, true_or, or_false, false_or, Int32.lt_irrefl, Int32.le_refl, c1]) only [nI_add, pk_mul, pk_sub, pk_div, znmod, nI_clamp, nIleT, nIleF, nIltT, nIltF, nIeqT, nIeqF, nIm1, nIm1q, zupE, zupN, vpT, nI_01, nI_11, ↓reduceIte, Option.bind_some, Option.toList_some, Option.toList_none, List.cons_append, List.nil_append, Nat.reduceAdd, Nat.reduceMul, Nat.reduceSub, Nat.reduceDiv, Nat.reduceMod, and_true, true_and, and_false, false_and, not_true_eq_false, not_false_eq_true, or_true, true_or, or_false, false_or, Int32.lt_irrefl, Int32.le_refl, c1, b3_93]
    · simp (disch := first | omega | simp (disch := omega) only [nI_add, pk_mul, pk_sub, pk_div, znmod, nI_clamp, nIleT, nIleF, nIltT, nIltF, nIeqT, nIeqF, nIm1, nIm1q, zupE, zupN, vpT, nI_01, nI_11, ↓reduceIte, Option.bind_some, Option.toList_some, Option.toList_none, List.cons_append, List.nil_append, Nat.reduceAdd, Nat.reduceMul, Nat.reduceSub, Nat.reduceDiv, Nat.reduceMod, and_true, true_and, and_false, false_and, not_true_eq_false, not_false_eq_true, or_true, true_or, or_false, false_or, Int32.lt_irrefl, Int32.le_refl, m1]) only [nI_add, pk_mul, pk_sub, pk_div, znmod, nI_clamp, nIleT, nIleF, nIltT, nIltF, nIeqT, nIeqF, nIm1, nIm1q, zupE, zupN, vpT, nI_01, nI_11, ↓reduceIte, Option.bind_some, Option.toList_some, Option.toList_none, List.cons_append, List.nil_append, Nat.reduceAdd, Nat.reduceMul, Nat.reduceSub, Nat.reduceDiv, Nat.reduceMod, and_true, true_and, and_false, false_and, not_true_eq_false, not_false_eq_true, or_true, true_or, or_false, false_or, Int32.lt_irrefl, Int32.le_refl, m1, b259_174]
theorem o_pairs (R : Rel hc hm) : zS2 (zev L (d + 20) 137 0 [some (.inr (.inl (11, 0, 0))), some (.inl x1), none] [] hc) (zev L (d + 20) 260 0 [some (.inr (.inl (12, 0, 0))), some (.inl x1)] [] hm) Rel := by
  have R' := R
  obtain ⟨P, H, ⟨rM, rp, rb, rl, rf, rh, rk, r0, r1, r2, r3, r4⟩, ra, rt, re, ri, rs⟩ := R
  have e8 : hc 3 0 0 8 = nI P := rM.1.1
  have hP : P ≤ 12 := rM.1.2.2.1
  have e6 : hm 12 0 0 6 = nI P := rp.1
  have h00 : hc 0 0 2 0 = nI 0 := rs.1.2.2.2
  obtain ⟨N, hN, k1, k2, k3, k4, k5⟩ := yKo_of rk hP
  have h2p := y2P12 hP
  have hpos := Nat.two_pow_pos P
  have e2 : nI 1 <<< (nI P &&& 31) = nI (2 ^ P) := zShl (by omega)
  obtain ⟨g, t1, t2, t3, t4⟩ := kTake (L := L) (d := d + 16) hP hN k1 k3
  generalize hKK : (fun p => ks (hc 2 3 1) p N) = K at k5
  have k4' : ∀ p, p < 12 → (zup hm 12 0 0 0 (nI 0)) 12 0 40 p = nI (K p) := fun p hp => by simp (disch := first | omega | simp (disch := omega) only [nI_add, pk_mul, pk_sub, pk_div, znmod, nI_clamp, nIleT, nIleF, nIltT, nIltF, nIeqT, nIeqF, nIm1, nIm1q, zupE, zupN, vpT, nI_01, nI_11, ↓reduceIte, Option.bind_some, Option.toList_some, Option.toList_none, List.cons_append, List.nil_append, Nat.reduceAdd, Nat.reduceMul, Nat.reduceSub, Nat.reduceDiv, Nat.reduceMod, and_true, true_and, and_false, false_and, not_true_eq_false, not_false_eq_true, or_true, true_or, or_false, false_or, Int32.lt_irrefl, Int32.le_refl]) only [nI_add, pk_mul, pk_sub, pk_div, znmod, nI_clamp, nIleT, nIleF, nIltT, nIltF, nIeqT, nIeqF, nIm1, nIm1q, zupE, zupN, vpT, nI_01, nI_11, ↓reduceIte, Option.bind_some, Option.toList_some, Option.toList_none, List.cons_append, List.nil_append, Nat.reduceAdd, Nat.reduceMul, Nat.reduceSub, Nat.reduceDiv, Nat.reduceMod, and_true, true_and, and_false, false_and, not_true_eq_false, not_false_eq_true, or_true, true_or, or_false, false_or, Int32.lt_irrefl, Int32.le_refl]; rw [← hKK]; exact k4 p hp
  have t3' : ∀ p, p < P → g 0 0 1 p = nI (K p) := fun p hp => by rw [← hKK]; exact t3 p hp
  have hK := k5.1
  have g6 : (zup hm 12 0 0 0 (nI 0)) 12 0 0 6 = nI P := by simp (disch := first | omega | simp (disch := omega) only [nI_add, pk_mul, pk_sub, pk_div, znmod, nI_clamp, nIleT, nIleF, nIltT, nIltF, nIeqT, nIeqF, nIm1, nIm1q, zupE, zupN, vpT, nI_01, nI_11, ↓reduceIte, Option.bind_some, Option.toList_some, Option.toList_none, List.cons_append, List.nil_append, Nat.reduceAdd, Nat.reduceMul, Nat.reduceSub, Nat.reduceDiv, Nat.reduceMod, and_true, true_and, and_false, false_and, not_true_eq_false, not_false_eq_true, or_true, true_or, or_false, false_or, Int32.lt_irrefl, Int32.le_refl]) only [nI_add, pk_mul, pk_sub, pk_div, znmod, nI_clamp, nIleT, nIleF, nIltT, nIltF, nIeqT, nIeqF, nIm1, nIm1q, zupE, zupN, vpT, nI_01, nI_11, ↓reduceIte, Option.bind_some, Option.toList_some, Option.toList_none, List.cons_append, List.nil_append, Nat.reduceAdd, Nat.reduceMul, Nat.reduceSub, Nat.reduceDiv, Nat.reduceMod, and_true, true_and, and_false, false_and, not_true_eq_false, not_false_eq_true, or_true, true_or, or_false, false_or, Int32.lt_irrefl, Int32.le_refl]; exact e6
  obtain ⟨gm, n1, n2, n3⟩ := mMost (L := L) (d := d + 18) hP hK g6 k4'
  have gm6 : gm 12 0 0 6 = nI P := (yM_f n3 6 (by decide)).trans g6
  have gm40 : ∀ p, p < 12 → gm 12 0 40 p = nI (K p) := fun p hp => by rw [yM_s n3 40 (by decide) (by decide)]; exact k4' p hp
  have nf := n2 (2 ^ P - 1) (by omega)
  have hy := yM_t (yM_u (hm := hm) (s := 0) (j := 0) (v := nI 0) yM_r rfl) n3
  by_cases hx : x1 = nI 0
  · subst hx
    obtain ⟨gc, q1, q2, q3, q4, q5⟩ := kMost (L := L) (d := d + 18) hP hK t2 t3' ((t4 0 0 2 0 rfl).trans h00)
    simp (disch := first | omega | simp (disch := omega) only [nI_add, pk_mul, pk_sub, pk_div, znmod, nI_clamp, nIleT, nIleF, nIltT, nIltF, nIeqT, nIeqF, nIm1, nIm1q, zupE, zupN, vpT, nI_01, nI_11, ↓reduceIte, Option.bind_some, Option.toList_some, Option.toList_none, List.cons_append, List.nil_append, Nat.reduceAdd, Nat.reduceMul, Nat.reduceSub, Nat.reduceDiv, Nat.reduceMod, and_true, true_and, and_false, false_and, not_true_eq_false, not_false_eq_true, or_true, true_or, or_false, false_or, Int32.lt_irrefl, Int32.le_refl, e8, e6, t1, q1, n1, gm6, e2, nf]) only [nI_add, pk_mul, pk_sub, pk_div, znmod, nI_clamp, nIleT, nIleF, nIltT, nIltF, nIeqT, nIeqF, nIm1, nIm1q, zupE, zupN, vpT, nI_01, nI_11, ↓reduceIte, Option.bind_some, Option.toList_some, Option.toList_none, List.cons_append, List.nil_append, Nat.reduceAdd, Nat.reduceMul, Nat.reduceSub, Nat.reduceDiv, Nat.reduceMod, and_true, true_and, and_false, false_and, not_true_eq_false, not_false_eq_true, or_true, true_or, or_false, false_or, Int32.lt_irrefl, Int32.le_refl, e8, e6, t1, q1, n1, gm6, e2, nf, b137_0, b137_15, b137_26, b137_29, b137_31, b137_43, b137_47, b137_54, b137_57, b137_68, b260_0, b260_5, b260_9, b260_23, b260_26, b260_28, b260_32, b260_36, b260_52, b260_60]
    exact ⟨_, _, _, rfl, rfl, Rel_y R' (yC_t t4 q5) hy⟩
  · by_cases hP0 : P = 0
    · subst hP0
      have z1 : ¬ (nI 0 ≤ x1 - nI 10 ∧ x1 - nI 10 ≤ nI 0 - nI 1) := by
        rw [show nI 0 - nI 1 = (-1) by decide]
        generalize x1 - nI 10 = y
        (simp (disch := omega) only [Int32.le_iff_toInt_le, Int32.lt_iff_toInt_lt, ← Int32.toInt_inj, nI_toInt, znm1]; omega)
      have z2 : ¬ (nI 10 ≤ x1 ∧ x1 ≤ nI 9) := by (simp (disch := omega) only [Int32.le_iff_toInt_le, Int32.lt_iff_toInt_lt, ← Int32.toInt_inj, nI_toInt, znm1]; omega)
      simp (disch := first | omega | simp (disch := omega) only [nI_add, pk_mul, pk_sub, pk_div, znmod, nI_clamp, nIleT, nIleF, nIltT, nIltF, nIeqT, nIeqF, nIm1, nIm1q, zupE, zupN, vpT, nI_01, nI_11, ↓reduceIte, Option.bind_some, Option.toList_some, Option.toList_none, List.cons_append, List.nil_append, Nat.reduceAdd, Nat.reduceMul, Nat.reduceSub, Nat.reduceDiv, Nat.reduceMod, and_true, true_and, and_false, false_and, not_true_eq_false, not_false_eq_true, or_true, true_or, or_false, false_or, Int32.lt_irrefl, Int32.le_refl, e8, e6, kw, mIn, hx, z1, z2]) only [nI_add, pk_mul, pk_sub, pk_div, znmod, nI_clamp, nIleT, nIleF, nIltT, nIltF, nIeqT, nIeqF, nIm1, nIm1q, zupE, zupN, vpT, nI_01, nI_11, ↓reduceIte, Option.bind_some, Option.toList_some, Option.toList_none, List.cons_append, List.nil_append, Nat.reduceAdd, Nat.reduceMul, Nat.reduceSub, Nat.reduceDiv, Nat.reduceMod, and_true, true_and, and_false, false_and, not_true_eq_false, not_false_eq_true, or_true, true_or, or_false, false_or, Int32.lt_irrefl, Int32.le_refl, e8, e6, kw, mIn, hx, z1, z2, b137_0, b137_15, b137_26, b137_29, b137_31, b137_43, b137_47, b137_54, b137_57, b137_68, b260_0, b260_5, b260_9, b260_23, b260_26, b260_28, b260_32, b260_36, b260_52, b260_60]
      exact zS2_no R'
    · rcases zarg (x1 - nI 10) (P - 1) (by omega) with ⟨a, ha, ea⟩ | q
      · have ex : x1 = nI (a + 10) := by rw [← nI_add, ← ea, Int32.sub_add_cancel]
        subst ex
        obtain ⟨gc, q1, q2, q3, q4, q5⟩ := kMost (L := L) (d := d + 17) hP hK t2 t3' ((t4 0 0 2 0 rfl).trans h00)
        obtain ⟨v, v1, v2⟩ := yPart (L := L) (d := d + 17) (dd := d + 18) (K := K) (gc := gc) (gm := gm) (w := a) hP hK (by omega) q2 q3 q4 gm6 gm40 n2
        have ea2 : a + 10 - 10 = a := by omega
        simp (disch := first | omega | simp (disch := omega) only [nI_add, pk_mul, pk_sub, pk_div, znmod, nI_clamp, nIleT, nIleF, nIltT, nIltF, nIeqT, nIeqF, nIm1, nIm1q, zupE, zupN, vpT, nI_01, nI_11, ↓reduceIte, Option.bind_some, Option.toList_some, Option.toList_none, List.cons_append, List.nil_append, Nat.reduceAdd, Nat.reduceMul, Nat.reduceSub, Nat.reduceDiv, Nat.reduceMod, and_true, true_and, and_false, false_and, not_true_eq_false, not_false_eq_true, or_true, true_or, or_false, false_or, Int32.lt_irrefl, Int32.le_refl, e8, e6, kw, mIn, t1, q1, q2, n1, gm6, e2, v1, v2, ea2]) only [nI_add, pk_mul, pk_sub, pk_div, znmod, nI_clamp, nIleT, nIleF, nIltT, nIltF, nIeqT, nIeqF, nIm1, nIm1q, zupE, zupN, vpT, nI_01, nI_11, ↓reduceIte, Option.bind_some, Option.toList_some, Option.toList_none, List.cons_append, List.nil_append, Nat.reduceAdd, Nat.reduceMul, Nat.reduceSub, Nat.reduceDiv, Nat.reduceMod, and_true, true_and, and_false, false_and, not_true_eq_false, not_false_eq_true, or_true, true_or, or_false, false_or, Int32.lt_irrefl, Int32.le_refl, e8, e6, kw, mIn, t1, q1, q2, n1, gm6, e2, v1, v2, ea2, b137_0, b137_15, b137_26, b137_29, b137_31, b137_43, b137_47, b137_54, b137_57, b137_68, b260_0, b260_5, b260_9, b260_23, b260_26, b260_28, b260_32, b260_36, b260_52, b260_60, b3_0, b3_4, b259_0]
        exact ⟨_, _, _, rfl, rfl, Rel_y R' (yC_t t4 q5) hy⟩
      · have z2 : ¬ (nI 10 ≤ x1 ∧ x1 ≤ nI (9 + P)) := fun z => by
          rcases zarg1 x1 10 (9 + P) (by omega) (by omega) with ⟨b, hb1, hb2, rfl⟩ | z'
          · rw [pk_sub hb1] at q
            exact q ⟨nI_le (by omega) (by omega), nI_le (by omega) (by omega)⟩
          · exact z' z
        simp (disch := first | omega | simp (disch := omega) only [nI_add, pk_mul, pk_sub, pk_div, znmod, nI_clamp, nIleT, nIleF, nIltT, nIltF, nIeqT, nIeqF, nIm1, nIm1q, zupE, zupN, vpT, nI_01, nI_11, ↓reduceIte, Option.bind_some, Option.toList_some, Option.toList_none, List.cons_append, List.nil_append, Nat.reduceAdd, Nat.reduceMul, Nat.reduceSub, Nat.reduceDiv, Nat.reduceMod, and_true, true_and, and_false, false_and, not_true_eq_false, not_false_eq_true, or_true, true_or, or_false, false_or, Int32.lt_irrefl, Int32.le_refl, e8, e6, kw, mIn, hx, q, z2]) only [nI_add, pk_mul, pk_sub, pk_div, znmod, nI_clamp, nIleT, nIleF, nIltT, nIltF, nIeqT, nIeqF, nIm1, nIm1q, zupE, zupN, vpT, nI_01, nI_11, ↓reduceIte, Option.bind_some, Option.toList_some, Option.toList_none, List.cons_append, List.nil_append, Nat.reduceAdd, Nat.reduceMul, Nat.reduceSub, Nat.reduceDiv, Nat.reduceMod, and_true, true_and, and_false, false_and, not_true_eq_false, not_false_eq_true, or_true, true_or, or_false, false_or, Int32.lt_irrefl, Int32.le_refl, e8, e6, kw, mIn, hx, q, z2, b137_0, b137_15, b137_26, b137_29, b137_31, b137_43, b137_47, b137_54, b137_57, b137_68, b260_0, b260_5, b260_9, b260_23, b260_26, b260_28, b260_32, b260_36, b260_52, b260_60]
        exact zS2_no R'
end PC
