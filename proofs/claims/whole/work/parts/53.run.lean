/-! a run of THE LAW's steps, side by side -/
section LR
variable {L dc dm : Nat} {fr to fr' to' : Nat}
theorem yS2_push {hc hm : zH} {ts : List Bool} {v : Int32} (h : yS2 (hc 1 0 3) (hm 12 0 42) ts) : yS2 ((zup hc 1 0 3 ts.length v) 1 0 3) ((zup hm 12 0 42 ts.length v) 12 0 42) (false :: ts) := by
  refine ⟨by rw [zupE (by omega), zupE (by omega)], fun q => (by cases q), yS2_u h (fun j hj => ?_)⟩
  rw [zupN (by omega), zupN (by omega)]
  exact ⟨rfl, rfl⟩
theorem yS2_set {hc hm : zH} {q : List Bool} {b : Bool} {v w : Int32} (h : yS2 (hc 1 0 3) (hm 12 0 42) q) (e : v = w) (hb : b = true → w = nI 0 ∨ w = nI 1) : yS2 ((zup hc 1 0 3 q.length v) 1 0 3) ((zup hm 12 0 42 q.length w) 12 0 42) (b :: q) := by
  refine ⟨by rw [zupE (by omega), zupE (by omega)]; exact e, fun z => by rw [zupE (by omega)]; exact hb z, yS2_u h (fun j hj => ?_)⟩
  rw [zupN (by omega), zupN (by omega)]
  exact ⟨rfl, rfl⟩
theorem yStep {hc hm : zH} {i i' i1 : Nat} {ts ts1 : List Bool} {a5 a6 : Option zV} (hs : sgR (hc 2 0 2 i) (hm 12 0 24) (hm 12 0 25) i' ts i1 ts1) (hi : i < to) (ht : to ≤ 400) (hi1 : i1 ≤ to') (ht' : to' ≤ 400) (hg : ∀ k, k < 11 → hc 1 0 2 k = hm 12 0 41 k) (h2 : yS2 (hc 1 0 3) (hm 12 0 42) ts) :
    ∃ hc' hm' b5 b6, zev L (dc + 1) 15 22 [some (.inr (.inl (1, 0, 0))), some (.inl (nI fr)), some (.inl (nI to)), some (.inl (nI ts.length)), some (.inl (nI to)), some (.inl (nI i)), a5, a6] [] hc = zev L (dc + 1) 15 22 [some (.inr (.inl (1, 0, 0))), some (.inl (nI fr)), some (.inl (nI to)), some (.inl (nI ts1.length)), some (.inl (nI to)), some (.inl (nI (i + 1))), b5, b6] [] hc' ∧
      zev L (dm + 1) 215 12 [some (.inr (.inl (12, 0, 0))), some (.inl (nI 0)), some (.inl (nI fr')), some (.inl (nI to')), some (.inl (nI (ts.length))), some (.inl (nI i'))] [] hm = zev L (dm + 1) 215 12 [some (.inr (.inl (12, 0, 0))), some (.inl (nI 0)), some (.inl (nI fr')), some (.inl (nI to')), some (.inl (nI (ts1.length))), some (.inl (nI i1))] [] hm' ∧ yS2 (hc' 1 0 3) (hm' 12 0 42) ts1 ∧ yF 1 0 3 hc hc' ∧ yF 12 0 42 hm hm' := by
  rcases hs with ⟨k, hk, e1, e2, e3, rfl, rfl, hl⟩ | ⟨n, hn, e1, e2, e3, rfl, rfl, hl⟩ | ⟨n, q, h0, hn, e1, e2, e3, e4, rfl, rfl, rfl, hl⟩ | ⟨k, q, hk, e1, e2, rfl, rfl, rfl, hl⟩ | ⟨k, q, hk, e1, e2, rfl, rfl, rfl, hl⟩ | ⟨q, e1, e2, rfl, rfl, rfl, hl⟩ | ⟨k, q, hk, e1, e2, rfl, rfl, rfl, hl⟩
  · refine ⟨_, _, _, _, cPushA hi ht hl hk e1, mPushA (by omega) ht' (by omega) hk e2 e3, ?_, yF_u yF_r, yF_u yF_r⟩
    rw [hg k hk]
    exact yS2_push h2
  · exact ⟨_, _, _, _, cPushN hi ht hl hn e1, mPushN (by omega) ht' (by omega) e2 e3, yS2_push h2, yF_u yF_r, yF_u yF_r⟩
  · obtain ⟨f1, _, f3⟩ := h2
    have hl' : q.length + 1 < 41 := hl
    have m1 := mPushN (L := L) (d := dm + 1) (h := hm) (fr := fr') (to := to') (m := q.length + 1) (i := i') (n := n) (by omega) ht' (by omega) e2 e3
    have g1 : (zup hm 12 0 42 (q.length + 1) (nI n)) 12 0 24 (i' + 1) = nI 5 := by rw [zupN (by omega)]; exact e4
    have g2 : (zup hm 12 0 42 (q.length + 1) (nI n)) 12 0 42 q.length = hm 12 0 42 q.length := zupN (by omega)
    have g3 : (zup hm 12 0 42 (q.length + 1) (nI n)) 12 0 42 (q.length + 1) = nI n := zupE (by omega)
    have m2 := mBin (L := L) (d := dm) (h := zup hm 12 0 42 (q.length + 1) (nI n)) (fr := fr') (to := to') (m := q.length) (i := i' + 1) (k := 5) (v := hm 12 0 42 q.length / nI n) (by omega) ht' (by omega) (by omega) (by omega) (by omega) g1 (fun d => by rw [g2, g3]; exact mJp h0 hn)
    refine ⟨_, _, _, _, cPart hi ht (by omega) h0 hn e1, m1.trans m2, ?_, yF_u yF_r, yF_u (yF_u yF_r)⟩
    refine ⟨?_, fun z => (by cases z), yS2_u f3 (fun j hj => ?_)⟩
    · rw [zupE (by omega), zupE (by omega), f1]
    · rw [zupN (by omega), zupN (by omega), zupN (by omega)]; exact ⟨rfl, rfl⟩
  · obtain ⟨f1, _, f2, _, f3⟩ := h2
    have hl' : q.length + 1 + 1 < 42 := hl
    have f1' : hc 1 0 3 (q.length + 1) = hm 12 0 42 (q.length + 1) := f1
    refine ⟨_, _, _, _, cBin (v := yJ (13 + k) (hm 12 0 42 q.length) (hm 12 0 42 (q.length + 1))) hi ht (by omega) (by omega) (by omega) (by omega) e1 (fun d => by rw [f1', f2]; exact kJ (by omega) (by omega) (by omega)), mBin (v := yK (2 + k) (hm 12 0 42 q.length) (hm 12 0 42 (q.length + 1))) (by omega) ht' (by omega) (by omega) (by omega) (by omega) e2 (fun d => mJ (by omega) (by omega) (by omega) (by omega)), yS2_set f3 ?_ (fun z => by cases z), yF_u yF_r, yF_u yF_r⟩
    have : k = 0 ∨ k = 1 ∨ k = 2 := by omega
    rcases this with rfl | rfl | rfl <;> rfl
  · obtain ⟨f1, _, f2, _, f3⟩ := h2
    have hl' : q.length + 1 + 1 < 42 := hl
    have f1' : hc 1 0 3 (q.length + 1) = hm 12 0 42 (q.length + 1) := f1
    refine ⟨_, _, _, _, cBin (v := yJ (16 + k) (hm 12 0 42 q.length) (hm 12 0 42 (q.length + 1))) hi ht (by omega) (by omega) (by omega) (by omega) e1 (fun d => by rw [f1', f2]; exact kJ (by omega) (by omega) (by omega)), mBin (v := yK (6 + k) (hm 12 0 42 q.length) (hm 12 0 42 (q.length + 1))) (by omega) ht' (by omega) (by omega) (by omega) (by omega) e2 (fun d => mJ (by omega) (by omega) (by omega) (by omega)), yS2_set f3 ?_ (fun z => ?_), yF_u yF_r, yF_u yF_r⟩
    · have : k = 0 ∨ k = 1 ∨ k = 2 := by omega
      rcases this with rfl | rfl | rfl <;> rfl
    · have : k = 0 ∨ k = 1 ∨ k = 2 := by omega
      rcases this with rfl | rfl | rfl
      · show (if _ then nI 0 else nI 1) = nI 0 ∨ (if _ then nI 0 else nI 1) = nI 1
        split
        · exact Or.inl rfl
        · exact Or.inr rfl
      · show (if _ then nI 1 else nI 0) = nI 0 ∨ (if _ then nI 1 else nI 0) = nI 1
        split
        · exact Or.inr rfl
        · exact Or.inl rfl
      · show (if _ then nI 0 else nI 1) = nI 0 ∨ (if _ then nI 0 else nI 1) = nI 1
        split
        · exact Or.inl rfl
        · exact Or.inr rfl
  · obtain ⟨f1, fb, f3⟩ := h2
    have hl' : q.length + 1 < 42 := hl
    refine ⟨_, _, _, _, cNot hi ht (by omega) e1, mNot (by omega) ht' (by omega) e2, yS2_set f3 (by rw [f1]) (fun _ => yNOT (fb rfl)), yF_u yF_r, yF_u yF_r⟩
  · obtain ⟨f1, fb1, f2, fb2, f3⟩ := h2
    have hl' : q.length + 1 + 1 < 42 := hl
    have f1' : hc 1 0 3 (q.length + 1) = hm 12 0 42 (q.length + 1) := f1
    have b1 : hm 12 0 42 (q.length + 1) = nI 0 ∨ hm 12 0 42 (q.length + 1) = nI 1 := fb1 rfl
    have b2 := fb2 rfl
    refine ⟨_, _, _, _, cBin (v := yJ (20 + k) (hm 12 0 42 q.length) (hm 12 0 42 (q.length + 1))) hi ht (by omega) (by omega) (by omega) (by omega) e1 (fun d => by rw [f1', f2]; exact kJ (by omega) (by omega) (by omega)), mBin (v := yK (10 + k) (hm 12 0 42 q.length) (hm 12 0 42 (q.length + 1))) (by omega) ht' (by omega) (by omega) (by omega) (by omega) e2 (fun d => mJ (by omega) (by omega) (by omega) (by omega)), yS2_set f3 ?_ (fun z => ?_), yF_u yF_r, yF_u yF_r⟩
    · have : k = 0 ∨ k = 1 := by omega
      rcases this with rfl | rfl
      · exact (yAND b2 b1).1
      · exact yOR b2 b1
    · have : k = 0 ∨ k = 1 := by omega
      rcases this with rfl | rfl
      · exact (yAND b2 b1).2
      · show (if _ then nI 0 else nI 1) = nI 0 ∨ (if _ then nI 0 else nI 1) = nI 1
        split
        · exact Or.inl rfl
        · exact Or.inr rfl
theorem sgR_le {s : Int32} {O A : Nat → Int32} {i i1 : Nat} {ts ts1 : List Bool} (h : sgR s O A i ts i1 ts1) : i < i1 := by
  rcases h with ⟨k, hk, e1, e2, e3, rfl, rfl, hl⟩ | ⟨n, hn, e1, e2, e3, rfl, rfl, hl⟩ | ⟨n, q, h0, hn, e1, e2, e3, e4, rfl, rfl, rfl, hl⟩ | ⟨k, q, hk, e1, e2, rfl, rfl, rfl, hl⟩ | ⟨k, q, hk, e1, e2, rfl, rfl, rfl, hl⟩ | ⟨q, e1, e2, rfl, rfl, rfl, hl⟩ | ⟨k, q, hk, e1, e2, rfl, rfl, rfl, hl⟩ <;> omega
theorem Seg_le {S O A : Nat → Int32} : ∀ {n i i' : Nat} {ts : List Bool} {j' : Nat} {ts2 : List Bool}, Seg S O A n i i' ts j' ts2 → i' ≤ j'
  | 0, _, _, _, _, _, h => by obtain ⟨rfl, _⟩ := h; exact Nat.le_refl _
  | n + 1, _, _, _, _, _, ⟨i1, ts1, h1, h2⟩ => by have := sgR_le h1; have := Seg_le h2; omega
theorem yRun : ∀ (n i i' : Nat) (ts : List Bool) (j' : Nat) (ts2 : List Bool) (a5 a6 : Option zV) (hc hm : zH), Seg (hc 2 0 2) (hm 12 0 24) (hm 12 0 25) n i i' ts j' ts2 → i + n ≤ to → to ≤ 400 → j' ≤ to' → to' ≤ 400 → (∀ k, k < 11 → hc 1 0 2 k = hm 12 0 41 k) → yS2 (hc 1 0 3) (hm 12 0 42) ts →
    ∃ hc' hm' b5 b6, zev L (dc + 1) 15 22 [some (.inr (.inl (1, 0, 0))), some (.inl (nI fr)), some (.inl (nI to)), some (.inl (nI ts.length)), some (.inl (nI to)), some (.inl (nI i)), a5, a6] [] hc = zev L (dc + 1) 15 22 [some (.inr (.inl (1, 0, 0))), some (.inl (nI fr)), some (.inl (nI to)), some (.inl (nI ts2.length)), some (.inl (nI to)), some (.inl (nI (i + n))), b5, b6] [] hc' ∧
      zev L (dm + 1) 215 12 [some (.inr (.inl (12, 0, 0))), some (.inl (nI 0)), some (.inl (nI fr')), some (.inl (nI to')), some (.inl (nI (ts.length))), some (.inl (nI i'))] [] hm = zev L (dm + 1) 215 12 [some (.inr (.inl (12, 0, 0))), some (.inl (nI 0)), some (.inl (nI fr')), some (.inl (nI to')), some (.inl (nI (ts2.length))), some (.inl (nI j'))] [] hm' ∧ yS2 (hc' 1 0 3) (hm' 12 0 42) ts2 ∧ yF 1 0 3 hc hc' ∧ yF 12 0 42 hm hm'
  | 0, i, i', ts, j', ts2, a5, a6, hc, hm, h, _, _, _, _, _, h2 => by
    obtain ⟨rfl, rfl⟩ := h
    exact ⟨hc, hm, a5, a6, rfl, rfl, h2, yF_r, yF_r⟩
  | n + 1, i, i', ts, j', ts2, a5, a6, hc, hm, h, h3, h4, h5, h6, hg, h2 => by
    obtain ⟨i1, ts1, hs, hr⟩ := h
    have hle := Seg_le hr
    obtain ⟨hc1, hm1, b5, b6, q1, q2, q3, q4, q5⟩ := yStep (L := L) (dc := dc) (dm := dm) (fr := fr) (to := to) (fr' := fr') (to' := to') (a5 := a5) (a6 := a6) hs (by omega) h4 (by omega) h6 hg h2
    have e1 : hc1 2 0 2 = hc 2 0 2 := funext fun j => q4 2 0 2 j (by omega)
    have e2 : hm1 12 0 24 = hm 12 0 24 := funext fun j => q5 12 0 24 j (by omega)
    have e3 : hm1 12 0 25 = hm 12 0 25 := funext fun j => q5 12 0 25 j (by omega)
    obtain ⟨hc2, hm2, c5, c6, r1, r2, r3, r4, r5⟩ := yRun n (i + 1) i1 ts1 j' ts2 b5 b6 hc1 hm1 (by rw [e1, e2, e3]; exact hr) (by omega) h4 h5 h6 (fun k hk => by rw [q4 1 0 2 k (by omega), q5 12 0 41 k (by omega)]; exact hg k hk) q3
    refine ⟨hc2, hm2, c5, c6, ?_, q2.trans r2, r3, yF_t q4 r4, yF_t q5 r5⟩
    rw [show i + (n + 1) = i + 1 + n by omega]
    exact q1.trans r1
/-- a whole expression -/
theorem yExp {hc hm : zH} {f t f' t' SC : Nat} {b : Bool} (hC : hc 2 0 0 3 = nI SC) (htC : t ≤ SC) (hSC : SC ≤ 400) (hs : Seg (hc 2 0 2) (hm 12 0 24) (hm 12 0 25) (t - f) f f' [] t' [b]) (hf : f ≤ t) (ht : t ≤ 400) (ht' : t' ≤ 400) (hg : ∀ k, k < 11 → hc 1 0 2 k = hm 12 0 41 k) :
    ∃ v hc' hm', zev L (dc + 1) 15 0 [some (.inr (.inl (1, 0, 0))), some (.inl (nI f)), some (.inl (nI t)), none, none, none, none, none] [] hc = some (some (.inl v), hc') ∧ zev L (dm + 1) 215 0 [some (.inr (.inl (12, 0, 0))), some (.inl (nI 0)), some (.inl (nI f')), some (.inl (nI t')), none, none] [] hm = some (some (.inl v), hm') ∧ yF 1 0 3 hc hc' ∧ yF 12 0 42 hm hm' := by
  obtain ⟨hc', hm', b5, b6, q1, q2, q3, q4, q5⟩ := yRun (L := L) (dc := dc) (dm := dm) (fr := f) (to := t) (fr' := f') (to' := t') (t - f) f f' [] t' [b] none none hc hm hs (by omega) ht (Nat.le_refl _) ht' hg trivial
  rw [show f + (t - f) = t by omega] at q1
  have q1' := q1.trans b15_22
  have q2' := q2.trans b215_12
  have e1 : ([] : List Bool).length = 0 := rfl
  have e2 : hc' 1 0 3 0 = hm' 12 0 42 0 := q3.1
  simp (disch := first | omega | simp (disch := omega) only [nI_add, pk_mul, pk_sub, pk_div, znmod, nI_clamp, nIleT, nIleF, nIltT, nIltF, nIeqT, nIeqF, nIm1, nIm1q, zupE, zupN, vpT, nI_01, nI_11, ↓reduceIte, Option.bind_some, Option.toList_some, Option.toList_none, List.cons_append, List.nil_append, Nat.reduceAdd, Nat.reduceMul, Nat.reduceSub, Nat.reduceDiv, Nat.reduceMod, and_true, true_and, and_false, false_and, not_true_eq_false, not_false_eq_true, or_true, true_or, or_false, false_or, Int32.lt_irrefl, Int32.le_refl, e1, e2, Nat.zero_add]) only [nI_add, pk_mul, pk_sub, pk_div, znmod, nI_clamp, nIleT, nIleF, nIltT, nIltF, nIeqT, nIeqF, nIm1, nIm1q, zupE, zupN, vpT, nI_01, nI_11, ↓reduceIte, Option.bind_some, Option.toList_some, Option.toList_none, List.cons_append, List.nil_append, Nat.reduceAdd, Nat.reduceMul, Nat.reduceSub, Nat.reduceDiv, Nat.reduceMod, and_true, true_and, and_false, false_and, not_true_eq_false, not_false_eq_true, or_true, true_or, or_false, false_or, Int32.lt_irrefl, Int32.le_refl, e1, e2, Nat.zero_add, b15_217, b215_176] at q1' q2'
  refine ⟨hm' 12 0 42 0, hc', hm', ?_, ?_, q4, q5⟩
  · have w1 : (if hc 2 0 0 3 < nI t then hc 2 0 0 3 else nI t) = nI t := by simp (disch := first | omega | simp (disch := omega) only [nI_add, pk_mul, pk_sub, pk_div, znmod, nI_clamp, nIleT, nIleF, nIltT, nIltF, nIeqT, nIeqF, nIm1, nIm1q, zupE, zupN, vpT, nI_01, nI_11, ↓reduceIte, Option.bind_some, Option.toList_some, Option.toList_none, List.cons_append, List.nil_append, Nat.reduceAdd, Nat.reduceMul, Nat.reduceSub, Nat.reduceDiv, Nat.reduceMod, and_true, true_and, and_false, false_and, not_true_eq_false, not_false_eq_true, or_true, true_or, or_false, false_or, Int32.lt_irrefl, Int32.le_refl, hC]) only [nI_add, pk_mul, pk_sub, pk_div, znmod, nI_clamp, nIleT, nIleF, nIltT, nIltF, nIeqT, nIeqF, nIm1, nIm1q, zupE, zupN, vpT, nI_01, nI_11, ↓reduceIte, Option.bind_some, Option.toList_some, Option.toList_none, List.cons_append, List.nil_append, Nat.reduceAdd, Nat.reduceMul, Nat.reduceSub, Nat.reduceDiv, Nat.reduceMod, and_true, true_and, and_false, false_and, not_true_eq_false, not_false_eq_true, or_true, true_or, or_false, false_or, Int32.lt_irrefl, Int32.le_refl, hC]
    have w2 : (if nI 0 < nI f then nI f else nI 0) = nI f := by
      by_cases c : f = 0
      · subst c; simp (disch := first | omega | simp (disch := omega) only [nI_add, pk_mul, pk_sub, pk_div, znmod, nI_clamp, nIleT, nIleF, nIltT, nIltF, nIeqT, nIeqF, nIm1, nIm1q, zupE, zupN, vpT, nI_01, nI_11, ↓reduceIte, Option.bind_some, Option.toList_some, Option.toList_none, List.cons_append, List.nil_append, Nat.reduceAdd, Nat.reduceMul, Nat.reduceSub, Nat.reduceDiv, Nat.reduceMod, and_true, true_and, and_false, false_and, not_true_eq_false, not_false_eq_true, or_true, true_or, or_false, false_or, Int32.lt_irrefl, Int32.le_refl]) only [nI_add, pk_mul, pk_sub, pk_div, znmod, nI_clamp, nIleT, nIleF, nIltT, nIltF, nIeqT, nIeqF, nIm1, nIm1q, zupE, zupN, vpT, nI_01, nI_11, ↓reduceIte, Option.bind_some, Option.toList_some, Option.toList_none, List.cons_append, List.nil_append, Nat.reduceAdd, Nat.reduceMul, Nat.reduceSub, Nat.reduceDiv, Nat.reduceMod, and_true, true_and, and_false, false_and, not_true_eq_false, not_false_eq_true, or_true, true_or, or_false, false_or, Int32.lt_irrefl, Int32.le_refl]
      · simp (disch := first | omega | simp (disch := omega) only [nI_add, pk_mul, pk_sub, pk_div, znmod, nI_clamp, nIleT, nIleF, nIltT, nIltF, nIeqT, nIeqF, nIm1, nIm1q, zupE, zupN, vpT, nI_01, nI_11, ↓reduceIte, Option.bind_some, Option.toList_some, Option.toList_none, List.cons_append, List.nil_append, Nat.reduceAdd, Nat.reduceMul, Nat.reduceSub, Nat.reduceDiv, Nat.reduceMod, and_true, true_and, and_false, false_and, not_true_eq_false, not_false_eq_true, or_true, true_or, or_false, false_or, Int32.lt_irrefl, Int32.le_refl]) only [nI_add, pk_mul, pk_sub, pk_div, znmod, nI_clamp, nIleT, nIleF, nIltT, nIltF, nIeqT, nIeqF, nIm1, nIm1q, zupE, zupN, vpT, nI_01, nI_11, ↓reduceIte, Option.bind_some, Option.toList_some, Option.toList_none, List.cons_append, List.nil_append, Nat.reduceAdd, Nat.reduceMul, Nat.reduceSub, Nat.reduceDiv, Nat.reduceMod, and_true, true_and, and_false, false_and, not_true_eq_false, not_false_eq_true, or_true, true_or, or_false, false_or, Int32.lt_irrefl, Int32.le_refl]
    rw [b15_0, w1, w2]
    exact q1'
  · simp (disch := first | omega | simp (disch := omega) only [nI_add, pk_mul, pk_sub, pk_div, znmod, nI_clamp, nIleT, nIleF, nIltT, nIltF, nIeqT, nIeqF, nIm1, nIm1q, zupE, zupN, vpT, nI_01, nI_11, ↓reduceIte, Option.bind_some, Option.toList_some, Option.toList_none, List.cons_append, List.nil_append, Nat.reduceAdd, Nat.reduceMul, Nat.reduceSub, Nat.reduceDiv, Nat.reduceMod, and_true, true_and, and_false, false_and, not_true_eq_false, not_false_eq_true, or_true, true_or, or_false, false_or, Int32.lt_irrefl, Int32.le_refl, Nat.zero_add]) only [nI_add, pk_mul, pk_sub, pk_div, znmod, nI_clamp, nIleT, nIleF, nIltT, nIltF, nIeqT, nIeqF, nIm1, nIm1q, zupE, zupN, vpT, nI_01, nI_11, ↓reduceIte, Option.bind_some, Option.toList_some, Option.toList_none, List.cons_append, List.nil_append, Nat.reduceAdd, Nat.reduceMul, Nat.reduceSub, Nat.reduceDiv, Nat.reduceMod, and_true, true_and, and_false, false_and, not_true_eq_false, not_false_eq_true, or_true, true_or, or_false, false_or, Int32.lt_irrefl, Int32.le_refl, Nat.zero_add, b215_0]
    exact q2'
end LR
