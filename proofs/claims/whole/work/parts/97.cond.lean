/-! text: conditions joined by and, or -/
section TV
variable {L : Nat} {T t P H : Nat} {B : Nat → Nat} {h0c h0m : zH}
/-- an operator that waits is settled by both, if there is one -/
theorem ySt {i x sc mc o : Nat} {b : Bool} {q : List Nat} {u : List Bool} {hc hm : zH} (hx : x = 10 ∨ x = 11) (G : yGl T t B P H h0m) (S : yYS T t B P H h0c h0m i hc hm) (l : yLS sc mc hc hm) (pk : yPk hm ((if b = true then [x] else []) ++ q)) (e29 : hm 12 0 0 29 = nI ((if b = true then [x] else []) ++ q).length) (hl : q.length ≤ 30) (hq : ∀ y l, q = y :: l → y ≠ x ∧ y < 13) (e27 : hm 12 0 0 27 = nI o) (ho : o ≤ 8) (hw : mc + yNo ((if b = true then [x] else []) ++ q) ≤ i) (hu : u.length ≤ 20) :
    ∃ sc' mc' hc' hm', (b = true → ∀ d, zev L d 21 0 [some (.inr (.inl (2, 8, 0))), some (.inl (nI (x+10)))] [] hc = some (none, hc')) ∧ (b = false → hc' = hc) ∧ (∀ d, zev L (d + 1) 196 0 [some (.inr (.inl (12, 0, 0))), some (.inl (nI x))] [] hm = some (none, hm')) ∧ yYS T t B P H h0c h0m i hc' hm' ∧ yLS sc' mc' hc' hm' ∧ yPk hm' q ∧ hm' 12 0 0 29 = nI q.length ∧ hm' 12 0 0 27 = nI o ∧ mc' + yNo q ≤ i ∧ yEx (true :: ((if b = true then [true] else []) ++ u)) (true :: u) sc mc sc' mc' (hc 2 8) (yRw hm) (hc' 2 8) (yRw hm') := by
  have ai := S.1
  have g1 := G.1
  have g2 := G.2.1
  obtain ⟨l1, l2, l3⟩ := l
  cases b
  · obtain ⟨hm', s1, s2, s3, s4, s5, s6, s7, s8⟩ := mSet (L := L) (T := T) (t := t) (B := B) (P := P) (H := H) (h0c := h0c) (h0m := h0m) (x := x) (o := o) (by omega) 0 q mc hm pk (by rw [Nat.zero_add]; exact e29) (by omega) hq l2 (by omega) e27 (fun _ => by omega) (by omega)
    refine ⟨sc, mc, hc, hm', fun q => Bool.noConfusion q, fun _ => rfl, s1, s8 _ _ S, ⟨l1, s2, l3⟩, yPk_c q (fun j _ => s5 28 j (by omega) (by omega)) pk, s6, by rw [s7, if_neg (by omega)], hw, yEx_k yEx_r s4 (fun s j p1 p2 => s5 s j (by omega) (by omega))⟩
  · have hno : yNo ((if true = true then [x] else []) ++ q) = yNo q + 1 := by
      show yNo (x :: q) = _
      rw [yNo, if_neg (by omega)]
    rw [hno] at hw
    obtain ⟨hm', s1, s2, s3, s4, s5, s6, s7, s8⟩ := mSet (L := L) (T := T) (t := t) (B := B) (P := P) (H := H) (h0c := h0c) (h0m := h0m) (x := x) (o := o) (by omega) 1 q mc hm pk (by rw [Nat.add_comm]; exact e29) (by omega) hq l2 (by omega) e27 (fun _ => by omega) (by omega)
    have y0 := s3 0 (by omega)
    rw [Nat.add_zero] at y0
    refine ⟨sc + 1, mc + 1, yac sc (nI (x + 10)) hc, hm', fun _ d => kAdds l1 (by omega), fun q => Bool.noConfusion q, s1, s8 _ _ (yYS_a S (by omega)), ⟨yac_3, s2, by omega⟩, yPk_c q (fun j _ => s5 28 j (by omega) (by omega)) pk.2, s6, by rw [s7, if_neg (by omega)], by omega, yEx_v s4 (fun s j p1 p2 => s5 s j (by omega) (by omega)) (Or.inr (Or.inr (Or.inr (Or.inr (Or.inr (Or.inr ⟨x - 10, u, by omega, ?_, ?_, rfl, rfl, rfl, ?_⟩))))))⟩
    · rw [show 20 + (x - 10) = x + 10 by omega]
    · show yRw hm' 23 (800 + mc) = _
      rw [y0, show 10 + (x - 10) = x by omega]
    · show u.length + 1 + 1 < 42
      omega
theorem yPk_w {x : Nat} {hm : zH} {v : Int32} {l : List Nat} (p : yPk hm l) : yPk (zup (zup hm 12 0 29 l.length (nI x)) 12 0 0 29 v) (x :: l) := by
  refine ⟨by rw [zupN (by omega), zupE (by omega)], yPk_c l (fun j hj => ?_) p⟩
  rw [zupN (by omega), zupN (by omega)]
theorem yCon_s {n : Nat} (G : yGl T t B P H h0m) (hS : ySin L T t B P H h0c h0m n) (hC : ∀ m, m + 1 = n → yCon L T t B P H h0c h0m m) : yCon L T t B P H h0c h0m n := by
  intro i hi o br c an orr p a3 ts sc mc hc hm S l ho pk e29 hpl hp e27 hw ht hcc hbr
  have ai := S.1
  have g1 := G.1
  have g2 := G.2.1
  have hlen : (yao an orr p).length ≤ p.length + 2 := by unfold yao; cases an <;> cases orr <;> simp
  have htl : (yat an orr ts).length ≤ ts.length + 2 := by unfold yat; cases an <;> cases orr <;> simp
  have hpo : ∀ y l, (if orr = true then [11] else []) ++ p = y :: l → y ≠ 10 ∧ y < 13 := fun y l q => by
    cases orr
    · have := hp y l q; omega
    · have := (List.cons.inj q).1; omega
  have hpa : ∀ y l, yao an orr p = y :: l → y ≠ 9 ∧ y < 13 := fun y l q => by
    cases an
    · cases orr
      · have := hp y l q; omega
      · have := (List.cons.inj q).1; omega
    · have := (List.cons.inj q).1; omega
  have c400 : c < 400 := by omega
  rcases hS i hi o 0 br (yao an orr p) a3 (yat an orr ts) sc mc hc hm S l ho (by omega) pk (by rw [Nat.zero_add]; exact e29) (by omega) hpa e27 (by omega) (by omega) hbr with ⟨i1, sc1, mc1, hc1, hm1, a31, q1, q2, q3, q4, q5, q6, q7, q8, q9, q10, q11, q12, q13⟩ | ⟨hc1, hm1, q1, q2, q3⟩
  · have i1t := q4.1
    have bK := yYS_b q4
    obtain ⟨scA, mcA, hcA, hmA, a1, a2, a4, SA, lA, pA, eA9, eA7, wA, xA⟩ := ySt (L := L) (x := 10) (b := an) (q := (if orr = true then [11] else []) ++ p) (u := (if orr = true then [true] else []) ++ ts) (Or.inl rfl) G q4 ⟨q5, q6, q7⟩ q9 q10 (by cases orr <;> simp <;> omega) hpo (by rw [q11, Nat.sub_zero]) ho (by have := q12; rw [Nat.add_zero] at this; exact this) (by cases orr <;> simp <;> omega)
    have csA : ∀ d, zev L (d + 6) 68 25 [some (.inr (.inl (6, 0, 0))), some (.inl (nI o)), some (.inl (nI (an.toNat))), some (.inl (nI (orr.toNat))), some (.inl (nI c))] [] hc1 = zev L (d + 6) 68 38 [some (.inr (.inl (6, 0, 0))), some (.inl (nI o)), some (.inl (nI (an.toNat))), some (.inl (nI (orr.toNat))), some (.inl (nI c))] [] hcA := fun d => by
      cases an
      · rw [a2 rfl]
        simp (disch := first | omega | simp (disch := omega) only [nI_add, pk_mul, pk_sub, pk_div, znmod, nI_clamp, nIleT, nIleF, nIltT, nIltF, nIeqT, nIeqF, nIm1, nIm1q, zupE, zupN, vpT, nI_01, nI_11, ↓reduceIte, Option.bind_some, Option.toList_some, Option.toList_none, List.cons_append, List.nil_append, Nat.reduceAdd, Nat.reduceMul, Nat.reduceSub, Nat.reduceDiv, Nat.reduceMod, and_true, true_and, and_false, false_and, not_true_eq_false, not_false_eq_true, or_true, true_or, or_false, false_or, Int32.lt_irrefl, Int32.le_refl, Bool.toNat_false]) only [nI_add, pk_mul, pk_sub, pk_div, znmod, nI_clamp, nIleT, nIleF, nIltT, nIltF, nIeqT, nIeqF, nIm1, nIm1q, zupE, zupN, vpT, nI_01, nI_11, ↓reduceIte, Option.bind_some, Option.toList_some, Option.toList_none, List.cons_append, List.nil_append, Nat.reduceAdd, Nat.reduceMul, Nat.reduceSub, Nat.reduceDiv, Nat.reduceMod, and_true, true_and, and_false, false_and, not_true_eq_false, not_false_eq_true, or_true, true_or, or_false, false_or, Int32.lt_irrefl, Int32.le_refl, Bool.toNat_false, b68_25]
      · have a1' := a1 rfl
        simp (disch := first | omega | simp (disch := omega) only [nI_add, pk_mul, pk_sub, pk_div, znmod, nI_clamp, nIleT, nIleF, nIltT, nIltF, nIeqT, nIeqF, nIm1, nIm1q, zupE, zupN, vpT, nI_01, nI_11, ↓reduceIte, Option.bind_some, Option.toList_some, Option.toList_none, List.cons_append, List.nil_append, Nat.reduceAdd, Nat.reduceMul, Nat.reduceSub, Nat.reduceDiv, Nat.reduceMod, and_true, true_and, and_false, false_and, not_true_eq_false, not_false_eq_true, or_true, true_or, or_false, false_or, Int32.lt_irrefl, Int32.le_refl, Bool.toNat_true, a1']) only [nI_add, pk_mul, pk_sub, pk_div, znmod, nI_clamp, nIleT, nIleF, nIltT, nIltF, nIeqT, nIeqF, nIm1, nIm1q, zupE, zupN, vpT, nI_01, nI_11, ↓reduceIte, Option.bind_some, Option.toList_some, Option.toList_none, List.cons_append, List.nil_append, Nat.reduceAdd, Nat.reduceMul, Nat.reduceSub, Nat.reduceDiv, Nat.reduceMod, and_true, true_and, and_false, false_and, not_true_eq_false, not_false_eq_true, or_true, true_or, or_false, false_or, Int32.lt_irrefl, Int32.le_refl, Bool.toNat_true, a1', b68_25, b68_29]
    have bA := SA.2.2.1
    have st : ∀ d, 2 * (9 - o) ≤ d → zev L (d + 6) 68 7 [some (.inr (.inl (6, 0, 0))), some (.inl (nI o)), some (.inl (nI (an.toNat))), some (.inl (nI (orr.toNat))), some (.inl (nI c))] [] hc = zev L (d + 6) 68 38 [some (.inr (.inl (6, 0, 0))), some (.inl (nI o)), some (.inl (nI (an.toNat))), some (.inl (nI (orr.toNat))), some (.inl (nI c))] [] hcA := fun d hd => by
      rw [← csA d]
      have q2' := q2 d hd
      refine b68_7.trans ?_
      simp (disch := first | omega | simp (disch := omega) only [nI_add, pk_mul, pk_sub, pk_div, znmod, nI_clamp, nIleT, nIleF, nIltT, nIltF, nIeqT, nIeqF, nIm1, nIm1q, zupE, zupN, vpT, nI_01, nI_11, ↓reduceIte, Option.bind_some, Option.toList_some, Option.toList_none, List.cons_append, List.nil_append, Nat.reduceAdd, Nat.reduceMul, Nat.reduceSub, Nat.reduceDiv, Nat.reduceMod, and_true, true_and, and_false, false_and, not_true_eq_false, not_false_eq_true, or_true, true_or, or_false, false_or, Int32.lt_irrefl, Int32.le_refl, q2']) only [nI_add, pk_mul, pk_sub, pk_div, znmod, nI_clamp, nIleT, nIleF, nIltT, nIltF, nIeqT, nIeqF, nIm1, nIm1q, zupE, zupN, vpT, nI_01, nI_11, ↓reduceIte, Option.bind_some, Option.toList_some, Option.toList_none, List.cons_append, List.nil_append, Nat.reduceAdd, Nat.reduceMul, Nat.reduceSub, Nat.reduceDiv, Nat.reduceMod, and_true, true_and, and_false, false_and, not_true_eq_false, not_false_eq_true, or_true, true_or, or_false, false_or, Int32.lt_irrefl, Int32.le_refl, q2', b68_15, b68_20]
    have m5 := fun d => yTw (L := L) (c := 16) q4 (by omega) d
    rw [show yymc 16 = 5 from rfl] at m5
    have m4 := fun d => yTw (L := L) (c := 15) q4 (by omega) d
    rw [show yymc 15 = 4 from rfl] at m4
    have exA := yEx_t q13 xA
    by_cases c272 : yykd T B i1 = 272
    · simp only [if_pos (show yykd T B i1 = 256 + 16 from c272)] at m5
      rw [c272] at bA
      have lenA : ((if orr = true then [11] else []) ++ p).length ≤ p.length + 1 := by cases orr <;> simp
      have mw := fun d => mWait (L := L) (d := d) (x := 10) (len := ((if orr = true then [11] else []) ++ p).length) (hm := hmA) eA9 (by omega)
      have SW := yYS_w (x := 10) (len := ((if orr = true then [11] else []) ++ p).length) (v := nI (((if orr = true then [11] else []) ++ p).length + 1)) SA
      obtain ⟨m2, n1, n2, S2, F2, it⟩ := yNext (L := L) G SW (by omega)
      have pk2 : yPk m2 (yao true orr p) := yPk_F (yPk_w pA) F2
      have e29' : m2 12 0 0 29 = nI (yao true orr p).length := by
        rw [F2 12 0 0 29 (by omega), zupE (by omega)]; rfl
      have l2 : yLS scA mcA (yNx T B i1 hcA) m2 := yLS_F (hm := zup (zup hmA 12 0 29 ((if orr = true then [11] else []) ++ p).length (nI 10)) 12 0 0 29 (nI (((if orr = true then [11] else []) ++ p).length + 1))) ⟨lA.1, by rw [zupN (by omega), zupN (by omega)]; exact lA.2.1, lA.2.2⟩ F2
      have e27' : m2 12 0 0 27 = nI o := by rw [F2 12 0 0 27 (by omega), zupN (by omega), zupN (by omega)]; exact eA7
      have no : yNo (yao true orr p) = yNo ((if orr = true then [11] else []) ++ p) + 1 := by
        show yNo (10 :: ((if orr = true then [11] else []) ++ p)) = _
        rfl
      have rw2 : ∀ s j, s ≤ 24 → yRw m2 s j = yRw hmA s j := fun s j hs => by
        rw [yRw_F F2]; unfold yRw; rw [zupN (by omega), zupN (by omega)]
      cases n with
      | zero => omega
      | succ n =>
        rcases hC n rfl (i1 + 1) (by omega) o br (c + 1) true orr p a31 ts scA mcA _ _ S2 l2 ho pk2 e29' hpl hp e27' (by rw [no]; omega) ht (by omega) hbr with ⟨i', sc', mc', hc', hm', a3', r1, r2, r3, r4, r5, r6, r7, r8, r9, r10⟩ | ⟨hc', hm', r1, r2, r3⟩
        · refine Or.inl ⟨i', sc', mc', hc', hm', a3', by omega, fun d hd => (st d hd).trans (Eq.trans ?_ (r2 d hd)), fun d => ((q3 d).trans (b197_9.trans ?_)).trans (r3 d), r4, r5, r6, r7, r8, r9, ?_⟩
          · simp (disch := first | omega | simp (disch := omega) only [nI_add, pk_mul, pk_sub, pk_div, znmod, nI_clamp, nIleT, nIleF, nIltT, nIltF, nIeqT, nIeqF, nIm1, nIm1q, zupE, zupN, vpT, nI_01, nI_11, ↓reduceIte, Option.bind_some, Option.toList_some, Option.toList_none, List.cons_append, List.nil_append, Nat.reduceAdd, Nat.reduceMul, Nat.reduceSub, Nat.reduceDiv, Nat.reduceMod, and_true, true_and, and_false, false_and, not_true_eq_false, not_false_eq_true, or_true, true_or, or_false, false_or, Int32.lt_irrefl, Int32.le_refl, bA, n1, Bool.toNat_true]) only [nI_add, pk_mul, pk_sub, pk_div, znmod, nI_clamp, nIleT, nIleF, nIltT, nIltF, nIeqT, nIeqF, nIm1, nIm1q, zupE, zupN, vpT, nI_01, nI_11, ↓reduceIte, Option.bind_some, Option.toList_some, Option.toList_none, List.cons_append, List.nil_append, Nat.reduceAdd, Nat.reduceMul, Nat.reduceSub, Nat.reduceDiv, Nat.reduceMod, and_true, true_and, and_false, false_and, not_true_eq_false, not_false_eq_true, or_true, true_or, or_false, false_or, Int32.lt_irrefl, Int32.le_refl, bA, n1, Bool.toNat_true, b68_38, b68_48, b68_53, b68_93, b68_97]
          · simp (disch := first | omega | simp (disch := omega) only [nI_add, pk_mul, pk_sub, pk_div, znmod, nI_clamp, nIleT, nIleF, nIltT, nIltF, nIeqT, nIeqF, nIm1, nIm1q, zupE, zupN, vpT, nI_01, nI_11, ↓reduceIte, Option.bind_some, Option.toList_some, Option.toList_none, List.cons_append, List.nil_append, Nat.reduceAdd, Nat.reduceMul, Nat.reduceSub, Nat.reduceDiv, Nat.reduceMod, and_true, true_and, and_false, false_and, not_true_eq_false, not_false_eq_true, or_true, true_or, or_false, false_or, Int32.lt_irrefl, Int32.le_refl, m5, a4, mw, n2]) only [nI_add, pk_mul, pk_sub, pk_div, znmod, nI_clamp, nIleT, nIleF, nIltT, nIltF, nIeqT, nIeqF, nIm1, nIm1q, zupE, zupN, vpT, nI_01, nI_11, ↓reduceIte, Option.bind_some, Option.toList_some, Option.toList_none, List.cons_append, List.nil_append, Nat.reduceAdd, Nat.reduceMul, Nat.reduceSub, Nat.reduceDiv, Nat.reduceMod, and_true, true_and, and_false, false_and, not_true_eq_false, not_false_eq_true, or_true, true_or, or_false, false_or, Int32.lt_irrefl, Int32.le_refl, m5, a4, mw, n2, b197_109, b197_114, b197_117, b197_123, b197_129, b197_133]
          · have := yEx_l r10 rw2
            rw [yNx_8] at this
            exact yEx_t exA this
        · refine Or.inr ⟨hc', hm', fun d hd => (st d hd).trans (Eq.trans ?_ (r1 d hd)), fun d => ((q3 d).trans (b197_9.trans ?_)).trans (r2 d), r3⟩
          · simp (disch := first | omega | simp (disch := omega) only [nI_add, pk_mul, pk_sub, pk_div, znmod, nI_clamp, nIleT, nIleF, nIltT, nIltF, nIeqT, nIeqF, nIm1, nIm1q, zupE, zupN, vpT, nI_01, nI_11, ↓reduceIte, Option.bind_some, Option.toList_some, Option.toList_none, List.cons_append, List.nil_append, Nat.reduceAdd, Nat.reduceMul, Nat.reduceSub, Nat.reduceDiv, Nat.reduceMod, and_true, true_and, and_false, false_and, not_true_eq_false, not_false_eq_true, or_true, true_or, or_false, false_or, Int32.lt_irrefl, Int32.le_refl, bA, n1, Bool.toNat_true]) only [nI_add, pk_mul, pk_sub, pk_div, znmod, nI_clamp, nIleT, nIleF, nIltT, nIltF, nIeqT, nIeqF, nIm1, nIm1q, zupE, zupN, vpT, nI_01, nI_11, ↓reduceIte, Option.bind_some, Option.toList_some, Option.toList_none, List.cons_append, List.nil_append, Nat.reduceAdd, Nat.reduceMul, Nat.reduceSub, Nat.reduceDiv, Nat.reduceMod, and_true, true_and, and_false, false_and, not_true_eq_false, not_false_eq_true, or_true, true_or, or_false, false_or, Int32.lt_irrefl, Int32.le_refl, bA, n1, Bool.toNat_true, b68_38, b68_48, b68_53, b68_93, b68_97]
          · simp (disch := first | omega | simp (disch := omega) only [nI_add, pk_mul, pk_sub, pk_div, znmod, nI_clamp, nIleT, nIleF, nIltT, nIltF, nIeqT, nIeqF, nIm1, nIm1q, zupE, zupN, vpT, nI_01, nI_11, ↓reduceIte, Option.bind_some, Option.toList_some, Option.toList_none, List.cons_append, List.nil_append, Nat.reduceAdd, Nat.reduceMul, Nat.reduceSub, Nat.reduceDiv, Nat.reduceMod, and_true, true_and, and_false, false_and, not_true_eq_false, not_false_eq_true, or_true, true_or, or_false, false_or, Int32.lt_irrefl, Int32.le_refl, m5, a4, mw, n2]) only [nI_add, pk_mul, pk_sub, pk_div, znmod, nI_clamp, nIleT, nIleF, nIltT, nIltF, nIeqT, nIeqF, nIm1, nIm1q, zupE, zupN, vpT, nI_01, nI_11, ↓reduceIte, Option.bind_some, Option.toList_some, Option.toList_none, List.cons_append, List.nil_append, Nat.reduceAdd, Nat.reduceMul, Nat.reduceSub, Nat.reduceDiv, Nat.reduceMod, and_true, true_and, and_false, false_and, not_true_eq_false, not_false_eq_true, or_true, true_or, or_false, false_or, Int32.lt_irrefl, Int32.le_refl, m5, a4, mw, n2, b197_109, b197_114, b197_117, b197_123, b197_129, b197_133]
    · simp only [if_neg (show ¬ yykd T B i1 = 256 + 16 from c272)] at m5
      obtain ⟨scB, mcB, hcB, hmB, b1, b2, b4, SB, lB, pB, eB9, eB7, wB, xB⟩ := ySt (L := L) (x := 11) (b := orr) (q := p) (u := ts) (Or.inr rfl) G SA lA pA eA9 (by omega) (fun y l q => by have := hp y l q; omega) eA7 ho wA (by omega)
      have csB : ∀ d, zev L (d + 6) 68 58 [some (.inr (.inl (6, 0, 0))), some (.inl (nI o)), some (.inl (nI 0)), some (.inl (nI (orr.toNat))), some (.inl (nI c))] [] hcA = zev L (d + 6) 68 71 [some (.inr (.inl (6, 0, 0))), some (.inl (nI o)), some (.inl (nI 0)), some (.inl (nI (orr.toNat))), some (.inl (nI c))] [] hcB := fun d => by
        cases orr
        · rw [b2 rfl]
          simp (disch := first | omega | simp (disch := omega) only [nI_add, pk_mul, pk_sub, pk_div, znmod, nI_clamp, nIleT, nIleF, nIltT, nIltF, nIeqT, nIeqF, nIm1, nIm1q, zupE, zupN, vpT, nI_01, nI_11, ↓reduceIte, Option.bind_some, Option.toList_some, Option.toList_none, List.cons_append, List.nil_append, Nat.reduceAdd, Nat.reduceMul, Nat.reduceSub, Nat.reduceDiv, Nat.reduceMod, and_true, true_and, and_false, false_and, not_true_eq_false, not_false_eq_true, or_true, true_or, or_false, false_or, Int32.lt_irrefl, Int32.le_refl, Bool.toNat_false]) only [nI_add, pk_mul, pk_sub, pk_div, znmod, nI_clamp, nIleT, nIleF, nIltT, nIltF, nIeqT, nIeqF, nIm1, nIm1q, zupE, zupN, vpT, nI_01, nI_11, ↓reduceIte, Option.bind_some, Option.toList_some, Option.toList_none, List.cons_append, List.nil_append, Nat.reduceAdd, Nat.reduceMul, Nat.reduceSub, Nat.reduceDiv, Nat.reduceMod, and_true, true_and, and_false, false_and, not_true_eq_false, not_false_eq_true, or_true, true_or, or_false, false_or, Int32.lt_irrefl, Int32.le_refl, Bool.toNat_false, b68_58]
        · have b1' := b1 rfl
          simp (disch := first | omega | simp (disch := omega) only [nI_add, pk_mul, pk_sub, pk_div, znmod, nI_clamp, nIleT, nIleF, nIltT, nIltF, nIeqT, nIeqF, nIm1, nIm1q, zupE, zupN, vpT, nI_01, nI_11, ↓reduceIte, Option.bind_some, Option.toList_some, Option.toList_none, List.cons_append, List.nil_append, Nat.reduceAdd, Nat.reduceMul, Nat.reduceSub, Nat.reduceDiv, Nat.reduceMod, and_true, true_and, and_false, false_and, not_true_eq_false, not_false_eq_true, or_true, true_or, or_false, false_or, Int32.lt_irrefl, Int32.le_refl, Bool.toNat_true, b1']) only [nI_add, pk_mul, pk_sub, pk_div, znmod, nI_clamp, nIleT, nIleF, nIltT, nIltF, nIeqT, nIeqF, nIm1, nIm1q, zupE, zupN, vpT, nI_01, nI_11, ↓reduceIte, Option.bind_some, Option.toList_some, Option.toList_none, List.cons_append, List.nil_append, Nat.reduceAdd, Nat.reduceMul, Nat.reduceSub, Nat.reduceDiv, Nat.reduceMod, and_true, true_and, and_false, false_and, not_true_eq_false, not_false_eq_true, or_true, true_or, or_false, false_or, Int32.lt_irrefl, Int32.le_refl, Bool.toNat_true, b1', b68_58, b68_62]
      have bB := SB.2.2.1
      have st2 : ∀ d, 2 * (9 - o) ≤ d → zev L (d + 6) 68 7 [some (.inr (.inl (6, 0, 0))), some (.inl (nI o)), some (.inl (nI (an.toNat))), some (.inl (nI (orr.toNat))), some (.inl (nI c))] [] hc = zev L (d + 6) 68 71 [some (.inr (.inl (6, 0, 0))), some (.inl (nI o)), some (.inl (nI 0)), some (.inl (nI (orr.toNat))), some (.inl (nI c))] [] hcB := fun d hd => by
        rw [st d hd, ← csB d]
        simp (disch := first | omega | simp (disch := omega) only [nI_add, pk_mul, pk_sub, pk_div, znmod, nI_clamp, nIleT, nIleF, nIltT, nIltF, nIeqT, nIeqF, nIm1, nIm1q, zupE, zupN, vpT, nI_01, nI_11, ↓reduceIte, Option.bind_some, Option.toList_some, Option.toList_none, List.cons_append, List.nil_append, Nat.reduceAdd, Nat.reduceMul, Nat.reduceSub, Nat.reduceDiv, Nat.reduceMod, and_true, true_and, and_false, false_and, not_true_eq_false, not_false_eq_true, or_true, true_or, or_false, false_or, Int32.lt_irrefl, Int32.le_refl, bA]) only [nI_add, pk_mul, pk_sub, pk_div, znmod, nI_clamp, nIleT, nIleF, nIltT, nIltF, nIeqT, nIeqF, nIm1, nIm1q, zupE, zupN, vpT, nI_01, nI_11, ↓reduceIte, Option.bind_some, Option.toList_some, Option.toList_none, List.cons_append, List.nil_append, Nat.reduceAdd, Nat.reduceMul, Nat.reduceSub, Nat.reduceDiv, Nat.reduceMod, and_true, true_and, and_false, false_and, not_true_eq_false, not_false_eq_true, or_true, true_or, or_false, false_or, Int32.lt_irrefl, Int32.le_refl, bA, b68_38, b68_52, b68_53]
      have exB := yEx_t exA xB
      by_cases c271 : yykd T B i1 = 271
      · simp only [if_pos (show yykd T B i1 = 256 + 15 from c271)] at m4
        rw [c271] at bB
        have mw := fun d => mWait (L := L) (d := d) (x := 11) (len := p.length) (hm := hmB) eB9 (by omega)
        have SW := yYS_w (x := 11) (len := p.length) (v := nI (p.length + 1)) SB
        obtain ⟨m2, n1, n2, S2, F2, it⟩ := yNext (L := L) G SW (by omega)
        have pk2 : yPk m2 (yao false true p) := yPk_F (yPk_w pB) F2
        have e29' : m2 12 0 0 29 = nI (yao false true p).length := by
          rw [F2 12 0 0 29 (by omega), zupE (by omega)]; rfl
        have l2 : yLS scB mcB (yNx T B i1 hcB) m2 := yLS_F (hm := zup (zup hmB 12 0 29 p.length (nI 11)) 12 0 0 29 (nI (p.length + 1))) ⟨lB.1, by rw [zupN (by omega), zupN (by omega)]; exact lB.2.1, lB.2.2⟩ F2
        have e27' : m2 12 0 0 27 = nI o := by rw [F2 12 0 0 27 (by omega), zupN (by omega), zupN (by omega)]; exact eB7
        have no : yNo (yao false true p) = yNo p + 1 := by
          show yNo (11 :: p) = _
          rfl
        have rw2 : ∀ s j, s ≤ 24 → yRw m2 s j = yRw hmB s j := fun s j hs => by
          rw [yRw_F F2]; unfold yRw; rw [zupN (by omega), zupN (by omega)]
        cases n with
        | zero => omega
        | succ n =>
          rcases hC n rfl (i1 + 1) (by omega) o br (c + 1) false true p a31 ts scB mcB _ _ S2 l2 ho pk2 e29' hpl hp e27' (by rw [no]; omega) ht (by omega) hbr with ⟨i', sc', mc', hc', hm', a3', r1, r2, r3, r4, r5, r6, r7, r8, r9, r10⟩ | ⟨hc', hm', r1, r2, r3⟩
          · refine Or.inl ⟨i', sc', mc', hc', hm', a3', by omega, fun d hd => (st2 d hd).trans (Eq.trans ?_ (r2 d hd)), fun d => ((q3 d).trans (b197_9.trans ?_)).trans (r3 d), r4, r5, r6, r7, r8, r9, ?_⟩
            · simp (disch := first | omega | simp (disch := omega) only [nI_add, pk_mul, pk_sub, pk_div, znmod, nI_clamp, nIleT, nIleF, nIltT, nIltF, nIeqT, nIeqF, nIm1, nIm1q, zupE, zupN, vpT, nI_01, nI_11, ↓reduceIte, Option.bind_some, Option.toList_some, Option.toList_none, List.cons_append, List.nil_append, Nat.reduceAdd, Nat.reduceMul, Nat.reduceSub, Nat.reduceDiv, Nat.reduceMod, and_true, true_and, and_false, false_and, not_true_eq_false, not_false_eq_true, or_true, true_or, or_false, false_or, Int32.lt_irrefl, Int32.le_refl, bB, n1, Bool.toNat_true, Bool.toNat_false]) only [nI_add, pk_mul, pk_sub, pk_div, znmod, nI_clamp, nIleT, nIleF, nIltT, nIltF, nIeqT, nIeqF, nIm1, nIm1q, zupE, zupN, vpT, nI_01, nI_11, ↓reduceIte, Option.bind_some, Option.toList_some, Option.toList_none, List.cons_append, List.nil_append, Nat.reduceAdd, Nat.reduceMul, Nat.reduceSub, Nat.reduceDiv, Nat.reduceMod, and_true, true_and, and_false, false_and, not_true_eq_false, not_false_eq_true, or_true, true_or, or_false, false_or, Int32.lt_irrefl, Int32.le_refl, bB, n1, Bool.toNat_true, Bool.toNat_false, b68_71, b68_81, b68_86, b68_93, b68_97]
            · simp (disch := first | omega | simp (disch := omega) only [nI_add, pk_mul, pk_sub, pk_div, znmod, nI_clamp, nIleT, nIleF, nIltT, nIltF, nIeqT, nIeqF, nIm1, nIm1q, zupE, zupN, vpT, nI_01, nI_11, ↓reduceIte, Option.bind_some, Option.toList_some, Option.toList_none, List.cons_append, List.nil_append, Nat.reduceAdd, Nat.reduceMul, Nat.reduceSub, Nat.reduceDiv, Nat.reduceMod, and_true, true_and, and_false, false_and, not_true_eq_false, not_false_eq_true, or_true, true_or, or_false, false_or, Int32.lt_irrefl, Int32.le_refl, m5, m4, a4, b4, mw, n2]) only [nI_add, pk_mul, pk_sub, pk_div, znmod, nI_clamp, nIleT, nIleF, nIltT, nIltF, nIeqT, nIeqF, nIm1, nIm1q, zupE, zupN, vpT, nI_01, nI_11, ↓reduceIte, Option.bind_some, Option.toList_some, Option.toList_none, List.cons_append, List.nil_append, Nat.reduceAdd, Nat.reduceMul, Nat.reduceSub, Nat.reduceDiv, Nat.reduceMod, and_true, true_and, and_false, false_and, not_true_eq_false, not_false_eq_true, or_true, true_or, or_false, false_or, Int32.lt_irrefl, Int32.le_refl, m5, m4, a4, b4, mw, n2, b197_109, b197_114, b197_138, b197_143, b197_146, b197_152, b197_158, b197_164, b197_168]
            · have := yEx_l r10 rw2
              rw [yNx_8] at this
              exact yEx_t exB this
          · refine Or.inr ⟨hc', hm', fun d hd => (st2 d hd).trans (Eq.trans ?_ (r1 d hd)), fun d => ((q3 d).trans (b197_9.trans ?_)).trans (r2 d), r3⟩
            · simp (disch := first | omega | simp (disch := omega) only [nI_add, pk_mul, pk_sub, pk_div, znmod, nI_clamp, nIleT, nIleF, nIltT, nIltF, nIeqT, nIeqF, nIm1, nIm1q, zupE, zupN, vpT, nI_01, nI_11, ↓reduceIte, Option.bind_some, Option.toList_some, Option.toList_none, List.cons_append, List.nil_append, Nat.reduceAdd, Nat.reduceMul, Nat.reduceSub, Nat.reduceDiv, Nat.reduceMod, and_true, true_and, and_false, false_and, not_true_eq_false, not_false_eq_true, or_true, true_or, or_false, false_or, Int32.lt_irrefl, Int32.le_refl, bB, n1, Bool.toNat_true, Bool.toNat_false]) only [nI_add, pk_mul, pk_sub, pk_div, znmod, nI_clamp, nIleT, nIleF, nIltT, nIltF, nIeqT, nIeqF, nIm1, nIm1q, zupE, zupN, vpT, nI_01, nI_11, ↓reduceIte, Option.bind_some, Option.toList_some, Option.toList_none, List.cons_append, List.nil_append, Nat.reduceAdd, Nat.reduceMul, Nat.reduceSub, Nat.reduceDiv, Nat.reduceMod, and_true, true_and, and_false, false_and, not_true_eq_false, not_false_eq_true, or_true, true_or, or_false, false_or, Int32.lt_irrefl, Int32.le_refl, bB, n1, Bool.toNat_true, Bool.toNat_false, b68_71, b68_81, b68_86, b68_93, b68_97]
            · simp (disch := first | omega | simp (disch := omega) only [nI_add, pk_mul, pk_sub, pk_div, znmod, nI_clamp, nIleT, nIleF, nIltT, nIltF, nIeqT, nIeqF, nIm1, nIm1q, zupE, zupN, vpT, nI_01, nI_11, ↓reduceIte, Option.bind_some, Option.toList_some, Option.toList_none, List.cons_append, List.nil_append, Nat.reduceAdd, Nat.reduceMul, Nat.reduceSub, Nat.reduceDiv, Nat.reduceMod, and_true, true_and, and_false, false_and, not_true_eq_false, not_false_eq_true, or_true, true_or, or_false, false_or, Int32.lt_irrefl, Int32.le_refl, m5, m4, a4, b4, mw, n2]) only [nI_add, pk_mul, pk_sub, pk_div, znmod, nI_clamp, nIleT, nIleF, nIltT, nIltF, nIeqT, nIeqF, nIm1, nIm1q, zupE, zupN, vpT, nI_01, nI_11, ↓reduceIte, Option.bind_some, Option.toList_some, Option.toList_none, List.cons_append, List.nil_append, Nat.reduceAdd, Nat.reduceMul, Nat.reduceSub, Nat.reduceDiv, Nat.reduceMod, and_true, true_and, and_false, false_and, not_true_eq_false, not_false_eq_true, or_true, true_or, or_false, false_or, Int32.lt_irrefl, Int32.le_refl, m5, m4, a4, b4, mw, n2, b197_109, b197_114, b197_138, b197_143, b197_146, b197_152, b197_158, b197_164, b197_168]
      · simp only [if_neg (show ¬ yykd T B i1 = 256 + 15 from c271)] at m4
        refine Or.inl ⟨i1, scB, mcB, hcB, hmB, a31, by omega, fun d hd => (st2 d hd).trans ?_, fun d => (q3 d).trans (b197_9.trans ?_), SB, lB, pB, eB9, eB7, wB, exB⟩
        · simp (disch := first | omega | simp (disch := omega) only [nI_add, pk_mul, pk_sub, pk_div, znmod, nI_clamp, nIleT, nIleF, nIltT, nIltF, nIeqT, nIeqF, nIm1, nIm1q, zupE, zupN, vpT, nI_01, nI_11, ↓reduceIte, Option.bind_some, Option.toList_some, Option.toList_none, List.cons_append, List.nil_append, Nat.reduceAdd, Nat.reduceMul, Nat.reduceSub, Nat.reduceDiv, Nat.reduceMod, and_true, true_and, and_false, false_and, not_true_eq_false, not_false_eq_true, or_true, true_or, or_false, false_or, Int32.lt_irrefl, Int32.le_refl, bB]) only [nI_add, pk_mul, pk_sub, pk_div, znmod, nI_clamp, nIleT, nIleF, nIltT, nIltF, nIeqT, nIeqF, nIm1, nIm1q, zupE, zupN, vpT, nI_01, nI_11, ↓reduceIte, Option.bind_some, Option.toList_some, Option.toList_none, List.cons_append, List.nil_append, Nat.reduceAdd, Nat.reduceMul, Nat.reduceSub, Nat.reduceDiv, Nat.reduceMod, and_true, true_and, and_false, false_and, not_true_eq_false, not_false_eq_true, or_true, true_or, or_false, false_or, Int32.lt_irrefl, Int32.le_refl, bB, b68_71, b68_85, b68_86, b68_91]
        · simp (disch := first | omega | simp (disch := omega) only [nI_add, pk_mul, pk_sub, pk_div, znmod, nI_clamp, nIleT, nIleF, nIltT, nIltF, nIeqT, nIeqF, nIm1, nIm1q, zupE, zupN, vpT, nI_01, nI_11, ↓reduceIte, Option.bind_some, Option.toList_some, Option.toList_none, List.cons_append, List.nil_append, Nat.reduceAdd, Nat.reduceMul, Nat.reduceSub, Nat.reduceDiv, Nat.reduceMod, and_true, true_and, and_false, false_and, not_true_eq_false, not_false_eq_true, or_true, true_or, or_false, false_or, Int32.lt_irrefl, Int32.le_refl, m5, m4, a4, b4]) only [nI_add, pk_mul, pk_sub, pk_div, znmod, nI_clamp, nIleT, nIleF, nIltT, nIltF, nIeqT, nIeqF, nIm1, nIm1q, zupE, zupN, vpT, nI_01, nI_11, ↓reduceIte, Option.bind_some, Option.toList_some, Option.toList_none, List.cons_append, List.nil_append, Nat.reduceAdd, Nat.reduceMul, Nat.reduceSub, Nat.reduceDiv, Nat.reduceMod, and_true, true_and, and_false, false_and, not_true_eq_false, not_false_eq_true, or_true, true_or, or_false, false_or, Int32.lt_irrefl, Int32.le_refl, m5, m4, a4, b4, b197_109, b197_114, b197_138, b197_143, b197_173, b197_179]
  · refine Or.inr ⟨hc1, hm1, fun d hd => b68_7.trans ?_, q2, q3⟩
    have q1' := q1 d hd
    simp (disch := first | omega | simp (disch := omega) only [nI_add, pk_mul, pk_sub, pk_div, znmod, nI_clamp, nIleT, nIleF, nIltT, nIltF, nIeqT, nIeqF, nIm1, nIm1q, zupE, zupN, vpT, nI_01, nI_11, ↓reduceIte, Option.bind_some, Option.toList_some, Option.toList_none, List.cons_append, List.nil_append, Nat.reduceAdd, Nat.reduceMul, Nat.reduceSub, Nat.reduceDiv, Nat.reduceMod, and_true, true_and, and_false, false_and, not_true_eq_false, not_false_eq_true, or_true, true_or, or_false, false_or, Int32.lt_irrefl, Int32.le_refl, q1']) only [nI_add, pk_mul, pk_sub, pk_div, znmod, nI_clamp, nIleT, nIleF, nIltT, nIltF, nIeqT, nIeqF, nIm1, nIm1q, zupE, zupN, vpT, nI_01, nI_11, ↓reduceIte, Option.bind_some, Option.toList_some, Option.toList_none, List.cons_append, List.nil_append, Nat.reduceAdd, Nat.reduceMul, Nat.reduceSub, Nat.reduceDiv, Nat.reduceMod, and_true, true_and, and_false, false_and, not_true_eq_false, not_false_eq_true, or_true, true_or, or_false, false_or, Int32.lt_irrefl, Int32.le_refl, q1', b68_15, b68_20, b68_23]
theorem yConds (G : yGl T t B P H h0m) : ∀ n, ySin L T t B P H h0c h0m n ∧ yCon L T t B P H h0c h0m n
  | 0 => by
    have s := ySin_s (L := L) (h0c := h0c) (n := 0) G (fun m hm => absurd hm (by omega)) (fun m hm => absurd hm (by omega))
    exact ⟨s, yCon_s G s (fun m hm => absurd hm (by omega))⟩
  | n + 1 => by
    obtain ⟨i1, i2⟩ := yConds G n
    have s := ySin_s (L := L) (h0c := h0c) (n := n + 1) G (fun m hm => (show n = m by omega) ▸ i1) (fun m hm => (show n = m by omega) ▸ i2)
    exact ⟨s, yCon_s G s (fun m hm => (show n = m by omega) ▸ i2)⟩
end TV
