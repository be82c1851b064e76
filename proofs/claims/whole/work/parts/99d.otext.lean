/-! operation text: the four kinds -/
section UA
variable {L d : Nat} {hc hm : zH} {x1 : Int32}
theorem o_text (R : Rel hc hm) : zS2 (zev L (d + 40) 121 0 [some (.inr (.inl (11, 0, 0))), some (.inl x1), none] [] hc) (zev L (d + 40) 212 0 [some (.inr (.inl (12, 0, 0))), some (.inl x1), none] [] hm) Rel := by
  have R' := R
  obtain ⟨T, t, B, hS, hM, s1, s2, s3, s4, s5, s6, s7, s8, s9, s10⟩ := kBegin (L := L) (x1 := x1) R
  obtain ⟨P, H, ⟨rM, rp, rb, rl, rf, rh, rk, r0, r1, r2, r3, r4⟩, ra, rt, re, ri, rs⟩ := R
  rcases zarg x1 3 (by omega) with ⟨k, hk, rfl⟩ | q
  · have h8 : hS 3 0 0 8 = nI P := by rw [s5 3 0 0 8 (by omega) (by omega) (by omega)]; exact rM.1.1
    have h9 : hS 3 0 0 9 = nI H := by rw [s5 3 0 0 9 (by omega) (by omega) (by omega)]; exact rM.1.2.1
    have hP12 : P ≤ 12 := rM.1.2.2.1
    have hH10 : H ≤ 10 := rM.1.2.2.2
    obtain ⟨m1, rd, Y0, e26, e27, e25⟩ := yStart (L := L) (t := t) (P := P) (H := H) hM s7 s8 s10
    have G : yGl T t B P H (zup (zup (zup hm 12 0 0 25 (nI 0)) 12 0 0 32 (nI 0)) 12 0 0 33 (-1)) := ⟨hM.1, s1, s2, s3, by rw [zupN (by omega), zupN (by omega), zupN (by omega)]; exact rp.1, by rw [zupN (by omega), zupN (by omega), zupN (by omega)]; exact rp.2, hP12, hH10⟩
    obtain ⟨hC, ehC⟩ : ∃ x, x = zup (zup hS 6 0 0 6 (nI P)) 6 0 0 7 (nI H) := ⟨_, rfl⟩
    have c28 : ∀ s j, hC 2 8 s j = hS 2 8 s j := fun s j => by rw [ehC, zupN (by omega), zupN (by omega)]
    obtain ⟨h0m, eh0⟩ : ∃ x, x = zup (zup (zup hm 12 0 0 25 (nI 0)) 12 0 0 32 (nI 0)) 12 0 0 33 (-1) := ⟨_, rfl⟩
    have cS : ∀ d, zev L (d + 28) 121 0 [some (.inr (.inl (11, 0, 0))), some (.inl (nI k)), none] [] hc = (zev L (d + 27) 58 13 [some (.inr (.inl (6, 0, 0))), some (.inl (nI k)), some (.inl (nI P)), some (.inl (nI H)), some (.inl (nI 0)), none] [] hC).bind fun q => zev L (d + 28) 121 51 [some (.inr (.inl (11, 0, 0))), some (.inl (nI k)), none] (q.1.toList ++ []) q.2 := fun d => by
      refine Eq.trans (s4 (d + 20)) ?_
      rw [ehC]
      simp (disch := first | omega | simp (disch := omega) only [nI_add, pk_mul, pk_sub, pk_div, znmod, nI_clamp, nIleT, nIleF, nIltT, nIltF, nIeqT, nIeqF, nIm1, nIm1q, zupE, zupN, vpT, nI_01, nI_11, ↓reduceIte, Option.bind_some, Option.toList_some, Option.toList_none, List.cons_append, List.nil_append, Nat.reduceAdd, Nat.reduceMul, Nat.reduceSub, Nat.reduceDiv, Nat.reduceMod, and_true, true_and, and_false, false_and, not_true_eq_false, not_false_eq_true, or_true, true_or, or_false, false_or, Int32.lt_irrefl, Int32.le_refl, kw, h8, h9]) only [nI_add, pk_mul, pk_sub, pk_div, znmod, nI_clamp, nIleT, nIleF, nIltT, nIltF, nIeqT, nIeqF, nIm1, nIm1q, zupE, zupN, vpT, nI_01, nI_11, ↓reduceIte, Option.bind_some, Option.toList_some, Option.toList_none, List.cons_append, List.nil_append, Nat.reduceAdd, Nat.reduceMul, Nat.reduceSub, Nat.reduceDiv, Nat.reduceMod, and_true, true_and, and_false, false_and, not_true_eq_false, not_false_eq_true, or_true, true_or, or_false, false_or, Int32.lt_irrefl, Int32.le_refl, kw, h8, h9, b121_14, b121_20, b121_23, b58_0, b58_5, b58_10]
    rw [← ehC, ← eh0] at Y0
    rw [← eh0] at G
    have uc : ∀ h', yFC hS h' → yUc hc h' := fun h' f K i s j a b c => by rw [f K i s j a b, s5 K i s j a b c]
    have um : ∀ h', yFM h0m h' → yUm hm h' := fun h' f => by rw [eh0] at f; exact yUm_M f
    have l7 : ∀ h', yFC hS h' → h' 7 0 0 3 = nI 0 := fun h' f => by rw [f 7 0 0 3 (by omega) (by omega)]; exact s6
    have l32 : ∀ h', yFM h0m h' → h' 12 0 0 32 = nI 0 ∧ h' 12 0 0 33 = (-1) := fun h' f => by
      rw [f 0 32 (by omega) (by omega) (by omega) (by omega) (by omega) (by omega), f 0 33 (by omega) (by omega) (by omega) (by omega) (by omega) (by omega), eh0, zupN (by omega), zupE (by omega), zupE (by omega)]
      exact ⟨rfl, rfl⟩
    -- a fault
    have bad : ∀ hc' hm' : zH, (∀ d, zev L (d + 27) 58 13 [some (.inr (.inl (6, 0, 0))), some (.inl (nI k)), some (.inl (nI P)), some (.inl (nI H)), some (.inl (nI 0)), none] [] hC = some (some (.inl (nI 0)), hc')) → (∀ d, (if k = 0 then zev L (d + 8) 199 0 [some (.inr (.inl (12, 0, 0))), none, none] [] m1 else if k = 1 then zev L (d + 8) 205 0 [some (.inr (.inl (12, 0, 0))), none] [] m1 else if k = 2 then zev L (d + 8) 207 0 [some (.inr (.inl (12, 0, 0))), none] [] m1 else zev L (d + 8) 209 0 [some (.inr (.inl (12, 0, 0))), none] [] m1) = some (some (.inl (-1)), hm')) → yYF hS h0m hc' hm' → zS2 (zev L (d + 40) 121 0 [some (.inr (.inl (11, 0, 0))), some (.inl (nI k)), none] [] hc) (zev L (d + 40) 212 0 [some (.inr (.inl (12, 0, 0))), some (.inl (nI k)), none] [] hm) Rel := fun hc' hm' q1 q2 F => by
      obtain ⟨F1, F2, F3, F4, _⟩ := F
      refine ⟨(-1), hc', _, ?_, mTxt_f hk rd q2 (d + 30), RelF R' (uc _ F1) (yUm_u (yUm_u (yUm_u (um _ F2) (by omega)) (by omega)) (by omega)) (l7 _ F1) (by rw [zupE (by omega)]) ⟨?_, ?_⟩⟩
      · have c := cS (d + 12)
        rw [q1 (d + 12)] at c
        refine Eq.trans c ?_
        simp (disch := first | omega | simp (disch := omega) only [nI_add, pk_mul, pk_sub, pk_div, znmod, nI_clamp, nIleT, nIleF, nIltT, nIltF, nIeqT, nIeqF, nIm1, nIm1q, zupE, zupN, vpT, nI_01, nI_11, ↓reduceIte, Option.bind_some, Option.toList_some, Option.toList_none, List.cons_append, List.nil_append, Nat.reduceAdd, Nat.reduceMul, Nat.reduceSub, Nat.reduceDiv, Nat.reduceMod, and_true, true_and, and_false, false_and, not_true_eq_false, not_false_eq_true, or_true, true_or, or_false, false_or, Int32.lt_irrefl, Int32.le_refl]) only [nI_add, pk_mul, pk_sub, pk_div, znmod, nI_clamp, nIleT, nIleF, nIltT, nIltF, nIeqT, nIeqF, nIm1, nIm1q, zupE, zupN, vpT, nI_01, nI_11, ↓reduceIte, Option.bind_some, Option.toList_some, Option.toList_none, List.cons_append, List.nil_append, Nat.reduceAdd, Nat.reduceMul, Nat.reduceSub, Nat.reduceDiv, Nat.reduceMod, and_true, true_and, and_false, false_and, not_true_eq_false, not_false_eq_true, or_true, true_or, or_false, false_or, Int32.lt_irrefl, Int32.le_refl, b121_51, b121_54]
      · rw [zupN (by omega), zupN (by omega), zupE (by omega)]; exact F3
      · rw [zupN (by omega), zupE (by omega)]; exact F4
    -- lines taken over
    have good : ∀ (n : Nat) (hc' hm' h2 g gm : zH), n ≤ 16 → (∀ d, zev L (d + 27) 58 13 [some (.inr (.inl (6, 0, 0))), some (.inl (nI k)), some (.inl (nI P)), some (.inl (nI H)), some (.inl (nI 0)), none] [] hC = some (some (.inl (nI 1)), hc')) → (∀ d, (if k = 0 then zev L (d + 8) 199 0 [some (.inr (.inl (12, 0, 0))), none, none] [] m1 else if k = 1 then zev L (d + 8) 205 0 [some (.inr (.inl (12, 0, 0))), none] [] m1 else if k = 2 then zev L (d + 8) 207 0 [some (.inr (.inl (12, 0, 0))), none] [] m1 else zev L (d + 8) 209 0 [some (.inr (.inl (12, 0, 0))), none] [] m1) = some (some (.inl (nI n)), hm')) → (∀ d, zev L d 18 0 [some (.inr (.inl (2, k, 0))), some (.inr (.inl (2, 8, 0)))] [] hc' = some (none, h2)) → h2 2 k 0 2 = nI n → (g = if k = 1 ∨ k = 2 then zup h2 4 0 0 2 (nI 0) else h2) → (∀ d, (if k = 0 then zev L d 200 0 [some (.inr (.inl (12, 0, 0))), some (.inl (nI n)), none] [] (zup hm' 12 0 0 12 (nI 0)) else zev L d 211 0 [some (.inr (.inl (12, 0, 0))), some (.inl (nI k)), some (.inl (nI n)), none] [] (zup hm' 12 0 0 12 (nI 0))) = some (none, gm)) → Rel g gm → zS2 (zev L (d + 40) 121 0 [some (.inr (.inl (11, 0, 0))), some (.inl (nI k)), none] [] hc) (zev L (d + 40) 212 0 [some (.inr (.inl (12, 0, 0))), some (.inl (nI k)), none] [] hm) Rel := fun n hc' hm' h2 g gm hn q1 q2 q3 q4 q5 q6 RR => by
      refine ⟨nI n, g, gm, ?_, mTxt_s hk hn rd q2 q6 (d + 30), RR⟩
      have c := cS (d + 12)
      rw [q1 (d + 12)] at c
      refine Eq.trans c ?_
      have k6 := fun d => k106 (L := L) (h := hc') (d := d) hk
      have kc : k = 0 ∨ k = 1 ∨ k = 2 ∨ k = 3 := by omega
      rw [q5]
      rcases kc with rfl | rfl | rfl | rfl
      · rw [if_neg (by omega)]
        simp (disch := first | omega | simp (disch := omega) only [nI_add, pk_mul, pk_sub, pk_div, znmod, nI_clamp, nIleT, nIleF, nIltT, nIltF, nIeqT, nIeqF, nIm1, nIm1q, zupE, zupN, vpT, nI_01, nI_11, ↓reduceIte, Option.bind_some, Option.toList_some, Option.toList_none, List.cons_append, List.nil_append, Nat.reduceAdd, Nat.reduceMul, Nat.reduceSub, Nat.reduceDiv, Nat.reduceMod, and_true, true_and, and_false, false_and, not_true_eq_false, not_false_eq_true, or_true, true_or, or_false, false_or, Int32.lt_irrefl, Int32.le_refl, k6, q3, q4]) only [nI_add, pk_mul, pk_sub, pk_div, znmod, nI_clamp, nIleT, nIleF, nIltT, nIltF, nIeqT, nIeqF, nIm1, nIm1q, zupE, zupN, vpT, nI_01, nI_11, ↓reduceIte, Option.bind_some, Option.toList_some, Option.toList_none, List.cons_append, List.nil_append, Nat.reduceAdd, Nat.reduceMul, Nat.reduceSub, Nat.reduceDiv, Nat.reduceMod, and_true, true_and, and_false, false_and, not_true_eq_false, not_false_eq_true, or_true, true_or, or_false, false_or, Int32.lt_irrefl, Int32.le_refl, k6, q3, q4, b121_51, b121_56, b121_64, b121_76, b121_81, b121_93]
      · rw [if_pos (by omega)]
        simp (disch := first | omega | simp (disch := omega) only [nI_add, pk_mul, pk_sub, pk_div, znmod, nI_clamp, nIleT, nIleF, nIltT, nIltF, nIeqT, nIeqF, nIm1, nIm1q, zupE, zupN, vpT, nI_01, nI_11, ↓reduceIte, Option.bind_some, Option.toList_some, Option.toList_none, List.cons_append, List.nil_append, Nat.reduceAdd, Nat.reduceMul, Nat.reduceSub, Nat.reduceDiv, Nat.reduceMod, and_true, true_and, and_false, false_and, not_true_eq_false, not_false_eq_true, or_true, true_or, or_false, false_or, Int32.lt_irrefl, Int32.le_refl, k6, q3, q4]) only [nI_add, pk_mul, pk_sub, pk_div, znmod, nI_clamp, nIleT, nIleF, nIltT, nIltF, nIeqT, nIeqF, nIm1, nIm1q, zupE, zupN, vpT, nI_01, nI_11, ↓reduceIte, Option.bind_some, Option.toList_some, Option.toList_none, List.cons_append, List.nil_append, Nat.reduceAdd, Nat.reduceMul, Nat.reduceSub, Nat.reduceDiv, Nat.reduceMod, and_true, true_and, and_false, false_and, not_true_eq_false, not_false_eq_true, or_true, true_or, or_false, false_or, Int32.lt_irrefl, Int32.le_refl, k6, q3, q4, b121_51, b121_56, b121_64, b121_76, b121_86, b121_93, b37_0, b37_5]
      · rw [if_pos (by omega)]
        simp (disch := first | omega | simp (disch := omega) only [nI_add, pk_mul, pk_sub, pk_div, znmod, nI_clamp, nIleT, nIleF, nIltT, nIltF, nIeqT, nIeqF, nIm1, nIm1q, zupE, zupN, vpT, nI_01, nI_11, ↓reduceIte, Option.bind_some, Option.toList_some, Option.toList_none, List.cons_append, List.nil_append, Nat.reduceAdd, Nat.reduceMul, Nat.reduceSub, Nat.reduceDiv, Nat.reduceMod, and_true, true_and, and_false, false_and, not_true_eq_false, not_false_eq_true, or_true, true_or, or_false, false_or, Int32.lt_irrefl, Int32.le_refl, k6, q3, q4]) only [nI_add, pk_mul, pk_sub, pk_div, znmod, nI_clamp, nIleT, nIleF, nIltT, nIltF, nIeqT, nIeqF, nIm1, nIm1q, zupE, zupN, vpT, nI_01, nI_11, ↓reduceIte, Option.bind_some, Option.toList_some, Option.toList_none, List.cons_append, List.nil_append, Nat.reduceAdd, Nat.reduceMul, Nat.reduceSub, Nat.reduceDiv, Nat.reduceMod, and_true, true_and, and_false, false_and, not_true_eq_false, not_false_eq_true, or_true, true_or, or_false, false_or, Int32.lt_irrefl, Int32.le_refl, k6, q3, q4, b121_51, b121_56, b121_64, b121_76, b121_81, b121_86, b121_93, b37_0, b37_5]
      · rw [if_neg (by omega)]
        simp (disch := first | omega | simp (disch := omega) only [nI_add, pk_mul, pk_sub, pk_div, znmod, nI_clamp, nIleT, nIleF, nIltT, nIltF, nIeqT, nIeqF, nIm1, nIm1q, zupE, zupN, vpT, nI_01, nI_11, ↓reduceIte, Option.bind_some, Option.toList_some, Option.toList_none, List.cons_append, List.nil_append, Nat.reduceAdd, Nat.reduceMul, Nat.reduceSub, Nat.reduceDiv, Nat.reduceMod, and_true, true_and, and_false, false_and, not_true_eq_false, not_false_eq_true, or_true, true_or, or_false, false_or, Int32.lt_irrefl, Int32.le_refl, k6, q3, q4]) only [nI_add, pk_mul, pk_sub, pk_div, znmod, nI_clamp, nIleT, nIleF, nIltT, nIltF, nIeqT, nIeqF, nIm1, nIm1q, zupE, zupN, vpT, nI_01, nI_11, ↓reduceIte, Option.bind_some, Option.toList_some, Option.toList_none, List.cons_append, List.nil_append, Nat.reduceAdd, Nat.reduceMul, Nat.reduceSub, Nat.reduceDiv, Nat.reduceMod, and_true, true_and, and_false, false_and, not_true_eq_false, not_false_eq_true, or_true, true_or, or_false, false_or, Int32.lt_irrefl, Int32.le_refl, k6, q3, q4, b121_51, b121_56, b121_64, b121_76, b121_81, b121_93]
    have kc : k = 0 ∨ k = 1 ∨ k = 2 ∨ k = 3 := by omega
    rcases kc with rfl | rfl | rfl | rfl
    · -- the law
      have S0 : yTl T t B P H hS h0m 0 0 hC (m1, none) := ⟨Y0, by rw [c28]; exact s9, e27, 0, 0, ⟨by rw [c28]; exact s10, e26, Nat.le_refl 0⟩, Nat.le_refl 0, fun l hl => absurd hl (by omega)⟩
      rcases yLoop (L := L) 0 25 (by omega) (fun d n (x : zH × Option zV) => zev L (d + 8) 199 2 [some (.inr (.inl (12, 0, 0))), some (.inl (nI n)), x.2] [] x.1) (fun x => x.1) (yTl T t B P H hS h0m) (fun n i hc x s => ⟨s.1, s.2.1⟩) (fun n i hc x hn s => yLaw1 (L := L) G hn s) 16 0 rfl 0 hC (m1, none) (nI P) (nI H) none S0 with ⟨n, i, hc', ⟨hm', a2⟩, hn, hz, S, q1, q2⟩ | ⟨hc', hm', q1, q2, F⟩
      · obtain ⟨Y, en, _, sc, mc, ⟨l1, l2, l3⟩, lw, hl⟩ := S
        simp only [] at Y l2 hl
        obtain ⟨i_t, _, _, _, ⟨y4, y5⟩, _, yf, _, _, _, ym⟩ := Y
        have hmc : mc ≤ 400 := by have := G.1; have := G.2.1; omega
        obtain ⟨h2, t1, t2, t3, t4, t5⟩ := kListT (L := L) (i0 := 0) (n := sc) (N0 := 400) (h := hc') rfl (by omega) (by omega) l1 (by omega)
        have e25' : (zup hm' 12 0 0 12 (nI 0)) 12 0 0 25 = nI 0 := by rw [zupN (by omega), ym 0 25 (by omega) (by omega) (by omega) (by omega) (by omega) (by omega), eh0, zupN (by omega), zupN (by omega), zupE (by omega)]
        obtain ⟨gm, u1, u2, u3, u4, u5⟩ := m200 (L := L) (hm := zup hm' 12 0 0 12 (nI 0)) hn hmc e25' (by rw [zupN (by omega)]; exact l2)
        have w32 := l32 _ ym
        refine good n hc' hm' h2 h2 gm hn (fun d => q1 (d + 1)) (fun d => by rw [if_pos rfl, b199_0]; exact q2 d) t1 (by rw [t2.1]; exact en) (by rw [if_neg (by omega)]) (fun d => by rw [if_pos rfl]; exact u1 d) (RelN (P := P) (k := 0) (by omega) R' rM.1.1 (by omega) (fun K i s j a b c d' => by rw [t5 K i (by omega)]; exact uc _ yf K i s j a (by omega) c) (fun s j a b c d' e f a1 a2 a3 a4 => by rw [u5 12 0 s j (by omega), zupN (by omega)]; exact um _ ym s j (by omega) c d' e f a4) (fun _ => ?_) (fun q => absurd q (by omega)) (fun q => absurd q (by omega)) (fun q => absurd q (by omega)) (Or.inl ⟨by omega, fun s j => ?_, ?_⟩) ?_ ?_ ⟨?_, ?_⟩)
        · refine ⟨n, sc, hn, by omega, ?_, t3, u4, fun l hl' => ?_⟩
          · rw [t2.1]; exact en
          · obtain ⟨w, f, u, tt, f', u', t', a1, a2, a3, a4, a5, a6, a7, b1, b2, b3, b4, c1, c2, c3, c4, z1, z2⟩ := hl l hl'
            refine ⟨w, f, u, tt, f', u', t', a1, a2, a3, a4, a5, a6, by omega, by rw [t2.2 _ (by omega)]; exact b1, by rw [t2.2 _ (by omega)]; exact b2, by rw [t2.2 _ (by omega)]; exact b3, by rw [t2.2 _ (by omega)]; exact b4, by rw [u2 20 l (by omega) (by omega) hl', zupN (by omega)]; exact c1, by rw [u2 21 l (by omega) (by omega) hl', zupN (by omega)]; exact c2, by rw [u2 22 l (by omega) (by omega) hl', zupN (by omega)]; exact c3, by rw [u2 23 l (by omega) (by omega) hl', zupN (by omega)]; exact c4, ?_, ?_⟩
            · exact Seg_c (M := sc) (K := mc) t4 (fun j hj => by rw [u3 24 j (by omega) hj, zupN (by omega)]; rfl) (fun j hj => by rw [u3 25 j (by omega) hj, zupN (by omega)]; rfl) (by omega) _ _ _ _ z1 (by omega)
            · rcases z2 with z2 | ⟨z2, z3, z4⟩
              · exact Or.inl z2
              · exact Or.inr ⟨z2, z3, Seg_c (M := sc) (K := mc) t4 (fun j hj => by rw [u3 24 j (by omega) hj, zupN (by omega)]; rfl) (fun j hj => by rw [u3 25 j (by omega) hj, zupN (by omega)]; rfl) (by omega) _ _ _ _ z4 (by omega)⟩
        · rw [t5 4 0 (by omega)]; exact uc _ yf 4 0 s j (by omega) (by omega) (by omega)
        · rw [u5 12 0 0 3 (by omega), zupN (by omega)]; exact um _ ym 0 3 (by omega) (by omega) (by omega) (by omega) (by omega) (by omega)
        · rw [t5 7 0 (by omega)]; exact l7 _ yf
        · rw [u5 12 0 0 12 (by omega), zupE (by omega)]
        · rw [u5 12 0 0 32 (by omega), zupN (by omega), w32.1, t5 6 0 (by omega), y4]
        · rw [u5 12 0 0 33 (by omega), zupN (by omega), w32.2, t5 6 0 (by omega), y5]
      · exact bad hc' hm' (fun d => q1 (d + 1)) (fun d => by rw [if_pos rfl, b199_0]; exact q2 d) F
    · -- the fair
      have S0 : yS1 T t B P H hS h0m 0 0 hC m1 := ⟨Y0, by rw [c28]; exact s9, by rw [c28]; exact s10, fun j hj => absurd hj (by omega)⟩
      rcases yLoop (L := L) 1 3 (by omega) (fun d n (x : zH) => zev L (d + 6) 205 2 [some (.inr (.inl (12, 0, 0))), some (.inl (nI n))] [] x) (fun x => x) (yS1 T t B P H hS h0m) (fun n i hc x s => ⟨s.1, s.2.1⟩) (fun n i hc x hn s => yFair1 (L := L) G hn s) 16 0 rfl 0 hC m1 (nI P) (nI H) none S0 with ⟨n, i, hc', hm', hn, hz, S, q1, q2⟩ | ⟨hc', hm', q1, q2, F⟩
      · obtain ⟨Y, en, es, hl⟩ := S
        obtain ⟨i_t, _, _, _, ⟨y4, y5⟩, _, yf, _, _, _, ym⟩ := Y
        obtain ⟨h2, t1, t2, t3, t4, t5⟩ := kListT (L := L) (i0 := 1) (n := 0) (N0 := 0) (h := hc') rfl (by omega) (by omega) es (by omega)
        obtain ⟨gm, u1, u2, u3, u4, u5⟩ := m211_1 (L := L) (hm := zup hm' 12 0 0 12 (nI 0)) hn
        have w32 := l32 _ ym
        refine good n hc' hm' h2 (zup h2 4 0 0 2 (nI 0)) gm hn (fun d => q1 (d + 23)) (fun d => by rw [if_neg (by omega), if_pos rfl, b205_0]; exact q2 (d + 2)) t1 (by rw [t2.1]; exact en) (by rw [if_pos (by omega)]) (fun d => by rw [if_neg (by omega)]; exact u1 d) (RelN (P := P) (k := 1) (by omega) R' rM.1.1 (by omega) (fun K i s j a b c d' => by rw [zupN (by omega), t5 K i (by omega)]; exact uc _ yf K i s j a (by omega) c) (fun s j a b c d' e f a1 a2 a3 a4 => by rw [u5 12 0 s j (by omega), zupN (by omega)]; exact um _ ym s j (by omega) c d' e f a4) (fun q => absurd q (by omega)) (fun _ => ?_) (fun q => absurd q (by omega)) (fun q => absurd q (by omega)) (Or.inr ⟨fun j hj => ?_, by rw [zupE (by omega)], u4⟩) ?_ ?_ ⟨?_, ?_⟩)
        · have z : ∀ s j, (zup h2 4 0 0 2 (nI 0)) 2 1 s j = h2 2 1 s j := fun s j => zupN (by omega)
          refine ⟨⟨n, hn, by rw [z, t2.1]; exact en, u3, fun j hj => ?_⟩, by rw [z]; exact t3⟩
          rw [z, t2.2 j (by omega), u2 j hj, zupN (by omega)]
          exact hl j hj
        · rw [zupN (by omega), t5 4 0 (by omega)]; exact uc _ yf 4 0 0 j (by omega) (by omega) (by omega)
        · rw [zupN (by omega), t5 7 0 (by omega)]; exact l7 _ yf
        · rw [u5 12 0 0 12 (by omega), zupE (by omega)]
        · rw [u5 12 0 0 32 (by omega), zupN (by omega), w32.1, zupN (by omega), t5 6 0 (by omega), y4]
        · rw [u5 12 0 0 33 (by omega), zupN (by omega), w32.2, zupN (by omega), t5 6 0 (by omega), y5]
      · exact bad hc' hm' (fun d => q1 (d + 23)) (fun d => by rw [if_neg (by omega), if_pos rfl, b205_0]; exact q2 (d + 2)) F
    · -- the habits
      have S0 : yTb T t B P H hS h0m 0 0 hC m1 := ⟨Y0, by rw [c28]; exact s9, by rw [c28]; exact s10, fun j hj => absurd hj (by omega)⟩
      rcases yLoop (L := L) 2 3 (by omega) (fun d n (x : zH) => zev L (d + 6) 207 2 [some (.inr (.inl (12, 0, 0))), some (.inl (nI n))] [] x) (fun x => x) (yTb T t B P H hS h0m) (fun n i hc x s => ⟨s.1, s.2.1⟩) (fun n i hc x hn s => yHab1 (L := L) G hn s) 16 0 rfl 0 hC m1 (nI P) (nI H) none S0 with ⟨n, i, hc', hm', hn, hz, S, q1, q2⟩ | ⟨hc', hm', q1, q2, F⟩
      · obtain ⟨Y, en, es, hl⟩ := S
        obtain ⟨i_t, _, _, _, ⟨y4, y5⟩, _, yf, _, _, _, ym⟩ := Y
        obtain ⟨h2, t1, t2, t3, t4, t5⟩ := kListT (L := L) (i0 := 2) (n := 0) (N0 := 0) (h := hc') rfl (by omega) (by omega) es (by omega)
        obtain ⟨gm, u1, u2, u3, u4, u5⟩ := m211_2 (L := L) (hm := zup hm' 12 0 0 12 (nI 0)) hn
        have w32 := l32 _ ym
        refine good n hc' hm' h2 (zup h2 4 0 0 2 (nI 0)) gm hn (fun d => q1 (d + 23)) (fun d => by rw [if_neg (by omega), if_neg (by omega), if_pos rfl, b207_0]; exact q2 (d + 2)) t1 (by rw [t2.1]; exact en) (by rw [if_pos (by omega)]) (fun d => by rw [if_neg (by omega)]; exact u1 d) (RelN (P := P) (k := 2) (by omega) R' rM.1.1 (by omega) (fun K i s j a b c d' => by rw [zupN (by omega), t5 K i (by omega)]; exact uc _ yf K i s j a (by omega) c) (fun s j a b c d' e f a1 a2 a3 a4 => by rw [u5 12 0 s j (by omega), zupN (by omega)]; exact um _ ym s j (by omega) c d' e f a4) (fun q => absurd q (by omega)) (fun q => absurd q (by omega)) (fun _ => ?_) (fun q => absurd q (by omega)) (Or.inr ⟨fun j hj => ?_, by rw [zupE (by omega)], u4⟩) ?_ ?_ ⟨?_, ?_⟩)
        · have z : ∀ s j, (zup h2 4 0 0 2 (nI 0)) 2 2 s j = h2 2 2 s j := fun s j => zupN (by omega)
          refine ⟨⟨n, hn, by rw [z, t2.1]; exact en, u3, fun l hl' => ?_⟩, by rw [z]; exact t3⟩
          have c1 : ∀ j, j < 5 * n → (zup h2 4 0 0 2 (nI 0)) 2 2 1 j = hc' 2 8 1 j := fun j hj => by rw [z]; exact t2.2 j (by omega)
          have c2 : ∀ j, j < 5 * n → gm 12 0 38 j = hm' 12 0 38 (80 + j) := fun j hj => by rw [u2 j hj, zupN (by omega)]
          have q := hl l hl'
          rw [Nat.add_assoc 80 (5 * l) 1, Nat.add_assoc 80 (5 * l) 2, Nat.add_assoc 80 (5 * l) 3, Nat.add_assoc 80 (5 * l) 4] at q
          rw [c1 (5 * l) (by omega), c1 (5 * l + 1) (by omega), c1 (5 * l + 2) (by omega), c1 (5 * l + 3) (by omega), c1 (5 * l + 4) (by omega), c2 (5 * l) (by omega), c2 (5 * l + 1) (by omega), c2 (5 * l + 2) (by omega), c2 (5 * l + 3) (by omega), c2 (5 * l + 4) (by omega)]
          exact q
        · rw [zupN (by omega), t5 4 0 (by omega)]; exact uc _ yf 4 0 0 j (by omega) (by omega) (by omega)
        · rw [zupN (by omega), t5 7 0 (by omega)]; exact l7 _ yf
        · rw [u5 12 0 0 12 (by omega), zupE (by omega)]
        · rw [u5 12 0 0 32 (by omega), zupN (by omega), w32.1, zupN (by omega), t5 6 0 (by omega), y4]
        · rw [u5 12 0 0 33 (by omega), zupN (by omega), w32.2, zupN (by omega), t5 6 0 (by omega), y5]
      · exact bad hc' hm' (fun d => q1 (d + 23)) (fun d => by rw [if_neg (by omega), if_neg (by omega), if_pos rfl, b207_0]; exact q2 (d + 2)) F
    · -- kin
      obtain ⟨m2, i2, Y2, z2⟩ := zinv (P := fun j (x : zH) => fun d => zev L d 209 2 [some (.inr (.inl (12, 0, 0))), some (.inl (nI j))] [] x) (R := fun j x => yYS T t B P H hS h0m 0 hC x ∧ ∀ p, p < j → x 12 0 40 (12 + p) = nI 0) (N := 12) (fun j x hj ⟨Y, z⟩ => by
        refine ⟨zup x 12 0 40 (12 + j) (nI 0), funext fun d => b209_2.trans ?_, yYS_m Y (Or.inr (Or.inr (Or.inr (Or.inr (Or.inl (by omega)))))), fun p hp => ?_⟩
        · simp (disch := first | omega | simp (disch := omega) only [nI_add, pk_mul, pk_sub, pk_div, znmod, nI_clamp, nIleT, nIleF, nIltT, nIltF, nIeqT, nIeqF, nIm1, nIm1q, zupE, zupN, vpT, nI_01, nI_11, ↓reduceIte, Option.bind_some, Option.toList_some, Option.toList_none, List.cons_append, List.nil_append, Nat.reduceAdd, Nat.reduceMul, Nat.reduceSub, Nat.reduceDiv, Nat.reduceMod, and_true, true_and, and_false, false_and, not_true_eq_false, not_false_eq_true, or_true, true_or, or_false, false_or, Int32.lt_irrefl, Int32.le_refl]) only [nI_add, pk_mul, pk_sub, pk_div, znmod, nI_clamp, nIleT, nIleF, nIltT, nIltF, nIeqT, nIeqF, nIm1, nIm1q, zupE, zupN, vpT, nI_01, nI_11, ↓reduceIte, Option.bind_some, Option.toList_some, Option.toList_none, List.cons_append, List.nil_append, Nat.reduceAdd, Nat.reduceMul, Nat.reduceSub, Nat.reduceDiv, Nat.reduceMod, and_true, true_and, and_false, false_and, not_true_eq_false, not_false_eq_true, or_true, true_or, or_false, false_or, Int32.lt_irrefl, Int32.le_refl, b209_8, b209_18]
        · by_cases c : p = j
          · subst c; rw [zupE (by omega)]
          · rw [zupN (by omega)]; exact z p (by omega)) 12 (Nat.le_refl _) m1 ⟨Y0, fun p hp => absurd hp (by omega)⟩
      have i3 : ∀ d, zev L d 209 0 [some (.inr (.inl (12, 0, 0))), none] [] m1 = zev L d 209 26 [some (.inr (.inl (12, 0, 0))), some (.inl (nI 0))] [] m2 := fun d => by
        rw [b209_0]
        refine Eq.trans (congrFun i2 d) (b209_2.trans ?_)
        simp (disch := first | omega | simp (disch := omega) only [nI_add, pk_mul, pk_sub, pk_div, znmod, nI_clamp, nIleT, nIleF, nIltT, nIltF, nIeqT, nIeqF, nIm1, nIm1q, zupE, zupN, vpT, nI_01, nI_11, ↓reduceIte, Option.bind_some, Option.toList_some, Option.toList_none, List.cons_append, List.nil_append, Nat.reduceAdd, Nat.reduceMul, Nat.reduceSub, Nat.reduceDiv, Nat.reduceMod, and_true, true_and, and_false, false_and, not_true_eq_false, not_false_eq_true, or_true, true_or, or_false, false_or, Int32.lt_irrefl, Int32.le_refl]) only [nI_add, pk_mul, pk_sub, pk_div, znmod, nI_clamp, nIleT, nIleF, nIltT, nIltF, nIeqT, nIeqF, nIm1, nIm1q, zupE, zupN, vpT, nI_01, nI_11, ↓reduceIte, Option.bind_some, Option.toList_some, Option.toList_none, List.cons_append, List.nil_append, Nat.reduceAdd, Nat.reduceMul, Nat.reduceSub, Nat.reduceDiv, Nat.reduceMod, and_true, true_and, and_false, false_and, not_true_eq_false, not_false_eq_true, or_true, true_or, or_false, false_or, Int32.lt_irrefl, Int32.le_refl, b209_24]
      have S0 : yTn T t B P H hS h0m 0 0 hC m2 := ⟨Y2, by rw [c28]; exact s9, by rw [c28]; exact s10, fun j hj => absurd hj (by omega), fun p hp => z2 p hp⟩
      rcases yLoop (L := L) 3 3 (by omega) (fun d n (x : zH) => zev L (d + 6) 209 26 [some (.inr (.inl (12, 0, 0))), some (.inl (nI n))] [] x) (fun x => x) (yTn T t B P H hS h0m) (fun n i hc x s => ⟨s.1, s.2.1⟩) (fun n i hc x hn s => yKin1 (L := L) G hn s) 16 0 rfl 0 hC m2 (nI P) (nI H) none S0 with ⟨n, i, hc', hm', hn, hz, S, q1, q2⟩ | ⟨hc', hm', q1, q2, F⟩
      · obtain ⟨Y, en, es, hl, hk'⟩ := S
        obtain ⟨i_t, _, _, _, ⟨y4, y5⟩, _, yf, _, _, _, ym⟩ := Y
        obtain ⟨h2, t1, t2, t3, t4, t5⟩ := kListT (L := L) (i0 := 3) (n := 0) (N0 := 0) (h := hc') rfl (by omega) (by omega) es (by omega)
        obtain ⟨gm, u1, u2, u3, u5⟩ := m211_3 (L := L) (hm := zup hm' 12 0 0 12 (nI 0)) (n := n)
        have w32 := l32 _ ym
        refine good n hc' hm' h2 h2 gm hn (fun d => q1 (d + 23)) (fun d => by rw [if_neg (by omega), if_neg (by omega), if_neg (by omega), i3]; exact q2 (d + 2)) t1 (by rw [t2.1]; exact en) (by rw [if_neg (by omega)]) (fun d => by rw [if_neg (by omega)]; exact u1 d) (RelN (P := P) (k := 3) (by omega) R' rM.1.1 (by omega) (fun K i s j a b c d' => by rw [t5 K i (by omega)]; exact uc _ yf K i s j a (by omega) c) (fun s j a b c d' e f a1 a2 a3 a4 => by rw [u5 12 0 s j (by omega), zupN (by omega)]; exact um _ ym s j (by omega) c d' e f a4) (fun q => absurd q (by omega)) (fun q => absurd q (by omega)) (fun q => absurd q (by omega)) (fun _ => ?_) (Or.inl ⟨by omega, fun s j => ?_, ?_⟩) ?_ ?_ ⟨?_, ?_⟩)
        · refine ⟨⟨n, hn, by rw [t2.1]; exact en, u3, fun l hl' => ?_, fun p hp => ?_⟩, t3⟩
          · rw [t2.2 _ (by omega), t2.2 _ (by omega)]; exact hl l hl'
          · rw [u2 p hp, zupN (by omega), hk' p hp]
            congr 1
            exact (yks_c n (fun j hj => t2.2 j (by omega))).symm
        · rw [t5 4 0 (by omega)]; exact uc _ yf 4 0 s j (by omega) (by omega) (by omega)
        · rw [u5 12 0 0 3 (by omega), zupN (by omega)]; exact um _ ym 0 3 (by omega) (by omega) (by omega) (by omega) (by omega) (by omega)
        · rw [t5 7 0 (by omega)]; exact l7 _ yf
        · rw [u5 12 0 0 12 (by omega), zupE (by omega)]
        · rw [u5 12 0 0 32 (by omega), zupN (by omega), w32.1, t5 6 0 (by omega), y4]
        · rw [u5 12 0 0 33 (by omega), zupN (by omega), w32.2, t5 6 0 (by omega), y5]
      · exact bad hc' hm' (fun d => q1 (d + 23)) (fun d => by rw [if_neg (by omega), if_neg (by omega), if_neg (by omega), i3]; exact q2 (d + 2)) F
  · have um0 : yUm hm (zup (ytS hm) 12 0 0 12 (nI 0)) := fun s j q1 q2 q3 q4 q5 q6 => by
      unfold ytS
      rw [zupN (by omega), zupN (by omega), zupN (by omega), zupN (by omega), zupN (by omega), zupN (by omega), zupN (by omega)]
    refine ⟨(-1), hS, zup (ytS hm) 12 0 0 12 (nI 0), ?_, ?_, RelF R' (fun K i s j a b c => s5 K i s j a b c) um0 s6 (by rw [zupE (by omega)]) ⟨?_, ?_⟩⟩
    · refine Eq.trans (s4 (d + 32)) ?_
      simp (disch := first | omega | simp (disch := omega) only [nI_add, pk_mul, pk_sub, pk_div, znmod, nI_clamp, nIleT, nIleF, nIltT, nIltF, nIeqT, nIeqF, nIm1, nIm1q, zupE, zupN, vpT, nI_01, nI_11, ↓reduceIte, Option.bind_some, Option.toList_some, Option.toList_none, List.cons_append, List.nil_append, Nat.reduceAdd, Nat.reduceMul, Nat.reduceSub, Nat.reduceDiv, Nat.reduceMod, and_true, true_and, and_false, false_and, not_true_eq_false, not_false_eq_true, or_true, true_or, or_false, false_or, Int32.lt_irrefl, Int32.le_refl, kw, q]) only [nI_add, pk_mul, pk_sub, pk_div, znmod, nI_clamp, nIleT, nIleF, nIltT, nIltF, nIeqT, nIeqF, nIm1, nIm1q, zupE, zupN, vpT, nI_01, nI_11, ↓reduceIte, Option.bind_some, Option.toList_some, Option.toList_none, List.cons_append, List.nil_append, Nat.reduceAdd, Nat.reduceMul, Nat.reduceSub, Nat.reduceDiv, Nat.reduceMod, and_true, true_and, and_false, false_and, not_true_eq_false, not_false_eq_true, or_true, true_or, or_false, false_or, Int32.lt_irrefl, Int32.le_refl, kw, q, b121_14, b121_20, b121_54]
    · unfold ytS
      simp (disch := first | omega | simp (disch := omega) only [nI_add, pk_mul, pk_sub, pk_div, znmod, nI_clamp, nIleT, nIleF, nIltT, nIltF, nIeqT, nIeqF, nIm1, nIm1q, zupE, zupN, vpT, nI_01, nI_11, ↓reduceIte, Option.bind_some, Option.toList_some, Option.toList_none, List.cons_append, List.nil_append, Nat.reduceAdd, Nat.reduceMul, Nat.reduceSub, Nat.reduceDiv, Nat.reduceMod, and_true, true_and, and_false, false_and, not_true_eq_false, not_false_eq_true, or_true, true_or, or_false, false_or, Int32.lt_irrefl, Int32.le_refl, mIn, q]) only [nI_add, pk_mul, pk_sub, pk_div, znmod, nI_clamp, nIleT, nIleF, nIltT, nIltF, nIeqT, nIeqF, nIm1, nIm1q, zupE, zupN, vpT, nI_01, nI_11, ↓reduceIte, Option.bind_some, Option.toList_some, Option.toList_none, List.cons_append, List.nil_append, Nat.reduceAdd, Nat.reduceMul, Nat.reduceSub, Nat.reduceDiv, Nat.reduceMod, and_true, true_and, and_false, false_and, not_true_eq_false, not_false_eq_true, or_true, true_or, or_false, false_or, Int32.lt_irrefl, Int32.le_refl, mIn, q, b212_0, b212_5, b212_10, b212_15, b212_20, b212_25, b212_30, b212_39, b212_69, b212_74, b212_79]
    · unfold ytS; rw [zupN (by omega), zupN (by omega), zupN (by omega), zupN (by omega), zupN (by omega), zupE (by omega), s8.2.2.1]
    · unfold ytS; rw [zupN (by omega), zupN (by omega), zupN (by omega), zupN (by omega), zupE (by omega), s8.2.2.2]
end UA
