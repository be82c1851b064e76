/-! could: the reference lays one after another off -/
theorem ygl_s {c : Nat → Nat} {w n : Nat} : ygl c w (n + 1) = c w :: ygl c (w + 1) n := rfl
theorem ygs_n {v a : Nat} : ygs v [a] = [ymn v 0 + (a - v)] := by
  show yfc (ymn v 0 + (a - v)) (fun x => x :: ygs v []) = _
  rw [yfc_eq]; rfl
theorem ygs_c {v a b : Nat} {r : List Nat} : ygs v (a :: b :: r) = (ymn v b + (a - v)) :: ygs v (b :: r) := by
  show yfc (ymn v b + (a - v)) (fun x => x :: ygs v (b :: r)) = _
  rw [yfc_eq]
theorem ygv_l {c : Nat → Nat} {v : Nat} (h : ∀ u, 1 ≤ u → u ≤ v → 0 < c u) (h0 : ∀ u, v < u → c u = 0) : ∀ n w, 1 ≤ w → ygv (ygl c w n) = min n (v + 1 - w) ∧ yg1 (ygl c w n) = ygl (fun u => c u - 1) w (min n (v + 1 - w))
  | 0, w, hw => by
    have e : min 0 (v + 1 - w) = 0 := by omega
    rw [e]; exact ⟨rfl, rfl⟩
  | n + 1, w, hw => by
    obtain ⟨i1, i2⟩ := ygv_l h h0 n (w + 1) (by omega)
    by_cases q : w ≤ v
    · obtain ⟨m, hm⟩ : ∃ m, c w = m + 1 := ⟨c w - 1, by have := h w hw q; omega⟩
      have e : min (n + 1) (v + 1 - w) = min n (v + 1 - (w + 1)) + 1 := by omega
      rw [e, ygl_s, hm]
      refine ⟨?_, ?_⟩
      · show Nat.succ (ygv (ygl c (w + 1) n)) = _
        rw [i1]
      · show m :: yg1 (ygl c (w + 1) n) = (c w - 1) :: ygl _ (w + 1) _
        rw [i2, hm]; rfl
    · have e : min (n + 1) (v + 1 - w) = 0 := by omega
      rw [e, ygl_s, h0 w (by omega)]
      exact ⟨rfl, rfl⟩
theorem ygs_l {h : Nat → Nat} {v : Nat} : ∀ n w, h (w + n) = 0 → ygs v (ygl h w n) = ygl (fun u => min v (h (u + 1)) + (h u - v)) w n
  | 0, w, _ => rfl
  | n + 1, w, e => by
    have i := ygs_l (v := v) n (w + 1) (by rw [← e]; congr 1; omega)
    cases n with
    | zero =>
      show ygs v [h w] = [min v (h (w + 1)) + (h w - v)]
      rw [ygs_n, ymn_eq, if_pos (Nat.zero_le v), show h (w + 1) = 0 from e, Nat.min_zero]
    | succ n =>
      show ygs v (h w :: h (w + 1) :: ygl h (w + 1 + 1) n) = (min v (h (w + 1)) + (h w - v)) :: ygl _ (w + 1) (n + 1)
      rw [ygs_c, ← i, ymn_eq]
      congr 1
      split <;> omega
theorem ygl_z {c : Nat → Nat} {k : Nat} : ∀ n w, c (w + n) = 0 → ygv (ygl c w (n + k)) = ygv (ygl c w n) ∧ yg1 (ygl c w (n + k)) = yg1 (ygl c w n)
  | 0, w, e => by
    cases k with
    | zero => exact ⟨rfl, rfl⟩
    | succ k =>
      rw [show 0 + (k + 1) = k + 1 by omega, ygl_s, show c w = 0 from e]
      exact ⟨rfl, rfl⟩
  | n + 1, w, e => by
    obtain ⟨i1, i2⟩ := ygl_z (k := k) n (w + 1) (by rw [← e]; congr 1; omega)
    rw [show n + 1 + k = (n + k) + 1 by omega, ygl_s, ygl_s]
    cases c w with
    | zero => exact ⟨rfl, rfl⟩
    | succ m =>
      refine ⟨?_, ?_⟩
      · show Nat.succ (ygv (ygl c (w + 1) (n + k))) = Nat.succ (ygv (ygl c (w + 1) n))
        rw [i1]
      · show m :: yg1 (ygl c (w + 1) (n + k)) = m :: yg1 (ygl c (w + 1) n)
        rw [i2]
theorem yhh_s {n : Nat} {g : List Nat} : yhh (n + 1) g = if ygv g = 0 then true else match yg1 g with
    | [] => false
    | a :: _ => Bool.and (Nat.ble (ygv g) a) (yhh n (ygs (ygv g) (yg1 g))) := by
  rw [yhh, yfc_eq]
  generalize ygv g = v
  cases v with
  | zero => rfl
  | succ v =>
    rw [if_neg (Nat.succ_ne_zero v)]
    cases yg1 g <;> rfl
theorem yhh_c {n : Nat} {g g' : List Nat} (h1 : ygv g = ygv g') (h2 : yg1 g = yg1 g') : yhh n g = yhh n g' := by
  cases n with
  | zero => rfl
  | succ n => rw [yhh_s, yhh_s, h1, h2]
theorem yg1_le {M : Nat} : ∀ g : List Nat, (∀ a, a ∈ g → a ≤ M + 1) → ∀ a, a ∈ yg1 g → a ≤ M
  | [], _, a, q => by cases q
  | 0 :: r, h, a, q => by cases q
  | (m + 1) :: r, h, a, q => by
    have q' : a ∈ m :: yg1 r := q
    rw [List.mem_cons] at q'
    rcases q' with rfl | q'
    · have := h (a + 1) List.mem_cons_self
      omega
    · exact yg1_le r (fun x hx => h x (List.mem_cons_of_mem _ hx)) a q'
theorem ygs_le {M v : Nat} : ∀ g : List Nat, (∀ a, a ∈ g → a ≤ M) → ∀ a, a ∈ ygs v g → a ≤ M
  | [], _, a, q => by cases q
  | [b], h, a, q => by
    have hb := h b List.mem_cons_self
    rw [ygs_n, List.mem_cons, ymn_eq, if_pos (Nat.zero_le v)] at q
    rcases q with q | q
    · omega
    · cases q
  | b :: b' :: r, h, a, q => by
    have hb := h b List.mem_cons_self
    have hb' := h b' (List.mem_cons_of_mem _ List.mem_cons_self)
    rw [ygs_c, List.mem_cons, ymn_eq] at q
    rcases q with q | q
    · split at q <;> omega
    · exact ygs_le (b' :: r) (fun x hx => h x (List.mem_cons_of_mem _ hx)) a q
theorem ygv_0 : ∀ g : List Nat, (∀ a, a ∈ g → a ≤ 0) → ygv g = 0
  | [], _ => rfl
  | 0 :: r, _ => rfl
  | (m + 1) :: r, h => by have := h (m + 1) List.mem_cons_self; omega
theorem yhh_up {k : Nat} : ∀ n (g : List Nat), (∀ a, a ∈ g → a ≤ n) → yhh (n + k) g = yhh n g
  | 0, g, h => by
    rw [Nat.zero_add]
    cases k with
    | zero => rfl
    | succ k => rw [yhh_s, if_pos (ygv_0 g h)]; rfl
  | n + 1, g, h => by
    rw [show n + 1 + k = (n + k) + 1 by omega, yhh_s, yhh_s, yhh_up n _ (ygs_le _ (yg1_le g h))]
/-- how many that are not laid off are w at least -/
def ycm (E : Nat → Nat) (m N w : Nat) : Nat := ycnt (fun i => if m.testBit i = false ∧ w ≤ E i then 1 else 0) N
theorem ytb {m r i : Nat} : (m ||| 2 ^ r).testBit i = (m.testBit i || decide (r = i)) := by rw [Nat.testBit_or, Nat.testBit_two_pow]
theorem ycm_m {E : Nat → Nat} {m N r w : Nat} (hr : r < N) (h : m.testBit r = false) : ycm E (m ||| 2 ^ r) N w + (if w ≤ E r then 1 else 0) = ycm E m N w := by
  have := ycnt_x (f := fun i => if (m ||| 2 ^ r).testBit i = false ∧ w ≤ E i then 1 else 0) (g := fun i => if m.testBit i = false ∧ w ≤ E i then 1 else 0) (r := r) N hr (fun i hi hn => by
    show (if (m ||| 2 ^ r).testBit i = false ∧ w ≤ E i then 1 else 0) = (if m.testBit i = false ∧ w ≤ E i then 1 else 0)
    rw [ytb, decide_eq_false (fun q => hn q.symm), Bool.or_false])
  have t : ycm E (m ||| 2 ^ r) N w + (if m.testBit r = false ∧ w ≤ E r then 1 else 0) = ycm E m N w + (if (m ||| 2 ^ r).testBit r = false ∧ w ≤ E r then 1 else 0) := this
  have e1 : (if (m ||| 2 ^ r).testBit r = false ∧ w ≤ E r then 1 else 0) = 0 := if_neg (fun q => by
    have q1 := q.1
    rw [ytb, h, decide_eq_true rfl] at q1
    cases q1)
  have e2 : (if m.testBit r = false ∧ w ≤ E r then 1 else 0) = if w ≤ E r then 1 else 0 := by
    by_cases c : w ≤ E r
    · rw [if_pos ⟨h, c⟩, if_pos c]
    · rw [if_neg (fun q => c q.2), if_neg c]
  rw [e1, e2] at t
  exact t
theorem ycm_e {E E' : Nat → Nat} {m N r w : Nat} (hr : r < N) (h : m.testBit r = false) (he : ∀ i, i ≠ r → E' i = E i) : ycm E' m N w + (if w ≤ E r then 1 else 0) = ycm E m N w + (if w ≤ E' r then 1 else 0) := by
  have := ycnt_x (f := fun i => if m.testBit i = false ∧ w ≤ E' i then 1 else 0) (g := fun i => if m.testBit i = false ∧ w ≤ E i then 1 else 0) (r := r) N hr (fun i hi hn => by
    show (if m.testBit i = false ∧ w ≤ E' i then 1 else 0) = (if m.testBit i = false ∧ w ≤ E i then 1 else 0)
    rw [he i hn])
  have t : ycm E' m N w + (if m.testBit r = false ∧ w ≤ E r then 1 else 0) = ycm E m N w + (if m.testBit r = false ∧ w ≤ E' r then 1 else 0) := this
  have e2 : ∀ x, (if m.testBit r = false ∧ w ≤ x then 1 else 0) = if w ≤ x then 1 else 0 := fun x => by
    by_cases c : w ≤ x
    · rw [if_pos ⟨h, c⟩, if_pos c]
    · rw [if_neg (fun q => c q.2), if_neg c]
  rw [e2, e2] at t
  exact t
theorem ycm_c {E E' : Nat → Nat} {m N w : Nat} (h : ∀ i, i < N → m.testBit i = false → E' i = E i) : ycm E' m N w = ycm E m N w := ycnt_c (fun i hi => by
  by_cases q : m.testBit i = false
  · rw [h i hi q]
  · rw [if_neg (fun x => q x.1), if_neg (fun x => q x.1)])
theorem ycm_max {E : Nat → Nat} {m N r w : Nat} (hr : r < N) (h : m.testBit r = false) (hx : ∀ i, i < N → m.testBit i = false → E i ≤ E r) : 0 < ycm E m N w ↔ w ≤ E r := by
  constructor
  · intro q
    apply Classical.byContradiction
    intro c
    have : ycm E m N w = 0 := ycnt_z (fun i hi => if_neg (fun x => by have := hx i hi x.1; omega))
    omega
  · intro q
    exact ycnt_p (r := r) hr (by show 0 < (if _ then 1 else 0); rw [if_pos ⟨h, q⟩]; omega)
theorem ycm_0 {E : Nat → Nat} {m N w : Nat} (h : ∀ i, i < N → m.testBit i = true) : ycm E m N w = 0 := ycnt_z (fun i hi => if_neg (fun x => by rw [h i hi] at x; cases x.1))
section CM
variable {L : Nat} {hm : zH} {N : Nat}
theorem y254 {g : zH} {E : Nat → Nat} {m : Nat} (hN : N ≤ 9) (hm9 : m < 2 ^ 9) (e51 : g 12 0 0 51 = nI N) (hE : ∀ i, i < N → g 12 0 54 i = nI (E i) ∧ E i ≤ 8) : ∃ x, (∀ d, zev L (d + 1) 254 0 [some (.inr (.inl (12, 0, 0))), some (.inl (nI m)), none, none] [] g = some (some (.inl x), g)) ∧ ((x = (-1) ∧ ∀ i, i < N → m.testBit i = true) ∨ ∃ r, r < N ∧ x = nI r ∧ m.testBit r = false ∧ ∀ i, i < N → m.testBit i = false → E i ≤ E r) := by
  obtain ⟨x, e, hx⟩ := zinv (P := fun j (x : Int32) => fun d => zev L (d + 1) 254 4 [some (.inr (.inl (12, 0, 0))), some (.inl (nI m)), some (.inl x), some (.inl (nI j))] [] g) (R := fun j x => (x = (-1) ∧ ∀ i, i < j → m.testBit i = true) ∨ ∃ r, r < j ∧ x = nI r ∧ m.testBit r = false ∧ ∀ i, i < j → m.testBit i = false → E i ≤ E r) (N := N) (fun j x hj hr => by
    have hb := fun d => mHasB (L := L) (d := d) (h := g) (s := m) (k := j) (by omega) (by omega)
    obtain ⟨ej, lj⟩ := hE j hj
    by_cases tb : m.testBit j = true
    · refine ⟨x, funext fun d => b254_4.trans ?_, ?_⟩
      · simp (disch := first | omega | simp (disch := omega) only [nI_add, pk_mul, pk_sub, pk_div, znmod, nI_clamp, nIleT, nIleF, nIltT, nIltF, nIeqT, nIeqF, nIm1, nIm1q, zupE, zupN, vpT, nI_01, nI_11, ↓reduceIte, Option.bind_some, Option.toList_some, Option.toList_none, List.cons_append, List.nil_append, Nat.reduceAdd, Nat.reduceMul, Nat.reduceSub, Nat.reduceDiv, Nat.reduceMod, and_true, true_and, and_false, false_and, not_true_eq_false, not_false_eq_true, or_true, true_or, or_false, false_or, Int32.lt_irrefl, Int32.le_refl, e51, hb, tb, Bool.toNat_true]) only [nI_add, pk_mul, pk_sub, pk_div, znmod, nI_clamp, nIleT, nIleF, nIltT, nIltF, nIeqT, nIeqF, nIm1, nIm1q, zupE, zupN, vpT, nI_01, nI_11, ↓reduceIte, Option.bind_some, Option.toList_some, Option.toList_none, List.cons_append, List.nil_append, Nat.reduceAdd, Nat.reduceMul, Nat.reduceSub, Nat.reduceDiv, Nat.reduceMod, and_true, true_and, and_false, false_and, not_true_eq_false, not_false_eq_true, or_true, true_or, or_false, false_or, Int32.lt_irrefl, Int32.le_refl, e51, hb, tb, Bool.toNat_true, b254_12, b254_18, b254_43]
      · rcases hr with ⟨rfl, q⟩ | ⟨r, h1, h2, h3, h4⟩
        · exact Or.inl ⟨rfl, fun i hi => by
            by_cases c : i = j
            · rw [c]; exact tb
            · exact q i (by omega)⟩
        · exact Or.inr ⟨r, by omega, h2, h3, fun i hi hf => by
            by_cases c : i = j
            · rw [c, tb] at hf; cases hf
            · exact h4 i (by omega) hf⟩
    · have tb : m.testBit j = false := by cases hh : m.testBit j with
        | true => exact absurd hh tb
        | false => rfl
      rcases hr with ⟨rfl, q⟩ | ⟨r, h1, rfl, h3, h4⟩
      · refine ⟨nI j, funext fun d => b254_4.trans ?_, Or.inr ⟨j, by omega, rfl, tb, fun i hi hf => ?_⟩⟩
        · simp (disch := first | omega | simp (disch := omega) only [nI_add, pk_mul, pk_sub, pk_div, znmod, nI_clamp, nIleT, nIleF, nIltT, nIltF, nIeqT, nIeqF, nIm1, nIm1q, zupE, zupN, vpT, nI_01, nI_11, ↓reduceIte, Option.bind_some, Option.toList_some, Option.toList_none, List.cons_append, List.nil_append, Nat.reduceAdd, Nat.reduceMul, Nat.reduceSub, Nat.reduceDiv, Nat.reduceMod, and_true, true_and, and_false, false_and, not_true_eq_false, not_false_eq_true, or_true, true_or, or_false, false_or, Int32.lt_irrefl, Int32.le_refl, e51, hb, tb, Bool.toNat_false]) only [nI_add, pk_mul, pk_sub, pk_div, znmod, nI_clamp, nIleT, nIleF, nIltT, nIltF, nIeqT, nIeqF, nIm1, nIm1q, zupE, zupN, vpT, nI_01, nI_11, ↓reduceIte, Option.bind_some, Option.toList_some, Option.toList_none, List.cons_append, List.nil_append, Nat.reduceAdd, Nat.reduceMul, Nat.reduceSub, Nat.reduceDiv, Nat.reduceMod, and_true, true_and, and_false, false_and, not_true_eq_false, not_false_eq_true, or_true, true_or, or_false, false_or, Int32.lt_irrefl, Int32.le_refl, e51, hb, tb, Bool.toNat_false, b254_12, b254_18, b254_21, b254_41, b254_43]
        · by_cases c : i = j
          · rw [c]; exact Nat.le_refl _
          · rw [q i (by omega)] at hf; cases hf
      · obtain ⟨er, lr⟩ := hE r (by omega)
        by_cases c : E j ≤ E r
        · refine ⟨nI r, funext fun d => b254_4.trans ?_, Or.inr ⟨r, by omega, rfl, h3, fun i hi hf => ?_⟩⟩
          · simp (disch := first | omega | simp (disch := omega) only [nI_add, pk_mul, pk_sub, pk_div, znmod, nI_clamp, nIleT, nIleF, nIltT, nIltF, nIeqT, nIeqF, nIm1, nIm1q, zupE, zupN, vpT, nI_01, nI_11, ↓reduceIte, Option.bind_some, Option.toList_some, Option.toList_none, List.cons_append, List.nil_append, Nat.reduceAdd, Nat.reduceMul, Nat.reduceSub, Nat.reduceDiv, Nat.reduceMod, and_true, true_and, and_false, false_and, not_true_eq_false, not_false_eq_true, or_true, true_or, or_false, false_or, Int32.lt_irrefl, Int32.le_refl, e51, hb, tb, Bool.toNat_false, ej, er]) only [nI_add, pk_mul, pk_sub, pk_div, znmod, nI_clamp, nIleT, nIleF, nIltT, nIltF, nIeqT, nIeqF, nIm1, nIm1q, zupE, zupN, vpT, nI_01, nI_11, ↓reduceIte, Option.bind_some, Option.toList_some, Option.toList_none, List.cons_append, List.nil_append, Nat.reduceAdd, Nat.reduceMul, Nat.reduceSub, Nat.reduceDiv, Nat.reduceMod, and_true, true_and, and_false, false_and, not_true_eq_false, not_false_eq_true, or_true, true_or, or_false, false_or, Int32.lt_irrefl, Int32.le_refl, e51, hb, tb, Bool.toNat_false, ej, er, b254_12, b254_18, b254_21, b254_26, b254_43]
          · by_cases c2 : i = j
            · rw [c2]; exact c
            · exact h4 i (by omega) hf
        · refine ⟨nI j, funext fun d => b254_4.trans ?_, Or.inr ⟨j, by omega, rfl, tb, fun i hi hf => ?_⟩⟩
          · simp (disch := first | omega | simp (disch := omega) only [nI_add, pk_mul, pk_sub, pk_div, znmod, nI_clamp, nIleT, nIleF, nIltT, nIltF, nIeqT, nIeqF, nIm1, nIm1q, zupE, zupN, vpT, nI_01, nI_11, ↓reduceIte, Option.bind_some, Option.toList_some, Option.toList_none, List.cons_append, List.nil_append, Nat.reduceAdd, Nat.reduceMul, Nat.reduceSub, Nat.reduceDiv, Nat.reduceMod, and_true, true_and, and_false, false_and, not_true_eq_false, not_false_eq_true, or_true, true_or, or_false, false_or, Int32.lt_irrefl, Int32.le_refl, e51, hb, tb, Bool.toNat_false, ej, er]) only [nI_add, pk_mul, pk_sub, pk_div, znmod, nI_clamp, nIleT, nIleF, nIltT, nIltF, nIeqT, nIeqF, nIm1, nIm1q, zupE, zupN, vpT, nI_01, nI_11, ↓reduceIte, Option.bind_some, Option.toList_some, Option.toList_none, List.cons_append, List.nil_append, Nat.reduceAdd, Nat.reduceMul, Nat.reduceSub, Nat.reduceDiv, Nat.reduceMod, and_true, true_and, and_false, false_and, not_true_eq_false, not_false_eq_true, or_true, true_or, or_false, false_or, Int32.lt_irrefl, Int32.le_refl, e51, hb, tb, Bool.toNat_false, ej, er, b254_12, b254_18, b254_21, b254_26, b254_41, b254_43]
          · by_cases c2 : i = j
            · rw [c2]; exact Nat.le_refl _
            · have := h4 i (by omega) hf
              omega) N (Nat.le_refl N) (-1) (Or.inl ⟨rfl, fun i hi => absurd hi (by omega)⟩)
  refine ⟨x, fun d => b254_0.trans (Eq.trans (congrFun e d) (b254_4.trans ?_)), hx⟩
  simp (disch := first | omega | simp (disch := omega) only [nI_add, pk_mul, pk_sub, pk_div, znmod, nI_clamp, nIleT, nIleF, nIltT, nIltF, nIeqT, nIeqF, nIm1, nIm1q, zupE, zupN, vpT, nI_01, nI_11, ↓reduceIte, Option.bind_some, Option.toList_some, Option.toList_none, List.cons_append, List.nil_append, Nat.reduceAdd, Nat.reduceMul, Nat.reduceSub, Nat.reduceDiv, Nat.reduceMod, and_true, true_and, and_false, false_and, not_true_eq_false, not_false_eq_true, or_true, true_or, or_false, false_or, Int32.lt_irrefl, Int32.le_refl, e51]) only [nI_add, pk_mul, pk_sub, pk_div, znmod, nI_clamp, nIleT, nIleF, nIltT, nIltF, nIeqT, nIeqF, nIm1, nIm1q, zupE, zupN, vpT, nI_01, nI_11, ↓reduceIte, Option.bind_some, Option.toList_some, Option.toList_none, List.cons_append, List.nil_append, Nat.reduceAdd, Nat.reduceMul, Nat.reduceSub, Nat.reduceDiv, Nat.reduceMod, and_true, true_and, and_false, false_and, not_true_eq_false, not_false_eq_true, or_true, true_or, or_false, false_or, Int32.lt_irrefl, Int32.le_refl, e51, b254_49]
theorem y255i (hN : N ≤ 9) {x2 x3 : Int32} {m1 v : Nat} {h : Nat → Nat} (hv : v ≤ 8) : ∀ u s, u + s = v → ∀ (m : Nat) (E : Nat → Nat) (g : zH) (a6 : Option zV), yM hm g → g 12 0 0 51 = nI N → (∀ i, i < N → g 12 0 54 i = nI (E i) ∧ E i ≤ 8) → m < 2 ^ 9 → (∀ i, m1.testBit i = true → m.testBit i = true) → (∀ w, ycm E m N w = h w - s) → (∀ w, 1 ≤ w → ycm E m1 N w = min s (h (w + 1)) + (h w - s)) → s ≤ h 1 →
    (v ≤ h 1 ∧ ∃ m' E' g' b6, (∀ d, zev L (d + 2) 255 68 [some (.inr (.inl (12, 0, 0))), some (.inl (nI m1)), some (.inl x2), some (.inl x3), some (.inl (nI m)), some (.inl (nI u)), a6] [] g = zev L (d + 2) 255 130 [some (.inr (.inl (12, 0, 0))), some (.inl (nI m1)), some (.inl x2), some (.inl x3), some (.inl (nI m')), some (.inl (nI 0)), b6] [] g') ∧ yM hm g' ∧ g' 12 0 0 51 = nI N ∧ (∀ i, i < N → g' 12 0 54 i = nI (E' i) ∧ E' i ≤ 8) ∧ (∀ w, 1 ≤ w → ycm E' m1 N w = min v (h (w + 1)) + (h w - v))) ∨
    (¬ v ≤ h 1 ∧ ∃ g', (∀ d, zev L (d + 2) 255 68 [some (.inr (.inl (12, 0, 0))), some (.inl (nI m1)), some (.inl x2), some (.inl x3), some (.inl (nI m)), some (.inl (nI u)), a6] [] g = some (some (.inl (nI 0)), g')) ∧ yM hm g')
  | 0, s, hu, m, E, g, a6, y, e51, hE, hm9, hs, hr, hc, hl => by
    have : s = v := by omega
    subst this
    refine Or.inl ⟨hl, m, E, g, a6, fun d => b255_68.trans ?_, y, e51, hE, hc⟩
    simp (disch := first | omega | simp (disch := omega) only [nI_add, pk_mul, pk_sub, pk_div, znmod, nI_clamp, nIleT, nIleF, nIltT, nIltF, nIeqT, nIeqF, nIm1, nIm1q, zupE, zupN, vpT, nI_01, nI_11, ↓reduceIte, Option.bind_some, Option.toList_some, Option.toList_none, List.cons_append, List.nil_append, Nat.reduceAdd, Nat.reduceMul, Nat.reduceSub, Nat.reduceDiv, Nat.reduceMod, and_true, true_and, and_false, false_and, not_true_eq_false, not_false_eq_true, or_true, true_or, or_false, false_or, Int32.lt_irrefl, Int32.le_refl]) only [nI_add, pk_mul, pk_sub, pk_div, znmod, nI_clamp, nIleT, nIleF, nIltT, nIltF, nIeqT, nIeqF, nIm1, nIm1q, zupE, zupN, vpT, nI_01, nI_11, ↓reduceIte, Option.bind_some, Option.toList_some, Option.toList_none, List.cons_append, List.nil_append, Nat.reduceAdd, Nat.reduceMul, Nat.reduceSub, Nat.reduceDiv, Nat.reduceMod, and_true, true_and, and_false, false_and, not_true_eq_false, not_false_eq_true, or_true, true_or, or_false, false_or, Int32.lt_irrefl, Int32.le_refl]
  | u + 1, s, hu, m, E, g, a6, y, e51, hE, hm9, hs, hr, hc, hl => by
    obtain ⟨x, e4, hx⟩ := y254 (L := L) hN hm9 e51 hE
    have e4' : ∀ d, zev L (d + 1) 254 0 [some (.inr (.inl (12, 0, 0))), some (.inl (nI m)), none, none] [] g = some (some (.inl x), g) := e4
    rcases hx with ⟨rfl, q⟩ | ⟨r, h1, rfl, h3, h4⟩
    · have z := hr 1
      rw [ycm_0 q] at z
      refine Or.inr ⟨by omega, g, fun d => b255_68.trans ?_, y⟩
      simp (disch := first | omega | simp (disch := omega) only [nI_add, pk_mul, pk_sub, pk_div, znmod, nI_clamp, nIleT, nIleF, nIltT, nIltF, nIeqT, nIeqF, nIm1, nIm1q, zupE, zupN, vpT, nI_01, nI_11, ↓reduceIte, Option.bind_some, Option.toList_some, Option.toList_none, List.cons_append, List.nil_append, Nat.reduceAdd, Nat.reduceMul, Nat.reduceSub, Nat.reduceDiv, Nat.reduceMod, and_true, true_and, and_false, false_and, not_true_eq_false, not_false_eq_true, or_true, true_or, or_false, false_or, Int32.lt_irrefl, Int32.le_refl, e4]) only [nI_add, pk_mul, pk_sub, pk_div, znmod, nI_clamp, nIleT, nIleF, nIltT, nIltF, nIeqT, nIeqF, nIm1, nIm1q, zupE, zupN, vpT, nI_01, nI_11, ↓reduceIte, Option.bind_some, Option.toList_some, Option.toList_none, List.cons_append, List.nil_append, Nat.reduceAdd, Nat.reduceMul, Nat.reduceSub, Nat.reduceDiv, Nat.reduceMod, and_true, true_and, and_false, false_and, not_true_eq_false, not_false_eq_true, or_true, true_or, or_false, false_or, Int32.lt_irrefl, Int32.le_refl, e4, b255_73, b255_79, b255_97]
    · obtain ⟨er, lr⟩ := hE r h1
      by_cases c : E r = 0
      · have z := hr 1
        have z2 := ycm_max (w := 1) h1 h3 h4
        refine Or.inr ⟨by omega, g, fun d => b255_68.trans ?_, y⟩
        simp (disch := first | omega | simp (disch := omega) only [nI_add, pk_mul, pk_sub, pk_div, znmod, nI_clamp, nIleT, nIleF, nIltT, nIltF, nIeqT, nIeqF, nIm1, nIm1q, zupE, zupN, vpT, nI_01, nI_11, ↓reduceIte, Option.bind_some, Option.toList_some, Option.toList_none, List.cons_append, List.nil_append, Nat.reduceAdd, Nat.reduceMul, Nat.reduceSub, Nat.reduceDiv, Nat.reduceMod, and_true, true_and, and_false, false_and, not_true_eq_false, not_false_eq_true, or_true, true_or, or_false, false_or, Int32.lt_irrefl, Int32.le_refl, e4, er, c]) only [nI_add, pk_mul, pk_sub, pk_div, znmod, nI_clamp, nIleT, nIleF, nIltT, nIltF, nIeqT, nIeqF, nIm1, nIm1q, zupE, zupN, vpT, nI_01, nI_11, ↓reduceIte, Option.bind_some, Option.toList_some, Option.toList_none, List.cons_append, List.nil_append, Nat.reduceAdd, Nat.reduceMul, Nat.reduceSub, Nat.reduceDiv, Nat.reduceMod, and_true, true_and, and_false, false_and, not_true_eq_false, not_false_eq_true, or_true, true_or, or_false, false_or, Int32.lt_irrefl, Int32.le_refl, e4, er, c, b255_73, b255_79, b255_87, b255_97]
      · have h3' : m1.testBit r = false := by
          cases hh : m1.testBit r with
          | false => rfl
          | true => rw [hs r hh] at h3; cases h3
        have p2 := z2p (n := 9) (show r < 9 by omega)
        have i := y255i hN (x2 := x2) (x3 := x3) (m1 := m1) (h := h) hv u (s + 1) (by omega) (m ||| 2 ^ r) (fun i => if i = r then E r - 1 else E i) (zup g 12 0 54 r (nI (E r - 1))) (some (.inl (nI r)))
          (yM_u y rfl) (by rw [zupN (by omega)]; exact e51)
          (fun i hi => by
            by_cases q : i = r
            · subst q
              rw [zupE (by omega), if_pos rfl]
              exact ⟨rfl, by omega⟩
            · rw [zupN (by omega), if_neg q]
              exact hE i hi)
          (zOrLt hm9 p2)
          (fun i hi => by rw [ytb, hs i hi]; rfl)
          (fun w => by
            have z1 := ycm_m (E := E) (w := w) h1 h3
            have z2 := ycm_max (w := w) h1 h3 h4
            have z3 := hr w
            have z4 : ycm (fun i => if i = r then E r - 1 else E i) (m ||| 2 ^ r) N w = ycm E (m ||| 2 ^ r) N w := ycm_c (fun i hi hf => by
              by_cases q : i = r
              · subst q; rw [ytb, decide_eq_true rfl, Bool.or_true] at hf; cases hf
              · exact if_neg q)
            rw [z4]
            split at z1 <;> omega)
          (fun w hw => by
            have z1 := ycm_e (E := E) (E' := fun i => if i = r then E r - 1 else E i) (m := m1) (w := w) h1 h3' (fun i hi => if_neg hi)
            have z2 := ycm_max (w := w) h1 h3 h4
            have z3 := ycm_max (w := w + 1) h1 h3 h4
            have z4 := hr w
            have z5 := hr (w + 1)
            have z6 := hc w hw
            simp only [if_pos] at z1
            by_cases q1 : w ≤ E r
            · rw [if_pos q1] at z1
              by_cases q2 : w ≤ E r - 1
              · rw [if_pos q2] at z1; omega
              · rw [if_neg q2] at z1; omega
            · rw [if_neg q1, if_neg (by omega)] at z1; omega)
          (by
            have z := hr 1
            have z2 := ycm_max (w := 1) h1 h3 h4
            omega)
        have p31 := z2p (n := 31) (show r < 31 by omega)
        have st : ∀ d, zev L (d + 2) 255 68 [some (.inr (.inl (12, 0, 0))), some (.inl (nI m1)), some (.inl x2), some (.inl x3), some (.inl (nI m)), some (.inl (nI (u + 1))), a6] [] g = zev L (d + 2) 255 68 [some (.inr (.inl (12, 0, 0))), some (.inl (nI m1)), some (.inl x2), some (.inl x3), some (.inl (nI (m ||| 2 ^ r))), some (.inl (nI u)), some (.inl (nI r))] [] (zup g 12 0 54 r (nI (E r - 1))) := fun d => by
          refine b255_68.trans ?_
          simp (disch := first | omega | simp (disch := omega) only [nI_add, pk_mul, pk_sub, pk_div, znmod, nI_clamp, nIleT, nIleF, nIltT, nIltF, nIeqT, nIeqF, nIm1, nIm1q, zupE, zupN, vpT, nI_01, nI_11, ↓reduceIte, Option.bind_some, Option.toList_some, Option.toList_none, List.cons_append, List.nil_append, Nat.reduceAdd, Nat.reduceMul, Nat.reduceSub, Nat.reduceDiv, Nat.reduceMod, and_true, true_and, and_false, false_and, not_true_eq_false, not_false_eq_true, or_true, true_or, or_false, false_or, Int32.lt_irrefl, Int32.le_refl, e4, er, zShl, zOr, ydec]) only [nI_add, pk_mul, pk_sub, pk_div, znmod, nI_clamp, nIleT, nIleF, nIltT, nIltF, nIeqT, nIeqF, nIm1, nIm1q, zupE, zupN, vpT, nI_01, nI_11, ↓reduceIte, Option.bind_some, Option.toList_some, Option.toList_none, List.cons_append, List.nil_append, Nat.reduceAdd, Nat.reduceMul, Nat.reduceSub, Nat.reduceDiv, Nat.reduceMod, and_true, true_and, and_false, false_and, not_true_eq_false, not_false_eq_true, or_true, true_or, or_false, false_or, Int32.lt_irrefl, Int32.le_refl, e4, er, zShl, zOr, ydec, b255_73, b255_79, b255_87, b255_99, b255_115]
        rcases i with ⟨i1, m', E', g', b6, i2, i3, i4, i5, i6⟩ | ⟨i1, g', i2, i3⟩
        · exact Or.inl ⟨i1, m', E', g', b6, fun d => (st d).trans (i2 d), i3, i4, i5, i6⟩
        · exact Or.inr ⟨i1, g', fun d => (st d).trans (i2 d), i3⟩
theorem y255l (hN : N ≤ 9) : ∀ R t, t + R = N → ∀ (m : Nat) (E c : Nat → Nat) (g : zH) (a3 a4 a5 a6 : Option zV), yM hm g → g 12 0 0 51 = nI N → (∀ i, i < N → g 12 0 54 i = nI (E i) ∧ E i ≤ 8) → m < 2 ^ 9 → ycm E m N 0 = R → (∀ w, 1 ≤ w → ycm E m N w = c w) →
    ∃ g', (∀ d, zev L (d + 2) 255 37 [some (.inr (.inl (12, 0, 0))), some (.inl (nI m)), some (.inl (nI t)), a3, a4, a5, a6] [] g = some (some (.inl (nI (yhh R (ygl c 1 8)).toNat)), g')) ∧ yM hm g'
  | 0, t, ht, m, E, c, g, a3, a4, a5, a6, y, e51, hE, hm9, hr, hc => by
    have : t = N := by omega
    subst this
    refine ⟨g, fun d => b255_37.trans ?_, y⟩
    simp (disch := first | omega | simp (disch := omega) only [nI_add, pk_mul, pk_sub, pk_div, znmod, nI_clamp, nIleT, nIleF, nIltT, nIltF, nIeqT, nIeqF, nIm1, nIm1q, zupE, zupN, vpT, nI_01, nI_11, ↓reduceIte, Option.bind_some, Option.toList_some, Option.toList_none, List.cons_append, List.nil_append, Nat.reduceAdd, Nat.reduceMul, Nat.reduceSub, Nat.reduceDiv, Nat.reduceMod, and_true, true_and, and_false, false_and, not_true_eq_false, not_false_eq_true, or_true, true_or, or_false, false_or, Int32.lt_irrefl, Int32.le_refl, e51]) only [nI_add, pk_mul, pk_sub, pk_div, znmod, nI_clamp, nIleT, nIleF, nIltT, nIltF, nIeqT, nIeqF, nIm1, nIm1q, zupE, zupN, vpT, nI_01, nI_11, ↓reduceIte, Option.bind_some, Option.toList_some, Option.toList_none, List.cons_append, List.nil_append, Nat.reduceAdd, Nat.reduceMul, Nat.reduceSub, Nat.reduceDiv, Nat.reduceMod, and_true, true_and, and_false, false_and, not_true_eq_false, not_false_eq_true, or_true, true_or, or_false, false_or, Int32.lt_irrefl, Int32.le_refl, e51, b255_136]
    rfl
  | R + 1, t, ht, m, E, c, g, a3, a4, a5, a6, y, e51, hE, hm9, hr, hc => by
    obtain ⟨x, e4, hx⟩ := y254 (L := L) hN hm9 e51 hE
    rcases hx with ⟨rfl, q⟩ | ⟨r, h1, rfl, h3, h4⟩
    · rw [ycm_0 q] at hr; omega
    · obtain ⟨er, lr⟩ := hE r h1
      have p2 := z2p (n := 9) (show r < 9 by omega)
      have p31 := z2p (n := 31) (show r < 31 by omega)
      have hm9' := zOrLt hm9 p2
      have r0 := ycm_m (E := E) (w := 0) h1 h3
      rw [if_pos (Nat.zero_le _)] at r0
      have st : ∀ d, zev L (d + 2) 255 37 [some (.inr (.inl (12, 0, 0))), some (.inl (nI m)), some (.inl (nI t)), a3, a4, a5, a6] [] g = zev L (d + 2) 255 68 [some (.inr (.inl (12, 0, 0))), some (.inl (nI (m ||| 2 ^ r))), some (.inl (nI t)), some (.inl (nI r)), some (.inl (nI (m ||| 2 ^ r))), some (.inl (nI (E r))), a6] [] g := fun d => by
        refine b255_37.trans ?_
        simp (disch := first | omega | simp (disch := omega) only [nI_add, pk_mul, pk_sub, pk_div, znmod, nI_clamp, nIleT, nIleF, nIltT, nIltF, nIeqT, nIeqF, nIm1, nIm1q, zupE, zupN, vpT, nI_01, nI_11, ↓reduceIte, Option.bind_some, Option.toList_some, Option.toList_none, List.cons_append, List.nil_append, Nat.reduceAdd, Nat.reduceMul, Nat.reduceSub, Nat.reduceDiv, Nat.reduceMod, and_true, true_and, and_false, false_and, not_true_eq_false, not_false_eq_true, or_true, true_or, or_false, false_or, Int32.lt_irrefl, Int32.le_refl, e51, e4, er, zShl, zOr]) only [nI_add, pk_mul, pk_sub, pk_div, znmod, nI_clamp, nIleT, nIleF, nIltT, nIltF, nIeqT, nIeqF, nIm1, nIm1q, zupE, zupN, vpT, nI_01, nI_11, ↓reduceIte, Option.bind_some, Option.toList_some, Option.toList_none, List.cons_append, List.nil_append, Nat.reduceAdd, Nat.reduceMul, Nat.reduceSub, Nat.reduceDiv, Nat.reduceMod, and_true, true_and, and_false, false_and, not_true_eq_false, not_false_eq_true, or_true, true_or, or_false, false_or, Int32.lt_irrefl, Int32.le_refl, e51, e4, er, zShl, zOr, b255_45, b255_50]
      -- the counts of those not laid off
      have cp : ∀ u, 1 ≤ u → u ≤ E r → 0 < c u := fun u h1' h2' => by rw [← hc u h1']; exact (ycm_max h1 h3 h4).2 h2'
      have cz : ∀ u, E r < u → c u = 0 := fun u hu => by
        have := ycm_max (w := u) h1 h3 h4
        rw [hc u (by omega)] at this
        omega
      have hh : ∀ w, 1 ≤ w → ycm E (m ||| 2 ^ r) N w = c w - 1 := fun w hw => by
        have z := ycm_m (E := E) (w := w) h1 h3
        rw [hc w hw] at z
        have z2 := cz w
        split at z <;> omega
      obtain ⟨v1, v2⟩ := ygv_l cp cz 8 1 (Nat.le_refl 1)
      have em : min 8 (E r + 1 - 1) = E r := by omega
      rw [em] at v1 v2
      by_cases c0 : E r = 0
      · obtain ⟨g', i1, i2⟩ := y255l hN R (t + 1) (by omega) (m ||| 2 ^ r) E (fun w => c w - 1) g (some (.inl (nI r))) (some (.inl (nI (m ||| 2 ^ r)))) (some (.inl (nI (E r)))) a6 y e51 hE hm9' (by omega) hh
        refine ⟨g', fun d => (st d).trans (b255_68.trans ?_), i2⟩
        have ez : yhh R (ygl (fun w => c w - 1) 1 8) = true := by
          cases R with
          | zero => rfl
          | succ R => rw [yhh_s, (ygv_l (c := fun w => c w - 1) (v := 0) (fun u a b => by omega) (fun u hu => by show c u - 1 = 0; rw [cz u (by omega)]) 8 1 (Nat.le_refl 1)).1, if_pos (by omega)]
        rw [ez] at i1
        have e1 : yhh (R + 1) (ygl c 1 8) = true := by rw [yhh_s, v1, if_pos c0]
        rw [e1]
        rw [c0] at i1 ⊢
        simp (disch := first | omega | simp (disch := omega) only [nI_add, pk_mul, pk_sub, pk_div, znmod, nI_clamp, nIleT, nIleF, nIltT, nIltF, nIeqT, nIeqF, nIm1, nIm1q, zupE, zupN, vpT, nI_01, nI_11, ↓reduceIte, Option.bind_some, Option.toList_some, Option.toList_none, List.cons_append, List.nil_append, Nat.reduceAdd, Nat.reduceMul, Nat.reduceSub, Nat.reduceDiv, Nat.reduceMod, and_true, true_and, and_false, false_and, not_true_eq_false, not_false_eq_true, or_true, true_or, or_false, false_or, Int32.lt_irrefl, Int32.le_refl, i1]) only [nI_add, pk_mul, pk_sub, pk_div, znmod, nI_clamp, nIleT, nIleF, nIltT, nIltF, nIeqT, nIeqF, nIm1, nIm1q, zupE, zupN, vpT, nI_01, nI_11, ↓reduceIte, Option.bind_some, Option.toList_some, Option.toList_none, List.cons_append, List.nil_append, Nat.reduceAdd, Nat.reduceMul, Nat.reduceSub, Nat.reduceDiv, Nat.reduceMod, and_true, true_and, and_false, false_and, not_true_eq_false, not_false_eq_true, or_true, true_or, or_false, false_or, Int32.lt_irrefl, Int32.le_refl, i1, b255_130]
      · -- one round
        have i := y255i (L := L) (hm := hm) hN (x2 := nI t) (x3 := nI r) (m1 := m ||| 2 ^ r) (v := E r) (h := fun w => if w = 0 then R else c w - 1) lr (E r) 0 (by omega) (m ||| 2 ^ r) E g a6 y e51 hE hm9' (fun i hi => hi)
          (fun w => by
            by_cases q : w = 0
            · subst q; show ycm E (m ||| 2 ^ r) N 0 = (if (0 : Nat) = 0 then R else c 0 - 1) - 0; rw [if_pos rfl]; omega
            · show _ = (if w = 0 then R else c w - 1) - 0
              rw [if_neg q, hh w (by omega)]; omega)
          (fun w hw => by
            show _ = min 0 _ + ((if w = 0 then R else c w - 1) - 0)
            rw [Nat.zero_min, if_neg (by omega : ¬ w = 0), hh w hw]; omega) (Nat.zero_le _)
        simp only [show ¬ ((1 : Nat) = 0) by omega, if_false, ↓reduceIte] at i
        obtain ⟨n8, hn8⟩ : ∃ n, E r = n + 1 := ⟨E r - 1, by omega⟩
        have e1 : yhh (R + 1) (ygl c 1 8) = Bool.and (Nat.ble (E r) (c 1 - 1)) (yhh R (ygs (E r) (ygl (fun u => c u - 1) 1 (E r)))) := by
          rw [yhh_s, v1, if_neg c0, v2]
          rw [hn8]
          rfl
        have e2 : ygs (E r) (ygl (fun u => c u - 1) 1 (E r)) = ygl (fun u => min (E r) (c (u + 1) - 1) + ((c u - 1) - E r)) 1 (E r) := ygs_l _ _ (by show c (1 + E r) - 1 = 0; rw [cz _ (by omega)])
        rcases i with ⟨j1, m', E', g', b6, j2, j3, j4, j5, j6⟩ | ⟨j1, g', j2, j3⟩
        · have j0 : ycm E' (m ||| 2 ^ r) N 0 = ycm E (m ||| 2 ^ r) N 0 := ycnt_c (fun i hi => by
            by_cases q : (m ||| 2 ^ r).testBit i = false
            · rw [if_pos ⟨q, Nat.zero_le _⟩, if_pos ⟨q, Nat.zero_le _⟩]
            · rw [if_neg (fun x => q x.1), if_neg (fun x => q x.1)])
          obtain ⟨g2, i1, i2⟩ := y255l hN R (t + 1) (by omega) (m ||| 2 ^ r) E' (fun u => min (E r) (c (u + 1) - 1) + ((c u - 1) - E r)) g' (some (.inl (nI r))) (some (.inl (nI m'))) (some (.inl (nI 0))) b6 j3 j4 j5 hm9' (by omega) (fun w hw => by
            have := j6 w hw
            simp only [show ¬ (w = 0) by omega, show ¬ (w + 1 = 0) by omega, if_false, ↓reduceIte] at this
            exact this)
          refine ⟨g2, fun d => (st d).trans ((j2 d).trans (b255_130.trans ?_)), i2⟩
          have z := ygl_z (c := fun u => min (E r) (c (u + 1) - 1) + ((c u - 1) - E r)) (k := 8 - E r) (E r) 1 (by
            show min (E r) (c (1 + E r + 1) - 1) + ((c (1 + E r) - 1) - E r) = 0
            rw [cz (1 + E r + 1) (by omega), cz (1 + E r) (by omega)]
            omega)
          rw [show E r + (8 - E r) = 8 by omega] at z
          rw [yhh_c z.1 z.2] at i1
          rw [e1, e2, Nat.ble_eq_true_of_le j1]
          simp (disch := first | omega | simp (disch := omega) only [nI_add, pk_mul, pk_sub, pk_div, znmod, nI_clamp, nIleT, nIleF, nIltT, nIltF, nIeqT, nIeqF, nIm1, nIm1q, zupE, zupN, vpT, nI_01, nI_11, ↓reduceIte, Option.bind_some, Option.toList_some, Option.toList_none, List.cons_append, List.nil_append, Nat.reduceAdd, Nat.reduceMul, Nat.reduceSub, Nat.reduceDiv, Nat.reduceMod, and_true, true_and, and_false, false_and, not_true_eq_false, not_false_eq_true, or_true, true_or, or_false, false_or, Int32.lt_irrefl, Int32.le_refl, i1]) only [nI_add, pk_mul, pk_sub, pk_div, znmod, nI_clamp, nIleT, nIleF, nIltT, nIltF, nIeqT, nIeqF, nIm1, nIm1q, zupE, zupN, vpT, nI_01, nI_11, ↓reduceIte, Option.bind_some, Option.toList_some, Option.toList_none, List.cons_append, List.nil_append, Nat.reduceAdd, Nat.reduceMul, Nat.reduceSub, Nat.reduceDiv, Nat.reduceMod, and_true, true_and, and_false, false_and, not_true_eq_false, not_false_eq_true, or_true, true_or, or_false, false_or, Int32.lt_irrefl, Int32.le_refl, i1]
          rfl
        · refine ⟨g', fun d => (st d).trans ((j2 d).trans ?_), j3⟩
          have e3 : Nat.ble (E r) (c 1 - 1) = false := by
            cases hb : Nat.ble (E r) (c 1 - 1) with
            | false => rfl
            | true => exact absurd (Nat.le_of_ble_eq_true hb) j1
          rw [e1, e3]
          rfl
end CM
