/-! operation prices -/
theorem zallB_all {g : Nat → Bool} : ∀ {n : Nat}, zallB g n = true → ∀ j, j < n → g j = true
  | 0, _, _, h => absurd h (Nat.not_lt_zero _)
  | n + 1, h, j, hj => by
    rw [zallB, Bool.and_eq_true] at h
    by_cases e : j = n
    · rw [e]; exact h.2
    · exact zallB_all h.1 j (by omega)
def ycnt (g : Nat → Nat) : Nat → Nat
  | 0 => 0
  | n + 1 => ycnt g n + g n
theorem ycnt_c {f g : Nat → Nat} {n : Nat} (h : ∀ i, i < n → f i = g i) : ycnt f n = ycnt g n := by
  induction n with
  | zero => rfl
  | succ n ih => rw [ycnt, ycnt, ih (fun i hi => h i (by omega)), h n (by omega)]
theorem ycnt_a {f g : Nat → Nat} {n : Nat} : ycnt (fun i => f i + g i) n = ycnt f n + ycnt g n := by
  induction n with
  | zero => rfl
  | succ n ih => rw [ycnt, ycnt, ycnt, ih]; omega
theorem ycnt_1 {n : Nat} : ycnt (fun _ => 1) n = n := by
  induction n with
  | zero => rfl
  | succ n ih => rw [ycnt, ih]
theorem ycnt_l {g : Nat → Nat} {n : Nat} : ycnt g (n + 1) = g 0 + ycnt (fun i => g (i + 1)) n := by
  induction n with
  | zero => show 0 + g 0 = g 0 + 0; omega
  | succ n ih => rw [ycnt, ih, ycnt]; omega
theorem ycnt_r {g : Nat → Nat} {n : Nat} : ycnt (fun i => g (n - i)) (n + 1) = ycnt g (n + 1) := by
  induction n with
  | zero => rfl
  | succ n ih =>
    rw [ycnt_l]
    have e : ycnt (fun i => g (n + 1 - (i + 1))) (n + 1) = ycnt (fun i => g (n - i)) (n + 1) := ycnt_c (fun i hi => by congr 1; omega)
    show g (n + 1 - 0) + ycnt (fun i => g (n + 1 - (i + 1))) (n + 1) = ycnt g (n + 1) + g (n + 1)
    rw [e, ih, Nat.sub_zero]
    omega
def ypay (a b v : Nat) : Prop := ∃ x y, v = x * a + y * b
theorem ypay_s {a b v : Nat} (ha : 0 < a) (hb : 0 < b) : ypay a b v ↔ v = 0 ∨ (a ≤ v ∧ ypay a b (v - a)) ∨ (b ≤ v ∧ ypay a b (v - b)) := by
  constructor
  · rintro ⟨x, y, e⟩
    cases x with
    | succ x =>
      rw [Nat.succ_mul] at e
      exact Or.inr (Or.inl ⟨by omega, x, y, by omega⟩)
    | zero =>
      cases y with
      | succ y =>
        rw [Nat.succ_mul] at e
        exact Or.inr (Or.inr ⟨by omega, 0, y, by omega⟩)
      | zero => exact Or.inl (by omega)
  · rintro (e | ⟨h, x, y, e⟩ | ⟨h, x, y, e⟩)
    · exact ⟨0, 0, by omega⟩
    · exact ⟨x + 1, y, by rw [Nat.succ_mul]; omega⟩
    · exact ⟨x, y + 1, by rw [Nat.succ_mul]; omega⟩
theorem yinv : ∀ a, a < 61 → ∀ b, b < 61 → 2 ≤ b → Nat.gcd a b = 1 → (List.range b).any (fun i => Nat.beq (a * i % b) 1) = true := by decide +kernel
theorem ymod3 (p q r b : Nat) : (p % b + q % b + r % b) % b = (p + q + r) % b := by
  rw [Nat.add_mod (p + q) r b, Nat.add_mod p q b, Nat.add_mod (p % b + q % b) (r % b) b, Nat.mod_mod]
theorem ydm (a k : Nat) : nI a - nI (a / k * k) = nI (a % k) := by rw [pk_sub (Nat.div_mul_le_self _ _), znmod]
section SY
variable {a b i : Nat}
theorem yx_mod {v : Nat} (hi : a * i % b = 1) (hb : 2 ≤ b) : (v * i % b) * a % b = v % b := by
  rw [Nat.mul_mod, Nat.mod_mod, ← Nat.mul_mod, Nat.mul_assoc, Nat.mul_comm i a, Nat.mul_mod, hi, Nat.mul_one, Nat.mod_mod]
theorem ypay_i {v : Nat} (hi : a * i % b = 1) (hb : 2 ≤ b) : ypay a b v ↔ (v * i % b) * a ≤ v := by
  constructor
  · rintro ⟨x, y, e⟩
    have e1 : v * i % b = x % b := by
      have e2 : v * i = x * (a * i) + y * i * b := by
        rw [e, Nat.add_mul, Nat.mul_assoc, Nat.mul_assoc, Nat.mul_assoc, Nat.mul_comm b i]
      rw [e2, Nat.add_mul_mod_self_right, Nat.mul_mod, hi, Nat.mul_one, Nat.mod_mod]
    rw [e1]
    have h1 : x % b * a ≤ x * a := Nat.mul_le_mul_right a (Nat.mod_le x b)
    omega
  · intro h
    have h1 := Nat.sub_mod_eq_zero_of_mod_eq (yx_mod (v := v) hi hb).symm
    refine ⟨v * i % b, (v - v * i % b * a) / b, ?_⟩
    have h2 := Nat.div_add_mod (v - v * i % b * a) b
    rw [h1, Nat.mul_comm] at h2
    omega
theorem ypay_n {v : Nat} (hi : a * i % b = 1) (hb : 2 ≤ b) (h : ¬ ypay a b v) : v + b ≤ (v * i % b) * a := by
  rw [ypay_i hi hb] at h
  have h1 := Nat.sub_mod_eq_zero_of_mod_eq (yx_mod (v := v) hi hb)
  have h2 := Nat.div_add_mod (v * i % b * a - v) b
  rw [h1] at h2
  have h3 : 0 < (v * i % b * a - v) / b := by
    rcases Nat.eq_zero_or_pos ((v * i % b * a - v) / b) with q | q
    · rw [q, Nat.mul_zero] at h2; omega
    · exact q
  have h4 : b * 1 ≤ b * ((v * i % b * a - v) / b) := Nat.mul_le_mul_left b h3
  omega
theorem ypay_x {v : Nat} (hi : a * i % b = 1) (ha : 2 ≤ a) (hb : 2 ≤ b) (hv : v + a + b ≤ a * b) : ypay a b (a * b - a - b - v) ↔ ¬ ypay a b v := by
  have e1 : ((a * b - a - b - v) * i % b + v * i % b + 1) % b = 0 := by
    rw [← hi, ymod3, ← Nat.add_mul, ← Nat.add_mul]
    have e2 : a * b - a - b - v + v + a = (a - 1) * b := by
      rw [Nat.sub_mul, Nat.one_mul]
      omega
    rw [e2, Nat.mul_assoc, Nat.mul_comm b i, ← Nat.mul_assoc, Nat.mul_mod_left]
  have l1 : (a * b - a - b - v) * i % b < b := Nat.mod_lt _ (by omega)
  have l2 : v * i % b < b := Nat.mod_lt _ (by omega)
  have e3 : (a * b - a - b - v) * i % b + v * i % b + 1 = b := by
    generalize (a * b - a - b - v) * i % b = p at *
    generalize v * i % b = q at *
    by_cases h : p + q + 1 < b
    · rw [Nat.mod_eq_of_lt h] at e1; omega
    · rw [Nat.mod_eq_sub_mod (by omega), Nat.mod_eq_of_lt (by omega)] at e1
      omega
  have e4 : (a * b - a - b - v) * i % b * a + v * i % b * a + a = a * b := by
    rw [← Nat.add_mul]
    calc _ = ((a * b - a - b - v) * i % b + v * i % b + 1) * a := by rw [Nat.add_mul _ 1, Nat.one_mul]
      _ = a * b := by rw [e3, Nat.mul_comm]
  rw [ypay_i hi hb]
  constructor
  · intro h hp
    rw [ypay_i hi hb] at hp
    omega
  · intro h
    have := ypay_n hi hb h
    omega
theorem ypay_big {v : Nat} (hi : a * i % b = 1) (ha : 2 ≤ a) (hb : 2 ≤ b) (hv : a * b < v + a + b) : ypay a b v := by
  apply Classical.byContradiction
  intro h
  have h1 := ypay_n hi hb h
  have l2 : v * i % b < b := Nat.mod_lt _ (by omega)
  have h2 : v * i % b * a + a ≤ a * b := by
    have h3 : (v * i % b + 1) * a ≤ b * a := Nat.mul_le_mul_right a l2
    rw [Nat.add_mul, Nat.one_mul, Nat.mul_comm b a] at h3
    exact h3
  omega
end SY
noncomputable def ypB (a b v : Nat) : Bool := @decide (ypay a b v) (Classical.propDecidable _)
theorem ypB_t {a b v : Nat} (h : ypay a b v) : ypB a b v = true := by unfold ypB; exact @decide_eq_true _ (Classical.propDecidable _) h
theorem ypB_f {a b v : Nat} (h : ¬ ypay a b v) : ypB a b v = false := by unfold ypB; exact @decide_eq_false _ (Classical.propDecidable _) h
noncomputable def ynp (a b v : Nat) : Nat := (!ypB a b v).toNat
noncomputable def yla (a b : Nat) : Nat → Int32
  | 0 => (-1)
  | v + 1 => if ypB a b v = true then yla a b v else nI v
theorem ynp_le {a b v : Nat} : ynp a b v ≤ 1 := by unfold ynp; cases ypB a b v <;> decide
theorem ycnt_le {g : Nat → Nat} (h : ∀ i, g i ≤ 1) : ∀ n, ycnt g n ≤ n
  | 0 => Nat.le_refl 0
  | n + 1 => by have := ycnt_le h n; have := h n; rw [ycnt]; omega
theorem yprice {a b i : Nat} (hi : a * i % b = 1) (ha : 2 ≤ a) (hb : 2 ≤ b) (hc : a + b < a * b) : ycnt (ynp a b) (a * b) = (a - 1) * (b - 1) / 2 ∧ yla a b (a * b) = nI (a * b - a - b) := by
  have z0 : ypay a b 0 := ⟨0, 0, by omega⟩
  have zc : ¬ ypay a b (a * b - a - b) := by
    have := (ypay_x (v := 0) hi ha hb (by omega))
    rw [Nat.sub_zero] at this
    exact fun q => this.1 q z0
  have tail : ∀ n, ycnt (ynp a b) (a * b - a - b + 1 + n) = ycnt (ynp a b) (a * b - a - b + 1) ∧ yla a b (a * b - a - b + 1 + n) = nI (a * b - a - b) := by
    intro n
    induction n with
    | zero =>
      refine ⟨rfl, ?_⟩
      show (if ypB a b (a * b - a - b) = true then _ else _) = _
      rw [ypB_f zc, if_neg (by decide)]
    | succ n ih =>
      have hp := ypB_t (ypay_big (v := a * b - a - b + 1 + n) hi ha hb (by omega))
      refine ⟨?_, ?_⟩
      · rw [← Nat.add_assoc, ycnt, ih.1]
        unfold ynp
        rw [hp]
        rfl
      · rw [← Nat.add_assoc, yla, hp, if_pos rfl, ih.2]
  have half : ycnt (ynp a b) (a * b - a - b + 1) + ycnt (ynp a b) (a * b - a - b + 1) = a * b - a - b + 1 := by
    have e1 := ycnt_r (g := ynp a b) (n := a * b - a - b)
    have e2 := ycnt_a (f := ynp a b) (g := fun i => ynp a b (a * b - a - b - i)) (n := a * b - a - b + 1)
    rw [e1] at e2
    rw [← e2]
    refine Eq.trans (ycnt_c (g := fun _ => 1) (fun u hu => ?_)) ycnt_1
    have hx := ypay_x (v := u) hi ha hb (by omega)
    show (!ypB a b u).toNat + (!ypB a b (a * b - a - b - u)).toNat = 1
    by_cases hp : ypay a b u
    · rw [ypB_t hp, ypB_f (fun q => hx.1 q hp)]; rfl
    · rw [ypB_f hp, ypB_t (hx.2 hp)]; rfl
  have t := tail (a * b - (a * b - a - b + 1))
  rw [show a * b - a - b + 1 + (a * b - (a * b - a - b + 1)) = a * b by omega] at t
  refine ⟨?_, t.2⟩
  rw [t.1]
  have e5 : (a - 1) * (b - 1) = a * b - a - b + 1 := by
    rw [Nat.sub_mul, Nat.mul_sub, Nat.one_mul, Nat.mul_one]
    omega
  rw [e5]
  omega
section PR
variable {L d : Nat} {hc hm h : zH} {x1 x2 x3 x4 x5 x : Int32}
theorem o_prices (R : Rel hc hm) : zS2 (zev L (d + 20) 139 0 [some (.inr (.inl (11, 0, 0))), some (.inl x1), some (.inl x2), some (.inl x3)] [] hc) (zev L (d + 20) 263 0 [some (.inr (.inl (12, 0, 0))), some (.inl x1), some (.inl x2), some (.inl x3), none, none, none] [] hm) Rel := by
  rcases zarg1 x1 2 60 (by omega) (by omega) with ⟨a, ha1, ha, rfl⟩ | q1
  · rcases zarg1 x2 2 60 (by omega) (by omega) with ⟨b, hb1, hb, rfl⟩ | q2
    · rcases zarg x3 1 (by omega) with ⟨w, hw, rfl⟩ | q3
      · have z0 : ∀ j, (nI (j + 2) = 0) = (nI (j + 2) = nI 0) := fun j => rfl
        have kl := zall (P := fun j => zev L (d + 19) 48 2 [some (.inr (.inl (5, 0, 0))), some (.inl (nI a)), some (.inl (nI b)), some (.inl (nI (j+2)))] [] hc) (r := some (some (.inl (nI 1)), hc)) (N := a - 1) (fun j => !(decide (a % (j + 2) = 0) && decide (b % (j + 2) = 0))) (fun j hj => by
          have l1 : a % (j + 2) < j + 2 := Nat.mod_lt _ (by omega)
          have l2 : b % (j + 2) < j + 2 := Nat.mod_lt _ (by omega)
          refine b48_2.trans ?_
          by_cases c1 : a % (j + 2) = 0
          · by_cases c2 : b % (j + 2) = 0
            · simp (disch := first | omega | simp (disch := omega) only [nI_add, pk_mul, pk_sub, pk_div, znmod, nI_clamp, nIleT, nIleF, nIltT, nIltF, nIeqT, nIeqF, nIm1, nIm1q, zupE, zupN, vpT, nI_01, nI_11, ↓reduceIte, Option.bind_some, Option.toList_some, Option.toList_none, List.cons_append, List.nil_append, Nat.reduceAdd, Nat.reduceMul, Nat.reduceSub, Nat.reduceDiv, Nat.reduceMod, and_true, true_and, and_false, false_and, not_true_eq_false, not_false_eq_true, or_true, true_or, or_false, false_or, Int32.lt_irrefl, Int32.le_refl, ydm, z0, c1, c2]) only [nI_add, pk_mul, pk_sub, pk_div, znmod, nI_clamp, nIleT, nIleF, nIltT, nIltF, nIeqT, nIeqF, nIm1, nIm1q, zupE, zupN, vpT, nI_01, nI_11, ↓reduceIte, Option.bind_some, Option.toList_some, Option.toList_none, List.cons_append, List.nil_append, Nat.reduceAdd, Nat.reduceMul, Nat.reduceSub, Nat.reduceDiv, Nat.reduceMod, and_true, true_and, and_false, false_and, not_true_eq_false, not_false_eq_true, or_true, true_or, or_false, false_or, Int32.lt_irrefl, Int32.le_refl, ydm, z0, c1, c2, b48_7, b48_13, b48_19, b48_21, b48_27]
              simp
            · simp (disch := first | omega | simp (disch := omega) only [nI_add, pk_mul, pk_sub, pk_div, znmod, nI_clamp, nIleT, nIleF, nIltT, nIltF, nIeqT, nIeqF, nIm1, nIm1q, zupE, zupN, vpT, nI_01, nI_11, ↓reduceIte, Option.bind_some, Option.toList_some, Option.toList_none, List.cons_append, List.nil_append, Nat.reduceAdd, Nat.reduceMul, Nat.reduceSub, Nat.reduceDiv, Nat.reduceMod, and_true, true_and, and_false, false_and, not_true_eq_false, not_false_eq_true, or_true, true_or, or_false, false_or, Int32.lt_irrefl, Int32.le_refl, ydm, z0, c1, c2]) only [nI_add, pk_mul, pk_sub, pk_div, znmod, nI_clamp, nIleT, nIleF, nIltT, nIltF, nIeqT, nIeqF, nIm1, nIm1q, zupE, zupN, vpT, nI_01, nI_11, ↓reduceIte, Option.bind_some, Option.toList_some, Option.toList_none, List.cons_append, List.nil_append, Nat.reduceAdd, Nat.reduceMul, Nat.reduceSub, Nat.reduceDiv, Nat.reduceMod, and_true, true_and, and_false, false_and, not_true_eq_false, not_false_eq_true, or_true, true_or, or_false, false_or, Int32.lt_irrefl, Int32.le_refl, ydm, z0, c1, c2, b48_7, b48_13, b48_19, b48_21, b48_27]
              simp [c2]
          · simp (disch := first | omega | simp (disch := omega) only [nI_add, pk_mul, pk_sub, pk_div, znmod, nI_clamp, nIleT, nIleF, nIltT, nIltF, nIeqT, nIeqF, nIm1, nIm1q, zupE, zupN, vpT, nI_01, nI_11, ↓reduceIte, Option.bind_some, Option.toList_some, Option.toList_none, List.cons_append, List.nil_append, Nat.reduceAdd, Nat.reduceMul, Nat.reduceSub, Nat.reduceDiv, Nat.reduceMod, and_true, true_and, and_false, false_and, not_true_eq_false, not_false_eq_true, or_true, true_or, or_false, false_or, Int32.lt_irrefl, Int32.le_refl, ydm, z0, c1]) only [nI_add, pk_mul, pk_sub, pk_div, znmod, nI_clamp, nIleT, nIleF, nIltT, nIltF, nIeqT, nIeqF, nIm1, nIm1q, zupE, zupN, vpT, nI_01, nI_11, ↓reduceIte, Option.bind_some, Option.toList_some, Option.toList_none, List.cons_append, List.nil_append, Nat.reduceAdd, Nat.reduceMul, Nat.reduceSub, Nat.reduceDiv, Nat.reduceMod, and_true, true_and, and_false, false_and, not_true_eq_false, not_false_eq_true, or_true, true_or, or_false, false_or, Int32.lt_irrefl, Int32.le_refl, ydm, z0, c1, b48_7, b48_13, b48_19, b48_21, b48_27]
            simp [c1]) (a - 1) (Nat.le_refl _)
        have ml := zall (P := fun j => zev L (d + 19 + 1) 263 42 [some (.inr (.inl (12, 0, 0))), some (.inl (nI a)), some (.inl (nI b)), some (.inl (nI w)), some (.inl (nI (j+2))), none, none] [] (zup hm 12 0 0 0 (nI 0))) (r := some (some (.inl (-1)), zup hm 12 0 0 0 (nI 0))) (N := a - 1) (fun j => !(decide (a % (j + 2) = 0) && decide (b % (j + 2) = 0))) (fun j hj => by
          have l1 : a % (j + 2) < j + 2 := Nat.mod_lt _ (by omega)
          have l2 : b % (j + 2) < j + 2 := Nat.mod_lt _ (by omega)
          refine b263_42.trans ?_
          by_cases c1 : a % (j + 2) = 0
          · by_cases c2 : b % (j + 2) = 0
            · simp (disch := first | omega | simp (disch := omega) only [nI_add, pk_mul, pk_sub, pk_div, znmod, nI_clamp, nIleT, nIleF, nIltT, nIltF, nIeqT, nIeqF, nIm1, nIm1q, zupE, zupN, vpT, nI_01, nI_11, ↓reduceIte, Option.bind_some, Option.toList_some, Option.toList_none, List.cons_append, List.nil_append, Nat.reduceAdd, Nat.reduceMul, Nat.reduceSub, Nat.reduceDiv, Nat.reduceMod, and_true, true_and, and_false, false_and, not_true_eq_false, not_false_eq_true, or_true, true_or, or_false, false_or, Int32.lt_irrefl, Int32.le_refl, ydm, z0, c1, c2]) only [nI_add, pk_mul, pk_sub, pk_div, znmod, nI_clamp, nIleT, nIleF, nIltT, nIltF, nIeqT, nIeqF, nIm1, nIm1q, zupE, zupN, vpT, nI_01, nI_11, ↓reduceIte, Option.bind_some, Option.toList_some, Option.toList_none, List.cons_append, List.nil_append, Nat.reduceAdd, Nat.reduceMul, Nat.reduceSub, Nat.reduceDiv, Nat.reduceMod, and_true, true_and, and_false, false_and, not_true_eq_false, not_false_eq_true, or_true, true_or, or_false, false_or, Int32.lt_irrefl, Int32.le_refl, ydm, z0, c1, c2, b263_48, b263_55, b263_62, b263_64]
              simp
            · simp (disch := first | omega | simp (disch := omega) only [nI_add, pk_mul, pk_sub, pk_div, znmod, nI_clamp, nIleT, nIleF, nIltT, nIltF, nIeqT, nIeqF, nIm1, nIm1q, zupE, zupN, vpT, nI_01, nI_11, ↓reduceIte, Option.bind_some, Option.toList_some, Option.toList_none, List.cons_append, List.nil_append, Nat.reduceAdd, Nat.reduceMul, Nat.reduceSub, Nat.reduceDiv, Nat.reduceMod, and_true, true_and, and_false, false_and, not_true_eq_false, not_false_eq_true, or_true, true_or, or_false, false_or, Int32.lt_irrefl, Int32.le_refl, ydm, z0, c1, c2]) only [nI_add, pk_mul, pk_sub, pk_div, znmod, nI_clamp, nIleT, nIleF, nIltT, nIltF, nIeqT, nIeqF, nIm1, nIm1q, zupE, zupN, vpT, nI_01, nI_11, ↓reduceIte, Option.bind_some, Option.toList_some, Option.toList_none, List.cons_append, List.nil_append, Nat.reduceAdd, Nat.reduceMul, Nat.reduceSub, Nat.reduceDiv, Nat.reduceMod, and_true, true_and, and_false, false_and, not_true_eq_false, not_false_eq_true, or_true, true_or, or_false, false_or, Int32.lt_irrefl, Int32.le_refl, ydm, z0, c1, c2, b263_48, b263_55, b263_62, b263_64]
              simp [c2]
          · simp (disch := first | omega | simp (disch := omega) only [nI_add, pk_mul, pk_sub, pk_div, znmod, nI_clamp, nIleT, nIleF, nIltT, nIltF, nIeqT, nIeqF, nIm1, nIm1q, zupE, zupN, vpT, nI_01, nI_11, ↓reduceIte, Option.bind_some, Option.toList_some, Option.toList_none, List.cons_append, List.nil_append, Nat.reduceAdd, Nat.reduceMul, Nat.reduceSub, Nat.reduceDiv, Nat.reduceMod, and_true, true_and, and_false, false_and, not_true_eq_false, not_false_eq_true, or_true, true_or, or_false, false_or, Int32.lt_irrefl, Int32.le_refl, ydm, z0, c1]) only [nI_add, pk_mul, pk_sub, pk_div, znmod, nI_clamp, nIleT, nIleF, nIltT, nIltF, nIeqT, nIeqF, nIm1, nIm1q, zupE, zupN, vpT, nI_01, nI_11, ↓reduceIte, Option.bind_some, Option.toList_some, Option.toList_none, List.cons_append, List.nil_append, Nat.reduceAdd, Nat.reduceMul, Nat.reduceSub, Nat.reduceDiv, Nat.reduceMod, and_true, true_and, and_false, false_and, not_true_eq_false, not_false_eq_true, or_true, true_or, or_false, false_or, Int32.lt_irrefl, Int32.le_refl, ydm, z0, c1, b263_48, b263_55, b263_62, b263_64]
            simp [c1]) (a - 1) (Nat.le_refl _)
        cases hz : zallB (fun j => !(decide (a % (j + 2) = 0) && decide (b % (j + 2) = 0))) (a - 1)
        · rw [hz, if_neg (by decide)] at kl ml
          simp (disch := first | omega | simp (disch := omega) only [nI_add, pk_mul, pk_sub, pk_div, znmod, nI_clamp, nIleT, nIleF, nIltT, nIltF, nIeqT, nIeqF, nIm1, nIm1q, zupE, zupN, vpT, nI_01, nI_11, ↓reduceIte, Option.bind_some, Option.toList_some, Option.toList_none, List.cons_append, List.nil_append, Nat.reduceAdd, Nat.reduceMul, Nat.reduceSub, Nat.reduceDiv, Nat.reduceMod, and_true, true_and, and_false, false_and, not_true_eq_false, not_false_eq_true, or_true, true_or, or_false, false_or, Int32.lt_irrefl, Int32.le_refl]) only [nI_add, pk_mul, pk_sub, pk_div, znmod, nI_clamp, nIleT, nIleF, nIltT, nIltF, nIeqT, nIeqF, nIm1, nIm1q, zupE, zupN, vpT, nI_01, nI_11, ↓reduceIte, Option.bind_some, Option.toList_some, Option.toList_none, List.cons_append, List.nil_append, Nat.reduceAdd, Nat.reduceMul, Nat.reduceSub, Nat.reduceDiv, Nat.reduceMod, and_true, true_and, and_false, false_and, not_true_eq_false, not_false_eq_true, or_true, true_or, or_false, false_or, Int32.lt_irrefl, Int32.le_refl] at kl ml
          simp (disch := first | omega | simp (disch := omega) only [nI_add, pk_mul, pk_sub, pk_div, znmod, nI_clamp, nIleT, nIleF, nIltT, nIltF, nIeqT, nIeqF, nIm1, nIm1q, zupE, zupN, vpT, nI_01, nI_11, ↓reduceIte, Option.bind_some, Option.toList_some, Option.toList_none, List.cons_append, List.nil_append, Nat.reduceAdd, Nat.reduceMul, Nat.reduceSub, Nat.reduceDiv, Nat.reduceMod, and_true, true_and, and_false, false_and, not_true_eq_false, not_false_eq_true, or_true, true_or, or_false, false_or, Int32.lt_irrefl, Int32.le_refl, kw, mIn, kl, ml]) only [nI_add, pk_mul, pk_sub, pk_div, znmod, nI_clamp, nIleT, nIleF, nIltT, nIltF, nIeqT, nIeqF, nIm1, nIm1q, zupE, zupN, vpT, nI_01, nI_11, ↓reduceIte, Option.bind_some, Option.toList_some, Option.toList_none, List.cons_append, List.nil_append, Nat.reduceAdd, Nat.reduceMul, Nat.reduceSub, Nat.reduceDiv, Nat.reduceMod, and_true, true_and, and_false, false_and, not_true_eq_false, not_false_eq_true, or_true, true_or, or_false, false_or, Int32.lt_irrefl, Int32.le_refl, kw, mIn, kl, ml, b139_0, b139_7, b139_10, b139_17, b139_20, b139_26, b139_29, b139_31, b139_40, b139_43, b139_45, b139_49, b139_59, b139_68, b48_0, b263_0, b263_5, b263_13, b263_16, b263_24, b263_27, b263_34, b263_37, b263_39]
          exact zS2_no R
        · rw [hz, if_pos rfl] at kl ml
          have kl2 := kl.trans b48_2
          have ml2 := ml.trans b263_42
          have ea : a - 1 + 2 = a + 1 := by omega
          simp (disch := first | omega | simp (disch := omega) only [nI_add, pk_mul, pk_sub, pk_div, znmod, nI_clamp, nIleT, nIleF, nIltT, nIltF, nIeqT, nIeqF, nIm1, nIm1q, zupE, zupN, vpT, nI_01, nI_11, ↓reduceIte, Option.bind_some, Option.toList_some, Option.toList_none, List.cons_append, List.nil_append, Nat.reduceAdd, Nat.reduceMul, Nat.reduceSub, Nat.reduceDiv, Nat.reduceMod, and_true, true_and, and_false, false_and, not_true_eq_false, not_false_eq_true, or_true, true_or, or_false, false_or, Int32.lt_irrefl, Int32.le_refl, ea]) only [nI_add, pk_mul, pk_sub, pk_div, znmod, nI_clamp, nIleT, nIleF, nIltT, nIltF, nIeqT, nIeqF, nIm1, nIm1q, zupE, zupN, vpT, nI_01, nI_11, ↓reduceIte, Option.bind_some, Option.toList_some, Option.toList_none, List.cons_append, List.nil_append, Nat.reduceAdd, Nat.reduceMul, Nat.reduceSub, Nat.reduceDiv, Nat.reduceMod, and_true, true_and, and_false, false_and, not_true_eq_false, not_false_eq_true, or_true, true_or, or_false, false_or, Int32.lt_irrefl, Int32.le_refl, ea, b48_7, b48_13, b48_19, b48_21, b48_27, b263_70] at kl2 ml2
          have hg : Nat.gcd a b = 1 := by
            have h1 : 0 < Nat.gcd a b := Nat.gcd_pos_of_pos_left b (by omega)
            have h2 : Nat.gcd a b ≤ a := Nat.gcd_le_left b (by omega)
            apply Classical.byContradiction
            intro hne
            have h3 := zallB_all hz (Nat.gcd a b - 2) (by omega)
            rw [show Nat.gcd a b - 2 + 2 = Nat.gcd a b by omega, Nat.mod_eq_zero_of_dvd (Nat.gcd_dvd_left a b), Nat.mod_eq_zero_of_dvd (Nat.gcd_dvd_right a b)] at h3
            simp at h3
          obtain ⟨i, _, hi⟩ := List.any_eq_true.1 (yinv a (by omega) b (by omega) hb1 hg)
          have hi := Nat.eq_of_beq_eq_true hi
          have h2b : 2 * b ≤ a * b := Nat.mul_le_mul_right b ha1
          have h2a : a * 2 ≤ a * b := Nat.mul_le_mul_left a hb1
          have hab3 : a * b ≤ 60 * b := Nat.mul_le_mul_right b ha
          have hc : a + b < a * b := by
            by_cases e : a = 2
            · subst e
              by_cases e2 : b = 2
              · subst e2; exact absurd hg (by decide)
              · omega
            · have h3b : 3 * b ≤ a * b := Nat.mul_le_mul_right b (by omega)
              by_cases e2 : b = 2
              · subst e2; omega
              · omega
          obtain ⟨p1, p2⟩ := yprice hi ha1 hb1 hc
          obtain ⟨g, q1, r1, r2⟩ := zinv (P := fun v (g : zH) => zev L (d + 19 + 1) 263 79 [some (.inr (.inl (12, 0, 0))), some (.inl (nI a)), some (.inl (nI b)), some (.inl (nI w)), some (.inl (nI (ycnt (ynp a b) v))), some (.inl (yla a b v)), some (.inl (nI v))] [] g)
            (R := fun v g => (∀ u, u < v → g 12 0 57 u = nI (ypB a b u).toNat) ∧ yM hm g) (N := a * b) (fun v g hv hr => by
              obtain ⟨r1, r2⟩ := hr
              have hs := ypay_s (a := a) (b := b) (v := v) (by omega) (by omega)
              have l1 := ycnt_le (g := ynp a b) (fun i => ynp_le) v
              have hnp : ynp a b v = (!ypB a b v).toNat := rfl
              refine ⟨zup g 12 0 57 v (nI (ypB a b v).toNat), b263_79.trans ?_, fun u hu => ?_, yM_u r2 rfl⟩
              · by_cases h0 : v = 0
                · have hb0 : ypB a b v = true := ypB_t (hs.2 (Or.inl h0))
                  simp (disch := first | omega | simp (disch := omega) only [nI_add, pk_mul, pk_sub, pk_div, znmod, nI_clamp, nIleT, nIleF, nIltT, nIltF, nIeqT, nIeqF, nIm1, nIm1q, zupE, zupN, vpT, nI_01, nI_11, ↓reduceIte, Option.bind_some, Option.toList_some, Option.toList_none, List.cons_append, List.nil_append, Nat.reduceAdd, Nat.reduceMul, Nat.reduceSub, Nat.reduceDiv, Nat.reduceMod, and_true, true_and, and_false, false_and, not_true_eq_false, not_false_eq_true, or_true, true_or, or_false, false_or, Int32.lt_irrefl, Int32.le_refl, hb0, Bool.toNat_true, Bool.toNat_false, ycnt, yla, hnp, Bool.not_true, Nat.add_zero]) only [nI_add, pk_mul, pk_sub, pk_div, znmod, nI_clamp, nIleT, nIleF, nIltT, nIltF, nIeqT, nIeqF, nIm1, nIm1q, zupE, zupN, vpT, nI_01, nI_11, ↓reduceIte, Option.bind_some, Option.toList_some, Option.toList_none, List.cons_append, List.nil_append, Nat.reduceAdd, Nat.reduceMul, Nat.reduceSub, Nat.reduceDiv, Nat.reduceMod, and_true, true_and, and_false, false_and, not_true_eq_false, not_false_eq_true, or_true, true_or, or_false, false_or, Int32.lt_irrefl, Int32.le_refl, hb0, Bool.toNat_true, Bool.toNat_false, ycnt, yla, hnp, Bool.not_true, Nat.add_zero, b263_87, b263_98, b263_104, b263_117, b263_123, b263_136, b263_140, b263_141, b263_142, b263_153, b263_156, b263_166]
                · by_cases h1 : a ≤ v ∧ ypay a b (v - a)
                  · have hb0 : ypB a b v = true := ypB_t (hs.2 (Or.inr (Or.inl h1)))
                    have u1 := r1 (v - a) (by omega)
                    rw [ypB_t h1.2] at u1
                    simp (disch := first | omega | simp (disch := omega) only [nI_add, pk_mul, pk_sub, pk_div, znmod, nI_clamp, nIleT, nIleF, nIltT, nIltF, nIeqT, nIeqF, nIm1, nIm1q, zupE, zupN, vpT, nI_01, nI_11, ↓reduceIte, Option.bind_some, Option.toList_some, Option.toList_none, List.cons_append, List.nil_append, Nat.reduceAdd, Nat.reduceMul, Nat.reduceSub, Nat.reduceDiv, Nat.reduceMod, and_true, true_and, and_false, false_and, not_true_eq_false, not_false_eq_true, or_true, true_or, or_false, false_or, Int32.lt_irrefl, Int32.le_refl, u1, hb0, Bool.toNat_true, Bool.toNat_false, ycnt, yla, hnp, Bool.not_true, Nat.add_zero]) only [nI_add, pk_mul, pk_sub, pk_div, znmod, nI_clamp, nIleT, nIleF, nIltT, nIltF, nIeqT, nIeqF, nIm1, nIm1q, zupE, zupN, vpT, nI_01, nI_11, ↓reduceIte, Option.bind_some, Option.toList_some, Option.toList_none, List.cons_append, List.nil_append, Nat.reduceAdd, Nat.reduceMul, Nat.reduceSub, Nat.reduceDiv, Nat.reduceMod, and_true, true_and, and_false, false_and, not_true_eq_false, not_false_eq_true, or_true, true_or, or_false, false_or, Int32.lt_irrefl, Int32.le_refl, u1, hb0, Bool.toNat_true, Bool.toNat_false, ycnt, yla, hnp, Bool.not_true, Nat.add_zero, b263_87, b263_98, b263_104, b263_117, b263_123, b263_136, b263_140, b263_141, b263_142, b263_153, b263_156, b263_166]
                  · by_cases h2 : b ≤ v ∧ ypay a b (v - b)
                    · have hb0 : ypB a b v = true := ypB_t (hs.2 (Or.inr (Or.inr h2)))
                      have u2 := r1 (v - b) (by omega)
                      rw [ypB_t h2.2] at u2
                      by_cases h3 : a ≤ v
                      · have u1 := r1 (v - a) (by omega)
                        rw [ypB_f (fun q => h1 ⟨h3, q⟩)] at u1
                        simp (disch := first | omega | simp (disch := omega) only [nI_add, pk_mul, pk_sub, pk_div, znmod, nI_clamp, nIleT, nIleF, nIltT, nIltF, nIeqT, nIeqF, nIm1, nIm1q, zupE, zupN, vpT, nI_01, nI_11, ↓reduceIte, Option.bind_some, Option.toList_some, Option.toList_none, List.cons_append, List.nil_append, Nat.reduceAdd, Nat.reduceMul, Nat.reduceSub, Nat.reduceDiv, Nat.reduceMod, and_true, true_and, and_false, false_and, not_true_eq_false, not_false_eq_true, or_true, true_or, or_false, false_or, Int32.lt_irrefl, Int32.le_refl, u1, u2, hb0, Bool.toNat_true, Bool.toNat_false, ycnt, yla, hnp, Bool.not_true, Nat.add_zero]) only [nI_add, pk_mul, pk_sub, pk_div, znmod, nI_clamp, nIleT, nIleF, nIltT, nIltF, nIeqT, nIeqF, nIm1, nIm1q, zupE, zupN, vpT, nI_01, nI_11, ↓reduceIte, Option.bind_some, Option.toList_some, Option.toList_none, List.cons_append, List.nil_append, Nat.reduceAdd, Nat.reduceMul, Nat.reduceSub, Nat.reduceDiv, Nat.reduceMod, and_true, true_and, and_false, false_and, not_true_eq_false, not_false_eq_true, or_true, true_or, or_false, false_or, Int32.lt_irrefl, Int32.le_refl, u1, u2, hb0, Bool.toNat_true, Bool.toNat_false, ycnt, yla, hnp, Bool.not_true, Nat.add_zero, b263_87, b263_98, b263_104, b263_117, b263_123, b263_136, b263_140, b263_141, b263_142, b263_153, b263_156, b263_166]
                      · simp (disch := first | omega | simp (disch := omega) only [nI_add, pk_mul, pk_sub, pk_div, znmod, nI_clamp, nIleT, nIleF, nIltT, nIltF, nIeqT, nIeqF, nIm1, nIm1q, zupE, zupN, vpT, nI_01, nI_11, ↓reduceIte, Option.bind_some, Option.toList_some, Option.toList_none, List.cons_append, List.nil_append, Nat.reduceAdd, Nat.reduceMul, Nat.reduceSub, Nat.reduceDiv, Nat.reduceMod, and_true, true_and, and_false, false_and, not_true_eq_false, not_false_eq_true, or_true, true_or, or_false, false_or, Int32.lt_irrefl, Int32.le_refl, u2, hb0, Bool.toNat_true, Bool.toNat_false, ycnt, yla, hnp, Bool.not_true, Nat.add_zero]) only [nI_add, pk_mul, pk_sub, pk_div, znmod, nI_clamp, nIleT, nIleF, nIltT, nIltF, nIeqT, nIeqF, nIm1, nIm1q, zupE, zupN, vpT, nI_01, nI_11, ↓reduceIte, Option.bind_some, Option.toList_some, Option.toList_none, List.cons_append, List.nil_append, Nat.reduceAdd, Nat.reduceMul, Nat.reduceSub, Nat.reduceDiv, Nat.reduceMod, and_true, true_and, and_false, false_and, not_true_eq_false, not_false_eq_true, or_true, true_or, or_false, false_or, Int32.lt_irrefl, Int32.le_refl, u2, hb0, Bool.toNat_true, Bool.toNat_false, ycnt, yla, hnp, Bool.not_true, Nat.add_zero, b263_87, b263_98, b263_104, b263_117, b263_123, b263_136, b263_140, b263_141, b263_142, b263_153, b263_156, b263_166]
                    · have hb0 : ypB a b v = false := ypB_f (fun q => by
                        rcases hs.1 q with q | q | q
                        · exact h0 q
                        · exact h1 q
                        · exact h2 q)
                      by_cases h3 : a ≤ v
                      · have u1 := r1 (v - a) (by omega)
                        rw [ypB_f (fun q => h1 ⟨h3, q⟩)] at u1
                        by_cases h4 : b ≤ v
                        · have u2 := r1 (v - b) (by omega)
                          rw [ypB_f (fun q => h2 ⟨h4, q⟩)] at u2
                          simp (disch := first | omega | simp (disch := omega) only [nI_add, pk_mul, pk_sub, pk_div, znmod, nI_clamp, nIleT, nIleF, nIltT, nIltF, nIeqT, nIeqF, nIm1, nIm1q, zupE, zupN, vpT, nI_01, nI_11, ↓reduceIte, Option.bind_some, Option.toList_some, Option.toList_none, List.cons_append, List.nil_append, Nat.reduceAdd, Nat.reduceMul, Nat.reduceSub, Nat.reduceDiv, Nat.reduceMod, and_true, true_and, and_false, false_and, not_true_eq_false, not_false_eq_true, or_true, true_or, or_false, false_or, Int32.lt_irrefl, Int32.le_refl, u1, u2, hb0, Bool.toNat_true, Bool.toNat_false, ycnt, yla, hnp, Bool.not_false, Bool.false_eq_true]) only [nI_add, pk_mul, pk_sub, pk_div, znmod, nI_clamp, nIleT, nIleF, nIltT, nIltF, nIeqT, nIeqF, nIm1, nIm1q, zupE, zupN, vpT, nI_01, nI_11, ↓reduceIte, Option.bind_some, Option.toList_some, Option.toList_none, List.cons_append, List.nil_append, Nat.reduceAdd, Nat.reduceMul, Nat.reduceSub, Nat.reduceDiv, Nat.reduceMod, and_true, true_and, and_false, false_and, not_true_eq_false, not_false_eq_true, or_true, true_or, or_false, false_or, Int32.lt_irrefl, Int32.le_refl, u1, u2, hb0, Bool.toNat_true, Bool.toNat_false, ycnt, yla, hnp, Bool.not_false, Bool.false_eq_true, b263_87, b263_98, b263_104, b263_117, b263_123, b263_136, b263_140, b263_141, b263_142, b263_153, b263_156, b263_166]
                        · simp (disch := first | omega | simp (disch := omega) only [nI_add, pk_mul, pk_sub, pk_div, znmod, nI_clamp, nIleT, nIleF, nIltT, nIltF, nIeqT, nIeqF, nIm1, nIm1q, zupE, zupN, vpT, nI_01, nI_11, ↓reduceIte, Option.bind_some, Option.toList_some, Option.toList_none, List.cons_append, List.nil_append, Nat.reduceAdd, Nat.reduceMul, Nat.reduceSub, Nat.reduceDiv, Nat.reduceMod, and_true, true_and, and_false, false_and, not_true_eq_false, not_false_eq_true, or_true, true_or, or_false, false_or, Int32.lt_irrefl, Int32.le_refl, u1, hb0, Bool.toNat_true, Bool.toNat_false, ycnt, yla, hnp, Bool.not_false, Bool.false_eq_true]) only [nI_add, pk_mul, pk_sub, pk_div, znmod, nI_clamp, nIleT, nIleF, nIltT, nIltF, nIeqT, nIeqF, nIm1, nIm1q, zupE, zupN, vpT, nI_01, nI_11, ↓reduceIte, Option.bind_some, Option.toList_some, Option.toList_none, List.cons_append, List.nil_append, Nat.reduceAdd, Nat.reduceMul, Nat.reduceSub, Nat.reduceDiv, Nat.reduceMod, and_true, true_and, and_false, false_and, not_true_eq_false, not_false_eq_true, or_true, true_or, or_false, false_or, Int32.lt_irrefl, Int32.le_refl, u1, hb0, Bool.toNat_true, Bool.toNat_false, ycnt, yla, hnp, Bool.not_false, Bool.false_eq_true, b263_87, b263_98, b263_104, b263_117, b263_123, b263_136, b263_140, b263_141, b263_142, b263_153, b263_156, b263_166]
                      · by_cases h4 : b ≤ v
                        · have u2 := r1 (v - b) (by omega)
                          rw [ypB_f (fun q => h2 ⟨h4, q⟩)] at u2
                          simp (disch := first | omega | simp (disch := omega) only [nI_add, pk_mul, pk_sub, pk_div, znmod, nI_clamp, nIleT, nIleF, nIltT, nIltF, nIeqT, nIeqF, nIm1, nIm1q, zupE, zupN, vpT, nI_01, nI_11, ↓reduceIte, Option.bind_some, Option.toList_some, Option.toList_none, List.cons_append, List.nil_append, Nat.reduceAdd, Nat.reduceMul, Nat.reduceSub, Nat.reduceDiv, Nat.reduceMod, and_true, true_and, and_false, false_and, not_true_eq_false, not_false_eq_true, or_true, true_or, or_false, false_or, Int32.lt_irrefl, Int32.le_refl, u2, hb0, Bool.toNat_true, Bool.toNat_false, ycnt, yla, hnp, Bool.not_false, Bool.false_eq_true]) only [nI_add, pk_mul, pk_sub, pk_div, znmod, nI_clamp, nIleT, nIleF, nIltT, nIltF, nIeqT, nIeqF, nIm1, nIm1q, zupE, zupN, vpT, nI_01, nI_11, ↓reduceIte, Option.bind_some, Option.toList_some, Option.toList_none, List.cons_append, List.nil_append, Nat.reduceAdd, Nat.reduceMul, Nat.reduceSub, Nat.reduceDiv, Nat.reduceMod, and_true, true_and, and_false, false_and, not_true_eq_false, not_false_eq_true, or_true, true_or, or_false, false_or, Int32.lt_irrefl, Int32.le_refl, u2, hb0, Bool.toNat_true, Bool.toNat_false, ycnt, yla, hnp, Bool.not_false, Bool.false_eq_true, b263_87, b263_98, b263_104, b263_117, b263_123, b263_136, b263_140, b263_141, b263_142, b263_153, b263_156, b263_166]
                        · simp (disch := first | omega | simp (disch := omega) only [nI_add, pk_mul, pk_sub, pk_div, znmod, nI_clamp, nIleT, nIleF, nIltT, nIltF, nIeqT, nIeqF, nIm1, nIm1q, zupE, zupN, vpT, nI_01, nI_11, ↓reduceIte, Option.bind_some, Option.toList_some, Option.toList_none, List.cons_append, List.nil_append, Nat.reduceAdd, Nat.reduceMul, Nat.reduceSub, Nat.reduceDiv, Nat.reduceMod, and_true, true_and, and_false, false_and, not_true_eq_false, not_false_eq_true, or_true, true_or, or_false, false_or, Int32.lt_irrefl, Int32.le_refl, hb0, Bool.toNat_true, Bool.toNat_false, ycnt, yla, hnp, Bool.not_false, Bool.false_eq_true]) only [nI_add, pk_mul, pk_sub, pk_div, znmod, nI_clamp, nIleT, nIleF, nIltT, nIltF, nIeqT, nIeqF, nIm1, nIm1q, zupE, zupN, vpT, nI_01, nI_11, ↓reduceIte, Option.bind_some, Option.toList_some, Option.toList_none, List.cons_append, List.nil_append, Nat.reduceAdd, Nat.reduceMul, Nat.reduceSub, Nat.reduceDiv, Nat.reduceMod, and_true, true_and, and_false, false_and, not_true_eq_false, not_false_eq_true, or_true, true_or, or_false, false_or, Int32.lt_irrefl, Int32.le_refl, hb0, Bool.toNat_true, Bool.toNat_false, ycnt, yla, hnp, Bool.not_false, Bool.false_eq_true, b263_87, b263_98, b263_104, b263_117, b263_123, b263_136, b263_140, b263_141, b263_142, b263_153, b263_156, b263_166]
              · by_cases e : u = v
                · rw [zupE (by omega), e]
                · rw [zupN (by omega)]; exact r1 u (by omega)) (a * b) (Nat.le_refl _) (zup hm 12 0 0 0 (nI 0)) ⟨fun u hu => absurd hu (by omega), yM_u yM_r rfl⟩
          have q5 := q1.trans b263_79
          rw [p1, p2] at q5
          have f0 : ycnt (ynp a b) 0 = 0 := rfl
          have f1 : yla a b 0 = (-1) := rfl
          have l3 : (a - 1) * (b - 1) < 3600 := Nat.lt_of_le_of_lt (Nat.mul_le_mul (by omega : a - 1 ≤ 59) (by omega : b - 1 ≤ 59)) (by decide)
          have : w = 0 ∨ w = 1 := by omega
          rcases this with rfl | rfl
          · simp (disch := first | omega | simp (disch := omega) only [nI_add, pk_mul, pk_sub, pk_div, znmod, nI_clamp, nIleT, nIleF, nIltT, nIltF, nIeqT, nIeqF, nIm1, nIm1q, zupE, zupN, vpT, nI_01, nI_11, ↓reduceIte, Option.bind_some, Option.toList_some, Option.toList_none, List.cons_append, List.nil_append, Nat.reduceAdd, Nat.reduceMul, Nat.reduceSub, Nat.reduceDiv, Nat.reduceMod, and_true, true_and, and_false, false_and, not_true_eq_false, not_false_eq_true, or_true, true_or, or_false, false_or, Int32.lt_irrefl, Int32.le_refl, f0, f1]) only [nI_add, pk_mul, pk_sub, pk_div, znmod, nI_clamp, nIleT, nIleF, nIltT, nIltF, nIeqT, nIeqF, nIm1, nIm1q, zupE, zupN, vpT, nI_01, nI_11, ↓reduceIte, Option.bind_some, Option.toList_some, Option.toList_none, List.cons_append, List.nil_append, Nat.reduceAdd, Nat.reduceMul, Nat.reduceSub, Nat.reduceDiv, Nat.reduceMod, and_true, true_and, and_false, false_and, not_true_eq_false, not_false_eq_true, or_true, true_or, or_false, false_or, Int32.lt_irrefl, Int32.le_refl, f0, f1, b263_172, b263_176, b263_181, b263_183] at q5
            simp (disch := first | omega | simp (disch := omega) only [nI_add, pk_mul, pk_sub, pk_div, znmod, nI_clamp, nIleT, nIleF, nIltT, nIltF, nIeqT, nIeqF, nIm1, nIm1q, zupE, zupN, vpT, nI_01, nI_11, ↓reduceIte, Option.bind_some, Option.toList_some, Option.toList_none, List.cons_append, List.nil_append, Nat.reduceAdd, Nat.reduceMul, Nat.reduceSub, Nat.reduceDiv, Nat.reduceMod, and_true, true_and, and_false, false_and, not_true_eq_false, not_false_eq_true, or_true, true_or, or_false, false_or, Int32.lt_irrefl, Int32.le_refl, kw, mIn, kl2, ml2, q5]) only [nI_add, pk_mul, pk_sub, pk_div, znmod, nI_clamp, nIleT, nIleF, nIltT, nIltF, nIeqT, nIeqF, nIm1, nIm1q, zupE, zupN, vpT, nI_01, nI_11, ↓reduceIte, Option.bind_some, Option.toList_some, Option.toList_none, List.cons_append, List.nil_append, Nat.reduceAdd, Nat.reduceMul, Nat.reduceSub, Nat.reduceDiv, Nat.reduceMod, and_true, true_and, and_false, false_and, not_true_eq_false, not_false_eq_true, or_true, true_or, or_false, false_or, Int32.lt_irrefl, Int32.le_refl, kw, mIn, kl2, ml2, q5, b139_0, b139_7, b139_10, b139_17, b139_20, b139_26, b139_29, b139_31, b139_40, b139_43, b139_45, b139_49, b139_59, b139_68, b48_0, b263_0, b263_5, b263_13, b263_16, b263_24, b263_27, b263_34, b263_37, b263_39, b263_70]
            exact ⟨_, _, _, rfl, rfl, Rel_yM R r2⟩
          · simp (disch := first | omega | simp (disch := omega) only [nI_add, pk_mul, pk_sub, pk_div, znmod, nI_clamp, nIleT, nIleF, nIltT, nIltF, nIeqT, nIeqF, nIm1, nIm1q, zupE, zupN, vpT, nI_01, nI_11, ↓reduceIte, Option.bind_some, Option.toList_some, Option.toList_none, List.cons_append, List.nil_append, Nat.reduceAdd, Nat.reduceMul, Nat.reduceSub, Nat.reduceDiv, Nat.reduceMod, and_true, true_and, and_false, false_and, not_true_eq_false, not_false_eq_true, or_true, true_or, or_false, false_or, Int32.lt_irrefl, Int32.le_refl, f0, f1]) only [nI_add, pk_mul, pk_sub, pk_div, znmod, nI_clamp, nIleT, nIleF, nIltT, nIltF, nIeqT, nIeqF, nIm1, nIm1q, zupE, zupN, vpT, nI_01, nI_11, ↓reduceIte, Option.bind_some, Option.toList_some, Option.toList_none, List.cons_append, List.nil_append, Nat.reduceAdd, Nat.reduceMul, Nat.reduceSub, Nat.reduceDiv, Nat.reduceMod, and_true, true_and, and_false, false_and, not_true_eq_false, not_false_eq_true, or_true, true_or, or_false, false_or, Int32.lt_irrefl, Int32.le_refl, f0, f1, b263_172, b263_176, b263_181, b263_183] at q5
            simp (disch := first | omega | simp (disch := omega) only [nI_add, pk_mul, pk_sub, pk_div, znmod, nI_clamp, nIleT, nIleF, nIltT, nIltF, nIeqT, nIeqF, nIm1, nIm1q, zupE, zupN, vpT, nI_01, nI_11, ↓reduceIte, Option.bind_some, Option.toList_some, Option.toList_none, List.cons_append, List.nil_append, Nat.reduceAdd, Nat.reduceMul, Nat.reduceSub, Nat.reduceDiv, Nat.reduceMod, and_true, true_and, and_false, false_and, not_true_eq_false, not_false_eq_true, or_true, true_or, or_false, false_or, Int32.lt_irrefl, Int32.le_refl, kw, mIn, kl2, ml2, q5]) only [nI_add, pk_mul, pk_sub, pk_div, znmod, nI_clamp, nIleT, nIleF, nIltT, nIltF, nIeqT, nIeqF, nIm1, nIm1q, zupE, zupN, vpT, nI_01, nI_11, ↓reduceIte, Option.bind_some, Option.toList_some, Option.toList_none, List.cons_append, List.nil_append, Nat.reduceAdd, Nat.reduceMul, Nat.reduceSub, Nat.reduceDiv, Nat.reduceMod, and_true, true_and, and_false, false_and, not_true_eq_false, not_false_eq_true, or_true, true_or, or_false, false_or, Int32.lt_irrefl, Int32.le_refl, kw, mIn, kl2, ml2, q5, b139_0, b139_7, b139_10, b139_17, b139_20, b139_26, b139_29, b139_31, b139_40, b139_43, b139_45, b139_49, b139_59, b139_68, b48_0, b263_0, b263_5, b263_13, b263_16, b263_24, b263_27, b263_34, b263_37, b263_39, b263_70]
            exact ⟨_, _, _, rfl, rfl, Rel_yM R r2⟩
      · simp (disch := first | omega | simp (disch := omega) only [nI_add, pk_mul, pk_sub, pk_div, znmod, nI_clamp, nIleT, nIleF, nIltT, nIltF, nIeqT, nIeqF, nIm1, nIm1q, zupE, zupN, vpT, nI_01, nI_11, ↓reduceIte, Option.bind_some, Option.toList_some, Option.toList_none, List.cons_append, List.nil_append, Nat.reduceAdd, Nat.reduceMul, Nat.reduceSub, Nat.reduceDiv, Nat.reduceMod, and_true, true_and, and_false, false_and, not_true_eq_false, not_false_eq_true, or_true, true_or, or_false, false_or, Int32.lt_irrefl, Int32.le_refl, kw, mIn, q3]) only [nI_add, pk_mul, pk_sub, pk_div, znmod, nI_clamp, nIleT, nIleF, nIltT, nIltF, nIeqT, nIeqF, nIm1, nIm1q, zupE, zupN, vpT, nI_01, nI_11, ↓reduceIte, Option.bind_some, Option.toList_some, Option.toList_none, List.cons_append, List.nil_append, Nat.reduceAdd, Nat.reduceMul, Nat.reduceSub, Nat.reduceDiv, Nat.reduceMod, and_true, true_and, and_false, false_and, not_true_eq_false, not_false_eq_true, or_true, true_or, or_false, false_or, Int32.lt_irrefl, Int32.le_refl, kw, mIn, q3, b139_0, b139_7, b139_10, b139_17, b139_20, b139_26, b139_29, b139_31, b139_40, b139_43, b139_45, b139_49, b139_59, b139_68, b263_0, b263_5, b263_13, b263_16, b263_24, b263_27, b263_34, b263_37]
        exact zS2_no R
    · simp (disch := first | omega | simp (disch := omega) only [nI_add, pk_mul, pk_sub, pk_div, znmod, nI_clamp, nIleT, nIleF, nIltT, nIltF, nIeqT, nIeqF, nIm1, nIm1q, zupE, zupN, vpT, nI_01, nI_11, ↓reduceIte, Option.bind_some, Option.toList_some, Option.toList_none, List.cons_append, List.nil_append, Nat.reduceAdd, Nat.reduceMul, Nat.reduceSub, Nat.reduceDiv, Nat.reduceMod, and_true, true_and, and_false, false_and, not_true_eq_false, not_false_eq_true, or_true, true_or, or_false, false_or, Int32.lt_irrefl, Int32.le_refl, kw, mIn, q2]) only [nI_add, pk_mul, pk_sub, pk_div, znmod, nI_clamp, nIleT, nIleF, nIltT, nIltF, nIeqT, nIeqF, nIm1, nIm1q, zupE, zupN, vpT, nI_01, nI_11, ↓reduceIte, Option.bind_some, Option.toList_some, Option.toList_none, List.cons_append, List.nil_append, Nat.reduceAdd, Nat.reduceMul, Nat.reduceSub, Nat.reduceDiv, Nat.reduceMod, and_true, true_and, and_false, false_and, not_true_eq_false, not_false_eq_true, or_true, true_or, or_false, false_or, Int32.lt_irrefl, Int32.le_refl, kw, mIn, q2, b139_0, b139_7, b139_10, b139_17, b139_20, b139_26, b139_29, b139_31, b139_40, b139_43, b139_45, b139_49, b139_59, b139_68, b263_0, b263_5, b263_13, b263_16, b263_24, b263_27, b263_34, b263_37]
      exact zS2_no R
  · simp (disch := first | omega | simp (disch := omega) only [nI_add, pk_mul, pk_sub, pk_div, znmod, nI_clamp, nIleT, nIleF, nIltT, nIltF, nIeqT, nIeqF, nIm1, nIm1q, zupE, zupN, vpT, nI_01, nI_11, ↓reduceIte, Option.bind_some, Option.toList_some, Option.toList_none, List.cons_append, List.nil_append, Nat.reduceAdd, Nat.reduceMul, Nat.reduceSub, Nat.reduceDiv, Nat.reduceMod, and_true, true_and, and_false, false_and, not_true_eq_false, not_false_eq_true, or_true, true_or, or_false, false_or, Int32.lt_irrefl, Int32.le_refl, kw, mIn, q1]) only [nI_add, pk_mul, pk_sub, pk_div, znmod, nI_clamp, nIleT, nIleF, nIltT, nIltF, nIeqT, nIeqF, nIm1, nIm1q, zupE, zupN, vpT, nI_01, nI_11, ↓reduceIte, Option.bind_some, Option.toList_some, Option.toList_none, List.cons_append, List.nil_append, Nat.reduceAdd, Nat.reduceMul, Nat.reduceSub, Nat.reduceDiv, Nat.reduceMod, and_true, true_and, and_false, false_and, not_true_eq_false, not_false_eq_true, or_true, true_or, or_false, false_or, Int32.lt_irrefl, Int32.le_refl, kw, mIn, q1, b139_0, b139_7, b139_10, b139_17, b139_20, b139_26, b139_29, b139_31, b139_40, b139_43, b139_45, b139_49, b139_59, b139_68, b263_0, b263_5, b263_13, b263_16, b263_24, b263_27, b263_34, b263_37]
    exact zS2_no R
end PR
