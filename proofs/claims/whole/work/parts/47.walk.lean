/-! operation walk -/
theorem ks_bit {c : Nat → Int32} {p q l a b : Nat} (hp : p < 12) (ha : a < 12) (hb : b < 12) (e1 : c (5 * l) = nI a) (e2 : c (5 * l + 1) = nI b) (hab : a ≠ b) : (ks c p (l + 1)).testBit q = ((ks c p l).testBit q || (decide (a = p) && decide (b = q)) || (decide (b = p) && decide (a = q))) := by
  rw [ks, e1, e2, nI_clamp (by omega), nI_clamp (by omega)]
  by_cases c1 : a = p
  · rw [if_pos (by rw [c1]), Nat.testBit_or, Nat.testBit_two_pow]
    have c2 : ¬ b = p := by omega
    simp [c1, c2]
  · rw [if_neg (fun q => c1 ((nI_eq (by omega) (by omega)).1 q))]
    by_cases c2 : b = p
    · rw [if_pos (by rw [c2]), Nat.testBit_or, Nat.testBit_two_pow]
      simp [c1, c2]
    · rw [if_neg (fun q => c2 ((nI_eq (by omega) (by omega)).1 q))]
      simp [c1, c2]
section KF
variable {c : Nat → Int32} {P N : Nat}
theorem ks_sym (hP : P ≤ 12) : ∀ N, (∀ l, l < N → ∃ a b, a < P ∧ b < P ∧ a ≠ b ∧ c (5 * l) = nI a ∧ c (5 * l + 1) = nI b) → ∀ p q, p < 12 → q < 12 → (ks c p N).testBit q = (ks c q N).testBit p
  | 0, _, p, q, _, _ => by show (0 : Nat).testBit q = (0 : Nat).testBit p; rw [Nat.zero_testBit, Nat.zero_testBit]
  | l + 1, h, p, q, hp, hq => by
    obtain ⟨a, b, ha, hb, hab, e1, e2⟩ := h l (by omega)
    rw [ks_bit hp (by omega) (by omega) e1 e2 hab, ks_bit hq (by omega) (by omega) e1 e2 hab, ks_sym hP l (fun l' hl => h l' (by omega)) p q hp hq, Bool.or_assoc, Bool.or_assoc]
    congr 1
    rw [Bool.or_comm]
    congr 1 <;> rw [Bool.and_comm]
theorem ks_irr (hP : P ≤ 12) : ∀ N, (∀ l, l < N → ∃ a b, a < P ∧ b < P ∧ a ≠ b ∧ c (5 * l) = nI a ∧ c (5 * l + 1) = nI b) → ∀ p, p < 12 → (ks c p N).testBit p = false
  | 0, _, p, _ => Nat.zero_testBit p
  | l + 1, h, p, hp => by
    obtain ⟨a, b, ha, hb, hab, e1, e2⟩ := h l (by omega)
    rw [ks_bit hp (by omega) (by omega) e1 e2 hab, ks_irr hP l (fun l' hl => h l' (by omega)) p hp]
    by_cases c1 : a = p
    · have : ¬ b = p := by omega
      simp [this]
    · simp [c1]
theorem ks_bnd (hP : P ≤ 12) : ∀ N, (∀ l, l < N → ∃ a b, a < P ∧ b < P ∧ a ≠ b ∧ c (5 * l) = nI a ∧ c (5 * l + 1) = nI b) → ∀ p q, p < 12 → (ks c p N).testBit q = true → p < P ∧ q < P
  | 0, _, p, q, _, e => by rw [show ks c p 0 = 0 from rfl, Nat.zero_testBit] at e; cases e
  | l + 1, h, p, q, hp, e => by
    obtain ⟨a, b, ha, hb, hab, e1, e2⟩ := h l (by omega)
    rw [ks_bit hp (by omega) (by omega) e1 e2 hab] at e
    cases c0 : (ks c p l).testBit q
    · rw [c0] at e
      simp at e
      omega
    · exact ks_bnd hP l (fun l' hl => h l' (by omega)) p q hp c0
end KF
/-- what holds of who is kin -/
def yKo (K : Nat → Nat) (P : Nat) : Prop := (∀ p, p < 12 → K p < 2 ^ 12) ∧ (∀ p q, p < 12 → q < 12 → (K p).testBit q = (K q).testBit p) ∧ (∀ p, p < 12 → (K p).testBit p = false) ∧ ∀ p q, p < 12 → (K p).testBit q = true → p < P ∧ q < P
theorem yKo_of {c : Nat → Nat → Int32} {o : Nat → Int32} {m : Int32} {P : Nat} (R : RKn c o m P) (hP : P ≤ 12) : ∃ N, N ≤ 16 ∧ c 0 2 = nI N ∧ m = nI N ∧ (∀ l, l < N → ∃ a b, a < 12 ∧ b < 12 ∧ c 1 (5 * l) = nI a ∧ c 1 (5 * l + 1) = nI b) ∧ (∀ p, p < 12 → o p = nI (ks (c 1) p N)) ∧ yKo (fun p => ks (c 1) p N) P := by
  obtain ⟨N, hN, e1, e2, h3, h4⟩ := RKn_l R hP
  obtain ⟨⟨N', hN', e1', _, hl, _⟩, _⟩ := R
  have : N = N' := (nI_eq (by omega) (by omega)).1 (e1.symm.trans e1')
  subst this
  exact ⟨N, hN, e1, e2, h3, h4, fun p _ => ks_lt h3, ks_sym hP N hl, ks_irr hP N hl, ks_bnd hP N hl⟩
def ysub (a b : Nat) : Prop := ∀ q, a.testBit q = true → b.testBit q = true
theorem ysub_eq {a b : Nat} (h1 : ysub a b) (h2 : ysub b a) : a = b := Nat.eq_of_testBit_eq fun i => yWeq ⟨h1 i, h2 i⟩
section PU
variable {K : Nat → Nat} {P : Nat}
theorem yor_bit {s q : Nat} : ∀ n, (yor K s n).testBit q = true ↔ ∃ p, p < n ∧ s.testBit p = true ∧ (K p).testBit q = true
  | 0 => by
    rw [show yor K s 0 = 0 from rfl, Nat.zero_testBit]
    constructor
    · intro h; cases h
    · rintro ⟨p, hp, _⟩; exact absurd hp (Nat.not_lt_zero _)
  | n + 1 => by
    rw [yor]
    split
    · next hs =>
      rw [Nat.testBit_or, Bool.or_eq_true, yor_bit n]
      constructor
      · rintro (⟨p, hp, h⟩ | h)
        · exact ⟨p, by omega, h⟩
        · exact ⟨n, by omega, hs, h⟩
      · rintro ⟨p, hp, h⟩
        by_cases e : p = n
        · subst e; exact Or.inr h.2
        · exact Or.inl ⟨p, by omega, h⟩
    · next hs =>
      rw [yor_bit n]
      constructor
      · rintro ⟨p, hp, h⟩; exact ⟨p, by omega, h⟩
      · rintro ⟨p, hp, h⟩
        by_cases e : p = n
        · subst e; exact absurd h.1 hs
        · exact ⟨p, by omega, h⟩
theorem yca_bit {s q : Nat} : (yca K P s).testBit q = true ↔ s.testBit q = true ∨ ∃ p, p < P ∧ s.testBit p = true ∧ (K p).testBit q = true := by
  unfold yca
  rw [Nat.testBit_or, Bool.or_eq_true, yor_bit]
theorem yca_mono {a b : Nat} (h : ysub a b) : ysub (yca K P a) (yca K P b) := fun q hq => by
  rw [yca_bit] at hq ⊢
  rcases hq with hq | ⟨p, hp, h1, h2⟩
  · exact Or.inl (h q hq)
  · exact Or.inr ⟨p, hp, h p h1, h2⟩
def yseq (K : Nat → Nat) (s : Nat) : Nat → Nat
  | 0 => s
  | p + 1 => if (yseq K s p).testBit p = true then yseq K s p ||| K p else yseq K s p
def ykk (K : Nat → Nat) (P s : Nat) : Nat → Nat
  | 0 => s
  | n + 1 => yseq K (ykk K P s n) P
theorem yseq_s {s : Nat} : ∀ p, ysub s (yseq K s p)
  | 0 => fun _ h => h
  | p + 1 => fun q h => by
    rw [yseq]
    split
    · rw [Nat.testBit_or, yseq_s p q h]; rfl
    · exact yseq_s p q h
theorem yseq_k {s : Nat} : ∀ p r, r < p → s.testBit r = true → ysub (K r) (yseq K s p)
  | 0, r, h, _ => absurd h (Nat.not_lt_zero _)
  | p + 1, r, h, hs => fun q hq => by
    rw [yseq]
    by_cases e : r = p
    · subst e
      rw [if_pos (yseq_s r r hs), Nat.testBit_or, hq, Bool.or_true]
    · have := yseq_k p r (by omega) hs q hq
      split
      · rw [Nat.testBit_or, this]; rfl
      · exact this
theorem yseq_c {s C : Nat} (h : ysub s C) (hC : ∀ p, p < P → C.testBit p = true → ysub (K p) C) : ∀ p, p ≤ P → ysub (yseq K s p) C
  | 0, _ => h
  | p + 1, hp => fun q hq => by
    have ih := yseq_c h hC p (by omega)
    rw [yseq] at hq
    split at hq
    · next hb =>
      rw [Nat.testBit_or, Bool.or_eq_true] at hq
      rcases hq with hq | hq
      · exact ih q hq
      · exact hC p (by omega) (ih p hb) q hq
    · exact ih q hq
theorem ykk_eq {s : Nat} (hK : ∀ p, p < P → K p < 2 ^ 12) (hs : s < 2 ^ 12) : ykk K P s 12 = yit K P s 12 := by
  obtain ⟨t, ht, f1, _⟩ := yfix (K := K) (P := P) hK hs
  have f2 := yit_fix f1 (12 - t)
  rw [show t + (12 - t) = 12 by omega] at f2
  have cl : yca K P (yit K P s 12) = yit K P s 12 := by rw [f2, f1]
  have hC : ∀ p, p < P → (yit K P s 12).testBit p = true → ysub (K p) (yit K P s 12) := fun p hp hb q hq => by
    rw [← cl, yca_bit]
    exact Or.inr ⟨p, hp, hb, hq⟩
  have mono : ∀ n, ysub (yit K P s n) (yit K P s (n + 1)) := fun n q hq => by
    rw [yit, yca_bit]; exact Or.inl hq
  have up : ∀ n, ysub s (yit K P s n) := by
    intro n
    induction n with
    | zero => exact fun _ h => h
    | succ n ih => exact fun q hq => mono n q (ih q hq)
  have lo : ∀ n, ysub (yit K P s n) (ykk K P s n) := by
    intro n
    induction n with
    | zero => exact fun _ h => h
    | succ n ih =>
      intro q hq
      have h1 := yca_mono (K := K) (P := P) ih q hq
      rw [yca_bit] at h1
      rcases h1 with h1 | ⟨p, hp, h1, h2⟩
      · exact yseq_s P q h1
      · exact yseq_k P p hp h1 q h2
  have hi : ∀ n, ysub (ykk K P s n) (yit K P s 12) := by
    intro n
    induction n with
    | zero => exact up 12
    | succ n ih => exact yseq_c ih hC P (Nat.le_refl _)
  exact ysub_eq (hi 12) (lo 12)
theorem yseq_lt {s : Nat} (hs : s < 2 ^ 12) : ∀ p, (∀ r, r < p → K r < 2 ^ 12) → yseq K s p < 2 ^ 12
  | 0, _ => hs
  | p + 1, h => by
    rw [yseq]
    split
    · exact zOrLt (yseq_lt hs p (fun r hr => h r (by omega))) (h p (by omega))
    · exact yseq_lt hs p (fun r hr => h r (by omega))
theorem ykk_lt {s : Nat} (hs : s < 2 ^ 12) (hK : ∀ r, r < P → K r < 2 ^ 12) : ∀ n, ykk K P s n < 2 ^ 12
  | 0 => hs
  | n + 1 => yseq_lt (ykk_lt hs hK n) P hK
def ybs (f : Nat → Bool) : Nat → Nat
  | 0 => 0
  | p + 1 => if f p = true then ybs f p ||| 2 ^ p else ybs f p
theorem ybs_bit {f : Nat → Bool} {q : Nat} : ∀ n, (ybs f n).testBit q = (decide (q < n) && f q)
  | 0 => by rw [show ybs f 0 = 0 from rfl, Nat.zero_testBit]; simp
  | n + 1 => by
    rw [ybs]
    split
    · next h =>
      rw [Nat.testBit_or, ybs_bit n, Nat.testBit_two_pow]
      by_cases e : n = q
      · subst e; simp [h]
      · by_cases e2 : q < n
        · have e3 : q < n + 1 := by omega
          simp [e, e2, e3]
        · have e3 : ¬ q < n + 1 := by omega
          simp [e, e2, e3]
    · next h =>
      rw [ybs_bit n]
      by_cases e : n = q
      · subst e; simp [h]
      · by_cases e2 : q < n
        · have e3 : q < n + 1 := by omega
          simp [e2, e3]
        · have e3 : ¬ q < n + 1 := by omega
          simp [e2, e3]
theorem ybs_lt {f : Nat → Bool} : ∀ n, n ≤ 12 → ybs f n < 2 ^ 12
  | 0, _ => by show 0 < 2 ^ 12; decide
  | n + 1, h => by
    rw [ybs]
    split
    · exact zOrLt (ybs_lt n (by omega)) (z2p (by omega))
    · exact ybs_lt n (by omega)
/-- the same from above -/
def ybw (f : Nat → Bool) (P : Nat) : Nat → Nat
  | 0 => 0
  | i + 1 => if f (P - 1 - i) = true then ybw f P i ||| 2 ^ (P - 1 - i) else ybw f P i
theorem ybw_bit {f : Nat → Bool} {P q : Nat} : ∀ i, i ≤ P → (ybw f P i).testBit q = (decide (P - i ≤ q) && decide (q < P) && f q)
  | 0, _ => by
    rw [show ybw f P 0 = 0 from rfl, Nat.zero_testBit]
    by_cases h : q < P
    · have : ¬ P ≤ q := by omega
      simp [this]
    · simp [h]
  | i + 1, hi => by
    rw [ybw]
    by_cases e : P - 1 - i = q
    · have a1 : P - (i + 1) ≤ q := by omega
      have a2 : q < P := by omega
      split
      · next h =>
        rw [e] at h
        rw [Nat.testBit_or, Nat.testBit_two_pow]
        simp [e, h, a1, a2]
      · next h =>
        rw [e] at h
        rw [ybw_bit i (by omega)]
        simp [h]
    · by_cases a1 : P - (i + 1) ≤ q
      · have a2 : P - i ≤ q := by omega
        split
        · rw [Nat.testBit_or, Nat.testBit_two_pow, ybw_bit i (by omega)]
          simp [e, a1, a2]
        · rw [ybw_bit i (by omega)]
          simp [a1, a2]
      · have a2 : ¬ P - i ≤ q := by omega
        split
        · rw [Nat.testBit_or, Nat.testBit_two_pow, ybw_bit i (by omega)]
          simp [e, a1, a2]
        · rw [ybw_bit i (by omega)]
          simp [a1, a2]
theorem ybw_eq {f : Nat → Bool} {P : Nat} : ybw f P P = ybs f P := Nat.eq_of_testBit_eq fun q => by
  rw [ybw_bit P (Nat.le_refl _), ybs_bit]
  simp
theorem ybw_lt {f : Nat → Bool} {P : Nat} (hP : P ≤ 12) : ∀ i, i ≤ P → ybw f P i < 2 ^ 12
  | 0, _ => by show 0 < 2 ^ 12; decide
  | i + 1, h => by
    rw [ybw]
    split
    · exact zOrLt (ybw_lt hP i (by omega)) (z2p (by omega))
    · exact ybw_lt hP i (by omega)
end PU

/-! hands are shaken by two: who has an odd number of kin is an even number -/
theorem ysym2 {A : Nat → Nat → Nat} : ∀ n, (∀ i j, i < n → j < n → A i j = A j i) → (∀ i, i < n → A i i = 0) → ycnt (fun i => ycnt (A i) n) n % 2 = 0
  | 0, _, _ => rfl
  | n + 1, hs, h0 => by
    have ih := ysym2 n (fun i j hi hj => hs i j (by omega) (by omega)) (fun i hi => h0 i (by omega))
    have e1 : ycnt (fun i => ycnt (A i) (n + 1)) n = ycnt (fun i => ycnt (A i) n) n + ycnt (fun i => A i n) n := ycnt_a
    have e2 : ycnt (fun i => A i n) n = ycnt (A n) n := ycnt_c (fun i hi => hs i n (by omega) (by omega))
    show (ycnt (fun i => ycnt (A i) (n + 1)) n + (ycnt (A n) n + A n n)) % 2 = 0
    rw [e1, e2, h0 n (by omega)]
    omega
theorem ycnt_2 {f : Nat → Nat} : ∀ n, ycnt (fun i => f i % 2) n % 2 = ycnt f n % 2
  | 0 => rfl
  | n + 1 => by
    have ih := ycnt_2 (f := f) n
    show (ycnt (fun i => f i % 2) n + f n % 2) % 2 = (ycnt f n + f n) % 2
    omega
theorem yones_0 {n : Nat} (hn : n < 2 ^ 12) (h : yones n = 0) : n = 0 := by
  apply Classical.byContradiction
  intro hne
  have h1 := yones_lt (s := 0) (x := n) (by decide) hn (by rw [Nat.zero_or]; exact hne)
  rw [Nat.zero_or, h] at h1
  exact absurd h1 (Nat.not_lt_zero _)
def yodd (K : Nat → Nat) (P : Nat) : Nat := ybs (fun p => decide (yones (K p) % 2 = 1)) P
theorem yodd_even {K : Nat → Nat} {P : Nat} (hP : P ≤ 12) (h : yKo K P) : yones (yodd K P) % 2 = 0 := by
  obtain ⟨h1, h2, h3, h4⟩ := h
  have e1 : yones (yodd K P) = ycnt (fun i => yones (K i) % 2) 12 := by
    refine ycnt_c (fun i hi => ?_)
    unfold yodd
    rw [ybs_bit]
    by_cases c : i < P
    · by_cases c2 : yones (K i) % 2 = 1
      · simp [c, c2]
      · have : yones (K i) % 2 = 0 := by omega
        simp [c, this]
    · have : K i = 0 := by
        apply Nat.eq_of_testBit_eq
        intro q
        rw [Nat.zero_testBit]
        cases hb : (K i).testBit q
        · rfl
        · exact absurd (h4 i q hi hb).1 c
      rw [this, show yones 0 = 0 by decide]
      simp [c]
  rw [e1, ycnt_2]
  exact ysym2 (A := fun i j => ((K i).testBit j).toNat) 12 (fun i j hi hj => by rw [h2 i j hi hj]) (fun i hi => by rw [h3 i hi]; rfl)
/-! the first of a set -/
def yN4 (i n : Int32) : Int32 := n + ((i.toUInt32 >>> ((nI 1).toUInt32 &&& Int32.toUInt32 31)).toInt32)
def yN3 (i n : Int32) : Int32 := if i ≤ nI 4 then yN4 i n else yN4 ((i.toUInt32 >>> ((nI 2).toUInt32 &&& Int32.toUInt32 31)).toInt32) (n + nI 2)
def yN2 (i n : Int32) : Int32 := if i ≤ nI 16 then yN3 i n else yN3 ((i.toUInt32 >>> ((nI 4).toUInt32 &&& Int32.toUInt32 31)).toInt32) (n + nI 4)
def yN1 (i n : Int32) : Int32 := if i ≤ nI 256 then yN2 i n else yN2 ((i.toUInt32 >>> ((nI 8).toUInt32 &&& Int32.toUInt32 31)).toInt32) (n + nI 8)
def yN0 (i n : Int32) : Int32 := if i ≤ nI 65536 then yN1 i n else yN1 ((i.toUInt32 >>> ((nI 16).toUInt32 &&& Int32.toUInt32 31)).toInt32) (n + nI 16)
def yNT (x : Int32) : Int32 := if nI 0 < ((x ^^^ (-1)) &&& (x - nI 1)) then yN0 ((x ^^^ (-1)) &&& (x - nI 1)) (nI 1) else ((x ^^^ (-1)) &&& (x - nI 1)) &&& nI 32
def yfs (n : Nat) : Nat := (zfst (fun i => n.testBit i) 12).getD 0
theorem yNT_ok : ∀ n, n < 4096 → n ≠ 0 → yNT (nI n) = nI (yfs n) := y4096 (by decide +kernel)
section WK
variable {L d : Nat} {hc hm h : zH} {x1 x2 x3 x4 x5 x i n : Int32} {K : Nat → Nat} {P N : Nat}
theorem kN4 : zev L d 286 74 [some (.inl i), some (.inl n)] [] h = some (some (.inl (yN4 i n)), h) := b286_74
theorem kN3 : zev L d 286 62 [some (.inl i), some (.inl n)] [] h = some (some (.inl (yN3 i n)), h) := by
  rw [b286_62]; unfold yN3
  by_cases c : i ≤ nI 4
  · rw [if_pos c, if_pos c, kN4]
  · rw [if_neg c, if_neg c, b286_67, kN4]
theorem kN2 : zev L d 286 49 [some (.inl i), some (.inl n)] [] h = some (some (.inl (yN2 i n)), h) := by
  rw [b286_49]; unfold yN2
  by_cases c : i ≤ nI 16
  · rw [if_pos c, if_pos c, kN3]
  · rw [if_neg c, if_neg c, b286_55, kN3]
theorem kN1 : zev L d 286 34 [some (.inl i), some (.inl n)] [] h = some (some (.inl (yN1 i n)), h) := by
  rw [b286_34]; unfold yN1
  by_cases c : i ≤ nI 256
  · rw [if_pos c, if_pos c, kN2]
  · rw [if_neg c, if_neg c, b286_41, kN2]
theorem kN0 : zev L d 286 17 [some (.inl i), none] [] h = some (some (.inl (yN0 i (nI 1))), h) := by
  rw [b286_17]; unfold yN0
  by_cases c : i ≤ nI 65536
  · rw [if_pos c, if_pos c, kN1]
  · rw [if_neg c, if_neg c, b286_26, kN1]
theorem kNT {m : Nat} (hm : m < 4096) (h0 : m ≠ 0) : zev L d 286 0 [some (.inl (nI m)), none] [] h = some (some (.inl (nI (yfs m))), h) := by
  rw [← yNT_ok m hm h0, b286_0]; unfold yNT
  by_cases c : nI 0 < ((nI m ^^^ (-1)) &&& (nI m - nI 1))
  · rw [if_pos c, if_pos c, kN0]
  · rw [if_neg c, if_neg c, b286_12]
theorem zfst_mono {g : Nat → Bool} {n j : Nat} (h : zfst g n = some j) : ∀ k, zfst g (n + k) = some j
  | 0 => h
  | k + 1 => by rw [← Nat.add_assoc, zfst, zfst_mono h k]
theorem zShl0 {p : Nat} (hp : p < 32) : nI 0 <<< (nI p &&& 31) = nI 0 := by
  rw [pk_shlN _ p (zsl p hp) (by rw [Nat.zero_mul]; decide), Nat.zero_mul]
theorem kOddKin (hP : P ≤ 12) (e : h 0 0 0 2 = nI P) (hk : ∀ p, p < P → h 0 0 1 p = nI (K p)) (hK : ∀ p, p < P → K p < 2 ^ 12) : zev L (d + 1) 10 0 [some (.inr (.inl (0, 0, 0))), none, none] [] h = some (some (.inl (nI (yodd K P))), h) := by
  obtain ⟨_, k1, _⟩ := zinv (P := fun p (_ : Unit) => zev L (d + 1) 10 4 [some (.inr (.inl (0, 0, 0))), some (.inl (nI (yodd K p))), some (.inl (nI p))] [] h) (R := fun _ _ => True) (N := P) (fun p _ hp _ => by
    refine ⟨(), b10_4.trans ?_, trivial⟩
    have u := hk p hp
    have kb := kBC (L := L) (d := d) (h := h) (hK p hp)
    have ea := Nat.and_one_is_mod (yones (K p))
    by_cases c : yones (K p) % 2 = 1
    · have e2 : yodd K (p + 1) = yodd K p ||| 2 ^ p := by unfold yodd; rw [ybs, if_pos (decide_eq_true c)]
      rw [c] at ea
      simp (disch := first | omega | simp (disch := omega) only [nI_add, pk_mul, pk_sub, pk_div, znmod, nI_clamp, nIleT, nIleF, nIltT, nIltF, nIeqT, nIeqF, nIm1, nIm1q, zupE, zupN, vpT, nI_01, nI_11, ↓reduceIte, Option.bind_some, Option.toList_some, Option.toList_none, List.cons_append, List.nil_append, Nat.reduceAdd, Nat.reduceMul, Nat.reduceSub, Nat.reduceDiv, Nat.reduceMod, and_true, true_and, and_false, false_and, not_true_eq_false, not_false_eq_true, or_true, true_or, or_false, false_or, Int32.lt_irrefl, Int32.le_refl, e, u, kb, zAnd, ea, zShl, zOr, e2]) only [nI_add, pk_mul, pk_sub, pk_div, znmod, nI_clamp, nIleT, nIleF, nIltT, nIltF, nIeqT, nIeqF, nIm1, nIm1q, zupE, zupN, vpT, nI_01, nI_11, ↓reduceIte, Option.bind_some, Option.toList_some, Option.toList_none, List.cons_append, List.nil_append, Nat.reduceAdd, Nat.reduceMul, Nat.reduceSub, Nat.reduceDiv, Nat.reduceMod, and_true, true_and, and_false, false_and, not_true_eq_false, not_false_eq_true, or_true, true_or, or_false, false_or, Int32.lt_irrefl, Int32.le_refl, e, u, kb, zAnd, ea, zShl, zOr, e2, b10_12, b10_22]
    · have e2 : yodd K (p + 1) = yodd K p := by unfold yodd; rw [ybs, if_neg (by simp [c])]
      rw [show yones (K p) % 2 = 0 by omega] at ea
      simp (disch := first | omega | simp (disch := omega) only [nI_add, pk_mul, pk_sub, pk_div, znmod, nI_clamp, nIleT, nIleF, nIltT, nIltF, nIeqT, nIeqF, nIm1, nIm1q, zupE, zupN, vpT, nI_01, nI_11, ↓reduceIte, Option.bind_some, Option.toList_some, Option.toList_none, List.cons_append, List.nil_append, Nat.reduceAdd, Nat.reduceMul, Nat.reduceSub, Nat.reduceDiv, Nat.reduceMod, and_true, true_and, and_false, false_and, not_true_eq_false, not_false_eq_true, or_true, true_or, or_false, false_or, Int32.lt_irrefl, Int32.le_refl, e, u, kb, zAnd, ea, zShl0, zOr, e2, Nat.or_zero]) only [nI_add, pk_mul, pk_sub, pk_div, znmod, nI_clamp, nIleT, nIleF, nIltT, nIltF, nIeqT, nIeqF, nIm1, nIm1q, zupE, zupN, vpT, nI_01, nI_11, ↓reduceIte, Option.bind_some, Option.toList_some, Option.toList_none, List.cons_append, List.nil_append, Nat.reduceAdd, Nat.reduceMul, Nat.reduceSub, Nat.reduceDiv, Nat.reduceMod, and_true, true_and, and_false, false_and, not_true_eq_false, not_false_eq_true, or_true, true_or, or_false, false_or, Int32.lt_irrefl, Int32.le_refl, e, u, kb, zAnd, ea, zShl0, zOr, e2, Nat.or_zero, b10_12, b10_22]) P (Nat.le_refl _) () trivial
  have k2 := k1.trans b10_4
  have e0 : yodd K 0 = 0 := rfl
  simp (disch := first | omega | simp (disch := omega) only [nI_add, pk_mul, pk_sub, pk_div, znmod, nI_clamp, nIleT, nIleF, nIltT, nIltF, nIeqT, nIeqF, nIm1, nIm1q, zupE, zupN, vpT, nI_01, nI_11, ↓reduceIte, Option.bind_some, Option.toList_some, Option.toList_none, List.cons_append, List.nil_append, Nat.reduceAdd, Nat.reduceMul, Nat.reduceSub, Nat.reduceDiv, Nat.reduceMod, and_true, true_and, and_false, false_and, not_true_eq_false, not_false_eq_true, or_true, true_or, or_false, false_or, Int32.lt_irrefl, Int32.le_refl, e, e0]) only [nI_add, pk_mul, pk_sub, pk_div, znmod, nI_clamp, nIleT, nIleF, nIltT, nIltF, nIeqT, nIeqF, nIm1, nIm1q, zupE, zupN, vpT, nI_01, nI_11, ↓reduceIte, Option.bind_some, Option.toList_some, Option.toList_none, List.cons_append, List.nil_append, Nat.reduceAdd, Nat.reduceMul, Nat.reduceSub, Nat.reduceDiv, Nat.reduceMod, and_true, true_and, and_false, false_and, not_true_eq_false, not_false_eq_true, or_true, true_or, or_false, false_or, Int32.lt_irrefl, Int32.le_refl, e, e0, b10_34] at k2
  exact b10_0.trans k2
def ysome (K : Nat → Nat) (P : Nat) : Nat := yor K (2 ^ P - 1) P
def ykind (K : Nat → Nat) (P : Nat) : Nat := if ysome K P = 0 then 0 else if yit K P (2 ^ yfs (ysome K P)) 12 = ysome K P then (if yodd K P = 0 then 2 else if yones (yodd K P) = 2 then 1 else 0) else 0
theorem yfs_lt {m : Nat} : yfs m < 12 := by
  unfold yfs
  cases h : zfst (fun i => m.testBit i) 12 with
  | none => show 0 < 12; decide
  | some j => exact (zfst_lt h).1
theorem y2P (hP : P ≤ 12) : (nI 1 <<< (nI P &&& 31)) - nI 1 = nI (2 ^ P - 1) := by
  rw [zShl (by omega), pk_sub (Nat.two_pow_pos P)]
theorem kKind (hP : P ≤ 12) (e : h 0 0 0 2 = nI P) (hk : ∀ p, p < P → h 0 0 1 p = nI (K p)) (hK : ∀ p, p < P → K p < 2 ^ 12) : zev L (d + 3) 8 0 [some (.inr (.inl (0, 0, 0))), none, none] [] h = some (some (.inl (nI (ykind K P))), h) := by
  have l0 : 2 ^ P - 1 < 2 ^ 12 := by have := Nat.pow_le_pow_right (n := 2) (by decide) hP; omega
  have lS : ysome K P < 2 ^ 12 := yor_lt hK
  have ka := fun d => kKinAll (L := L) (d := d) (h := h) hP e hk l0
  have e1 : yor K (2 ^ P - 1) P = ysome K P := rfl
  rw [e1] at ka
  have e2 := y2P hP
  unfold ykind
  by_cases c0 : ysome K P = 0
  · simp (disch := first | omega | simp (disch := omega) only [nI_add, pk_mul, pk_sub, pk_div, znmod, nI_clamp, nIleT, nIleF, nIltT, nIltF, nIeqT, nIeqF, nIm1, nIm1q, zupE, zupN, vpT, nI_01, nI_11, ↓reduceIte, Option.bind_some, Option.toList_some, Option.toList_none, List.cons_append, List.nil_append, Nat.reduceAdd, Nat.reduceMul, Nat.reduceSub, Nat.reduceDiv, Nat.reduceMod, and_true, true_and, and_false, false_and, not_true_eq_false, not_false_eq_true, or_true, true_or, or_false, false_or, Int32.lt_irrefl, Int32.le_refl, e, e2, ka, c0]) only [nI_add, pk_mul, pk_sub, pk_div, znmod, nI_clamp, nIleT, nIleF, nIltT, nIltF, nIeqT, nIeqF, nIm1, nIm1q, zupE, zupN, vpT, nI_01, nI_11, ↓reduceIte, Option.bind_some, Option.toList_some, Option.toList_none, List.cons_append, List.nil_append, Nat.reduceAdd, Nat.reduceMul, Nat.reduceSub, Nat.reduceDiv, Nat.reduceMod, and_true, true_and, and_false, false_and, not_true_eq_false, not_false_eq_true, or_true, true_or, or_false, false_or, Int32.lt_irrefl, Int32.le_refl, e, e2, ka, c0, b8_0, b8_12, b8_17, b8_22, b8_27, b8_31, b8_33, b8_37, b8_42, b8_46, b8_50, b8_54, b8_58, b8_59]
  · have kn := fun d => kNT (L := L) (d := d) (h := h) lS c0
    have ks := fun d => kSpread (L := L) (d := d) (h := h) (a := yfs (ysome K P)) (n := 12) hP e hk hK yfs_lt (by omega)
    have lC := yit_lt (K := K) (P := P) (n := 12) hK (z2p (yfs_lt (m := ysome K P)))
    have ko := fun d => kOddKin (L := L) (d := d) (h := h) hP e hk hK
    have lO : yodd K P < 2 ^ 12 := ybs_lt P hP
    have kb := fun d => kBC (L := L) (d := d) (h := h) lO
    by_cases c1 : yit K P (2 ^ yfs (ysome K P)) 12 = ysome K P
    · have l12 := yones_12 (yodd K P)
      by_cases c2 : yodd K P = 0
      · simp (disch := first | omega | simp (disch := omega) only [nI_add, pk_mul, pk_sub, pk_div, znmod, nI_clamp, nIleT, nIleF, nIltT, nIltF, nIeqT, nIeqF, nIm1, nIm1q, zupE, zupN, vpT, nI_01, nI_11, ↓reduceIte, Option.bind_some, Option.toList_some, Option.toList_none, List.cons_append, List.nil_append, Nat.reduceAdd, Nat.reduceMul, Nat.reduceSub, Nat.reduceDiv, Nat.reduceMod, and_true, true_and, and_false, false_and, not_true_eq_false, not_false_eq_true, or_true, true_or, or_false, false_or, Int32.lt_irrefl, Int32.le_refl, e, e2, ka, kn, ks, c0, c1, ko, c2]) only [nI_add, pk_mul, pk_sub, pk_div, znmod, nI_clamp, nIleT, nIleF, nIltT, nIltF, nIeqT, nIeqF, nIm1, nIm1q, zupE, zupN, vpT, nI_01, nI_11, ↓reduceIte, Option.bind_some, Option.toList_some, Option.toList_none, List.cons_append, List.nil_append, Nat.reduceAdd, Nat.reduceMul, Nat.reduceSub, Nat.reduceDiv, Nat.reduceMod, and_true, true_and, and_false, false_and, not_true_eq_false, not_false_eq_true, or_true, true_or, or_false, false_or, Int32.lt_irrefl, Int32.le_refl, e, e2, ka, kn, ks, c0, c1, ko, c2, b8_0, b8_12, b8_17, b8_22, b8_27, b8_31, b8_33, b8_37, b8_42, b8_46, b8_50, b8_54, b8_58, b8_59]
      · by_cases c3 : yones (yodd K P) = 2
        · simp (disch := first | omega | simp (disch := omega) only [nI_add, pk_mul, pk_sub, pk_div, znmod, nI_clamp, nIleT, nIleF, nIltT, nIltF, nIeqT, nIeqF, nIm1, nIm1q, zupE, zupN, vpT, nI_01, nI_11, ↓reduceIte, Option.bind_some, Option.toList_some, Option.toList_none, List.cons_append, List.nil_append, Nat.reduceAdd, Nat.reduceMul, Nat.reduceSub, Nat.reduceDiv, Nat.reduceMod, and_true, true_and, and_false, false_and, not_true_eq_false, not_false_eq_true, or_true, true_or, or_false, false_or, Int32.lt_irrefl, Int32.le_refl, e, e2, ka, kn, ks, c0, c1, ko, c2, kb, c3]) only [nI_add, pk_mul, pk_sub, pk_div, znmod, nI_clamp, nIleT, nIleF, nIltT, nIltF, nIeqT, nIeqF, nIm1, nIm1q, zupE, zupN, vpT, nI_01, nI_11, ↓reduceIte, Option.bind_some, Option.toList_some, Option.toList_none, List.cons_append, List.nil_append, Nat.reduceAdd, Nat.reduceMul, Nat.reduceSub, Nat.reduceDiv, Nat.reduceMod, and_true, true_and, and_false, false_and, not_true_eq_false, not_false_eq_true, or_true, true_or, or_false, false_or, Int32.lt_irrefl, Int32.le_refl, e, e2, ka, kn, ks, c0, c1, ko, c2, kb, c3, b8_0, b8_12, b8_17, b8_22, b8_27, b8_31, b8_33, b8_37, b8_42, b8_46, b8_50, b8_54, b8_58, b8_59]
        · simp (disch := first | omega | simp (disch := omega) only [nI_add, pk_mul, pk_sub, pk_div, znmod, nI_clamp, nIleT, nIleF, nIltT, nIltF, nIeqT, nIeqF, nIm1, nIm1q, zupE, zupN, vpT, nI_01, nI_11, ↓reduceIte, Option.bind_some, Option.toList_some, Option.toList_none, List.cons_append, List.nil_append, Nat.reduceAdd, Nat.reduceMul, Nat.reduceSub, Nat.reduceDiv, Nat.reduceMod, and_true, true_and, and_false, false_and, not_true_eq_false, not_false_eq_true, or_true, true_or, or_false, false_or, Int32.lt_irrefl, Int32.le_refl, e, e2, ka, kn, ks, c0, c1, ko, c2, kb, c3]) only [nI_add, pk_mul, pk_sub, pk_div, znmod, nI_clamp, nIleT, nIleF, nIltT, nIltF, nIeqT, nIeqF, nIm1, nIm1q, zupE, zupN, vpT, nI_01, nI_11, ↓reduceIte, Option.bind_some, Option.toList_some, Option.toList_none, List.cons_append, List.nil_append, Nat.reduceAdd, Nat.reduceMul, Nat.reduceSub, Nat.reduceDiv, Nat.reduceMod, and_true, true_and, and_false, false_and, not_true_eq_false, not_false_eq_true, or_true, true_or, or_false, false_or, Int32.lt_irrefl, Int32.le_refl, e, e2, ka, kn, ks, c0, c1, ko, c2, kb, c3, b8_0, b8_12, b8_17, b8_22, b8_27, b8_31, b8_33, b8_37, b8_42, b8_46, b8_50, b8_54, b8_58, b8_59]
    · simp (disch := first | omega | simp (disch := omega) only [nI_add, pk_mul, pk_sub, pk_div, znmod, nI_clamp, nIleT, nIleF, nIltT, nIltF, nIeqT, nIeqF, nIm1, nIm1q, zupE, zupN, vpT, nI_01, nI_11, ↓reduceIte, Option.bind_some, Option.toList_some, Option.toList_none, List.cons_append, List.nil_append, Nat.reduceAdd, Nat.reduceMul, Nat.reduceSub, Nat.reduceDiv, Nat.reduceMod, and_true, true_and, and_false, false_and, not_true_eq_false, not_false_eq_true, or_true, true_or, or_false, false_or, Int32.lt_irrefl, Int32.le_refl, e, e2, ka, kn, ks, c0, c1]) only [nI_add, pk_mul, pk_sub, pk_div, znmod, nI_clamp, nIleT, nIleF, nIltT, nIltF, nIeqT, nIeqF, nIm1, nIm1q, zupE, zupN, vpT, nI_01, nI_11, ↓reduceIte, Option.bind_some, Option.toList_some, Option.toList_none, List.cons_append, List.nil_append, Nat.reduceAdd, Nat.reduceMul, Nat.reduceSub, Nat.reduceDiv, Nat.reduceMod, and_true, true_and, and_false, false_and, not_true_eq_false, not_false_eq_true, or_true, true_or, or_false, false_or, Int32.lt_irrefl, Int32.le_refl, e, e2, ka, kn, ks, c0, c1, b8_0, b8_12, b8_17, b8_22, b8_27, b8_31, b8_33, b8_37, b8_42, b8_46, b8_50, b8_54, b8_58, b8_59]
def ystart (K : Nat → Nat) (P : Nat) : Int32 := if ykind K P = 2 then nI (yfs (ysome K P)) else if ykind K P = 1 then nI (yfs (yodd K P)) else (-1)
theorem ykind_le : ykind K P ≤ 2 := by
  unfold ykind
  split
  · omega
  · split
    · split
      · omega
      · split <;> omega
    · omega
theorem kStart (hP : P ≤ 12) (e : h 0 0 0 2 = nI P) (hk : ∀ p, p < P → h 0 0 1 p = nI (K p)) (hK : ∀ p, p < P → K p < 2 ^ 12) : zev L (d + 4) 9 0 [some (.inr (.inl (0, 0, 0)))] [] h = some (some (.inl (ystart K P)), h) := by
  have l0 : 2 ^ P - 1 < 2 ^ 12 := by have := Nat.pow_le_pow_right (n := 2) (by decide) hP; omega
  have lS : ysome K P < 2 ^ 12 := yor_lt hK
  have ka := fun d => kKinAll (L := L) (d := d) (h := h) hP e hk l0
  have e1 : yor K (2 ^ P - 1) P = ysome K P := rfl
  rw [e1] at ka
  have e2 := y2P hP
  have kk := fun d => kKind (L := L) (d := d) (h := h) hP e hk hK
  have ko := fun d => kOddKin (L := L) (d := d) (h := h) hP e hk hK
  have lO : yodd K P < 2 ^ 12 := ybs_lt P hP
  unfold ystart
  by_cases c2 : ykind K P = 2
  · have c0 : ysome K P ≠ 0 := fun q => by unfold ykind at c2; rw [if_pos q] at c2; omega
    have kn := fun d => kNT (L := L) (d := d) (h := h) lS c0
    simp (disch := first | omega | simp (disch := omega) only [nI_add, pk_mul, pk_sub, pk_div, znmod, nI_clamp, nIleT, nIleF, nIltT, nIltF, nIeqT, nIeqF, nIm1, nIm1q, zupE, zupN, vpT, nI_01, nI_11, ↓reduceIte, Option.bind_some, Option.toList_some, Option.toList_none, List.cons_append, List.nil_append, Nat.reduceAdd, Nat.reduceMul, Nat.reduceSub, Nat.reduceDiv, Nat.reduceMod, and_true, true_and, and_false, false_and, not_true_eq_false, not_false_eq_true, or_true, true_or, or_false, false_or, Int32.lt_irrefl, Int32.le_refl, e, e2, kk, c2, ka, kn]) only [nI_add, pk_mul, pk_sub, pk_div, znmod, nI_clamp, nIleT, nIleF, nIltT, nIltF, nIeqT, nIeqF, nIm1, nIm1q, zupE, zupN, vpT, nI_01, nI_11, ↓reduceIte, Option.bind_some, Option.toList_some, Option.toList_none, List.cons_append, List.nil_append, Nat.reduceAdd, Nat.reduceMul, Nat.reduceSub, Nat.reduceDiv, Nat.reduceMod, and_true, true_and, and_false, false_and, not_true_eq_false, not_false_eq_true, or_true, true_or, or_false, false_or, Int32.lt_irrefl, Int32.le_refl, e, e2, kk, c2, ka, kn, b9_0, b9_32, b9_44, b9_47, b9_48, b9_52, b9_55, b9_56, s9_4_1, s9_4_2, s9_4_d]
  · by_cases c1 : ykind K P = 1
    · have c0 : yodd K P ≠ 0 := fun q => by
        unfold ykind at c1
        rw [if_pos q] at c1
        split at c1
        · omega
        · split at c1 <;> omega
      have kn := fun d => kNT (L := L) (d := d) (h := h) lO c0
      simp (disch := first | omega | simp (disch := omega) only [nI_add, pk_mul, pk_sub, pk_div, znmod, nI_clamp, nIleT, nIleF, nIltT, nIltF, nIeqT, nIeqF, nIm1, nIm1q, zupE, zupN, vpT, nI_01, nI_11, ↓reduceIte, Option.bind_some, Option.toList_some, Option.toList_none, List.cons_append, List.nil_append, Nat.reduceAdd, Nat.reduceMul, Nat.reduceSub, Nat.reduceDiv, Nat.reduceMod, and_true, true_and, and_false, false_and, not_true_eq_false, not_false_eq_true, or_true, true_or, or_false, false_or, Int32.lt_irrefl, Int32.le_refl, e, e2, kk, c1, ko, kn]) only [nI_add, pk_mul, pk_sub, pk_div, znmod, nI_clamp, nIleT, nIleF, nIltT, nIltF, nIeqT, nIeqF, nIm1, nIm1q, zupE, zupN, vpT, nI_01, nI_11, ↓reduceIte, Option.bind_some, Option.toList_some, Option.toList_none, List.cons_append, List.nil_append, Nat.reduceAdd, Nat.reduceMul, Nat.reduceSub, Nat.reduceDiv, Nat.reduceMod, and_true, true_and, and_false, false_and, not_true_eq_false, not_false_eq_true, or_true, true_or, or_false, false_or, Int32.lt_irrefl, Int32.le_refl, e, e2, kk, c1, ko, kn, b9_0, b9_32, b9_44, b9_47, b9_48, b9_52, b9_55, b9_56, s9_4_1, s9_4_2, s9_4_d]
      rfl
    · have c3 : ykind K P = 0 := by have := ykind_le (K := K) (P := P); omega
      simp (disch := first | omega | simp (disch := omega) only [nI_add, pk_mul, pk_sub, pk_div, znmod, nI_clamp, nIleT, nIleF, nIltT, nIltF, nIeqT, nIeqF, nIm1, nIm1q, zupE, zupN, vpT, nI_01, nI_11, ↓reduceIte, Option.bind_some, Option.toList_some, Option.toList_none, List.cons_append, List.nil_append, Nat.reduceAdd, Nat.reduceMul, Nat.reduceSub, Nat.reduceDiv, Nat.reduceMod, and_true, true_and, and_false, false_and, not_true_eq_false, not_false_eq_true, or_true, true_or, or_false, false_or, Int32.lt_irrefl, Int32.le_refl, e, kk, c3]) only [nI_add, pk_mul, pk_sub, pk_div, znmod, nI_clamp, nIleT, nIleF, nIltT, nIltF, nIeqT, nIeqF, nIm1, nIm1q, zupE, zupN, vpT, nI_01, nI_11, ↓reduceIte, Option.bind_some, Option.toList_some, Option.toList_none, List.cons_append, List.nil_append, Nat.reduceAdd, Nat.reduceMul, Nat.reduceSub, Nat.reduceDiv, Nat.reduceMod, and_true, true_and, and_false, false_and, not_true_eq_false, not_false_eq_true, or_true, true_or, or_false, false_or, Int32.lt_irrefl, Int32.le_refl, e, kk, c3, b9_0, b9_32, b9_44, b9_47, b9_48, b9_52, b9_55, b9_56, s9_4_1, s9_4_2, s9_4_d]
      rfl
end WK
