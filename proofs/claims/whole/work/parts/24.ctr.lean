-- contracts of methods, as equations of zev
/-- n turns of a loop body -/
def zit {S : Type} (g : Nat → S → S) : Nat → S → S
  | 0, s => s
  | n + 1, s => g n (zit g n s)
theorem zit_run {S R : Type} {P : Nat → S → R} {g : Nat → S → S} {I : Nat → S → Prop} {N : Nat} {s : S} (h0 : I 0 s)
    (hs : ∀ i s, i < N → I i s → I (i + 1) (g i s) ∧ P i s = P (i + 1) (g i s)) : ∀ n, n ≤ N → I n (zit g n s) ∧ P 0 s = P n (zit g n s)
  | 0, _ => ⟨h0, rfl⟩
  | n + 1, hn => by
    obtain ⟨hi, he⟩ := zit_run h0 hs n (Nat.le_of_succ_le hn)
    obtain ⟨hi', he'⟩ := hs n _ hn hi
    exact ⟨hi', he.trans he'⟩
theorem k153 {L d : Nat} {h : zH} {x0 x1 x2 : Int32} : zev L d 153 0 [some (.inl x0), some (.inl x1), some (.inl x2)] [] h = some (some (.inl (if x1 ≤ x0 ∧ x0 ≤ x2 then 1 else 0)), h) := by
  have e1 : zev L d 153 10 [some (.inl x0), some (.inl x1), some (.inl x2)] [] h = some (some (.inl 1), h) := b153_10.trans (b153_15 (Or.inr rfl))
  have e0 : zev L d 153 14 [some (.inl x0), some (.inl x1), some (.inl x2)] [] h = some (some (.inl 0), h) := b153_14.trans (b153_15 (Or.inl rfl))
  rw [b153_0, b153_5, e1, e0]
  by_cases p : x0 < x1
  · rw [if_pos p, if_neg (fun ⟨a, _⟩ => Int32.lt_irrefl (Int32.lt_of_lt_of_le p a))]
  · by_cases q : x2 < x0
    · rw [if_neg p, if_pos q, if_neg (fun ⟨_, a⟩ => Int32.lt_irrefl (Int32.lt_of_lt_of_le q a))]
    · rw [if_neg p, if_neg q, if_pos ⟨Int32.not_lt.mp p, Int32.not_lt.mp q⟩]
theorem k24 {L d : Nat} {h : zH} {i0 : Nat} {x1 : Int32} : zev L d 24 0 [some (.inr (.inl (3, i0, 0))), some (.inl x1)] [] h = some (some (.inl (if 0 ≤ x1 ∧ x1 < h 3 i0 0 8 then 1 else 0)), h) := by
  have e1 : zev L d 24 12 [some (.inr (.inl (3, i0, 0))), some (.inl x1)] [] h = some (some (.inl 1), h) := b24_12.trans (b24_17 (Or.inr rfl))
  have e0 : zev L d 24 16 [some (.inr (.inl (3, i0, 0))), some (.inl x1)] [] h = some (some (.inl 0), h) := b24_16.trans (b24_17 (Or.inl rfl))
  rw [b24_0, b24_4, e1, e0, show nI 0 = 0 from rfl]
  by_cases p : x1 < 0
  · rw [if_pos p, if_neg (fun ⟨a, _⟩ => Int32.lt_irrefl (Int32.lt_of_lt_of_le p a))]
  · by_cases q : h 3 i0 0 8 ≤ x1
    · rw [if_neg p, if_pos q, if_neg (fun ⟨_, a⟩ => Int32.lt_irrefl (Int32.lt_of_lt_of_le a q))]
    · rw [if_neg p, if_neg q, if_pos ⟨Int32.not_lt.mp p, Int32.not_le.mp q⟩]
theorem k25 {L d : Nat} {h : zH} {i0 : Nat} {x1 : Int32} : zev L d 25 0 [some (.inr (.inl (3, i0, 0))), some (.inl x1)] [] h = some (some (.inl (if 0 ≤ x1 ∧ x1 < h 3 i0 0 9 then 1 else 0)), h) := by
  have e1 : zev L d 25 12 [some (.inr (.inl (3, i0, 0))), some (.inl x1)] [] h = some (some (.inl 1), h) := b25_12.trans (b25_17 (Or.inr rfl))
  have e0 : zev L d 25 16 [some (.inr (.inl (3, i0, 0))), some (.inl x1)] [] h = some (some (.inl 0), h) := b25_16.trans (b25_17 (Or.inl rfl))
  rw [b25_0, b25_4, e1, e0, show nI 0 = 0 from rfl]
  by_cases p : x1 < 0
  · rw [if_pos p, if_neg (fun ⟨a, _⟩ => Int32.lt_irrefl (Int32.lt_of_lt_of_le p a))]
  · by_cases q : h 3 i0 0 9 ≤ x1
    · rw [if_neg p, if_pos q, if_neg (fun ⟨_, a⟩ => Int32.lt_irrefl (Int32.lt_of_lt_of_le a q))]
    · rw [if_neg p, if_neg q, if_pos ⟨Int32.not_lt.mp p, Int32.not_le.mp q⟩]
theorem k37 {L d : Nat} {h : zH} : zev L d 37 0 [some (.inr (.inl (4, 0, 0)))] [] h = some (none, zup h 4 0 0 2 0) := b37_0.trans b37_5
/-- Market.addHorse, with room: the heap it leaves -/
def kh28 (h : zH) (i : Nat) (x1 x2 x3 : Int32) : zH := zup (zup (zup (zup h 3 i 5 (h 3 i 0 9).toNatClampNeg x1) 3 i 6 (h 3 i 0 9).toNatClampNeg x2) 3 i 7 (h 3 i 0 9).toNatClampNeg x3) 3 i 0 9 (h 3 i 0 9 + 1)
theorem zup_s {h : zH} {k i s j s' j' : Nat} {v : Int32} (e : s' ≠ s) : zup h k i s j v k i s' j' = h k i s' j' := if_neg (fun q => e q.2.2.1)
theorem zup_v {h : zH} {k i s j : Nat} {v : Int32} : zup h k i s j v k i s j = v := if_pos ⟨rfl, rfl, rfl, rfl⟩
theorem k28 {L d : Nat} {h : zH} {i0 : Nat} {x1 x2 x3 : Int32} (hr : vp_in (h 3 i0 0 9) 10) : zev L d 28 0 [some (.inr (.inl (3, i0, 0))), some (.inl x1), some (.inl x2), some (.inl x3)] [] h = some (some (.inl (h 3 i0 0 9)), kh28 h i0 x1 x2 x3) := by
  have a1 : ∀ j v, zup h 3 i0 5 j v 3 i0 0 9 = h 3 i0 0 9 := fun j v => zup_s (by decide)
  have a2 : ∀ j v j' v', zup (zup h 3 i0 5 j v) 3 i0 6 j' v' 3 i0 0 9 = h 3 i0 0 9 := fun j v j' v' => (zup_s (by decide)).trans (a1 j v)
  have a3 : ∀ j v j' v' j'' v'', zup (zup (zup h 3 i0 5 j v) 3 i0 6 j' v') 3 i0 7 j'' v'' 3 i0 0 9 = h 3 i0 0 9 := fun j v j' v' j'' v'' => (zup_s (by decide)).trans (a2 j v j' v')
  rw [b28_0 hr, b28_10 (by rw [a1]; exact hr), a1, b28_20 (by rw [a2]; exact hr), a2, b28_30, a3, b28_40, zup_v]
  have e : h 3 i0 0 9 + nI 1 - nI 1 = h 3 i0 0 9 := Int32.add_sub_cancel _ _
  rw [e]
  rfl
