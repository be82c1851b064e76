-- Market.addPerson
theorem znI_mul (a b : Nat) : nI a * nI b = nI (a * b) := (Int32.ofNat_mul a b).symm
theorem znI_sub1 (n : Nat) : nI n + nI 1 - nI 1 = nI n := Int32.add_sub_cancel _ _
def kh27 (h : zH) (i N : Nat) (x1 x2 : Int32) : zH := zup (zup (zit (fun j h => zup h 3 i 1 (N * 5 + j) x2) 5 h) 3 i 2 N x1) 3 i 0 8 (nI (N + 1))
theorem k27 {L d : Nat} {h : zH} {i0 N : Nat} {x1 x2 : Int32} (hN : N < 12) (hn : h 3 i0 0 8 = nI N) : zev L d 27 0 [some (.inr (.inl (3, i0, 0))), some (.inl x1), some (.inl x2), none] [] h = some (some (.inl (nI N)), kh27 h i0 N x1 x2) := by
  rw [b27_0]
  have k := zit_run (P := fun j g => zev L d 27 2 [some (.inr (.inl (3, i0, 0))), some (.inl x1), some (.inl x2), some (.inl (nI j))] [] g) (g := fun j h => zup h 3 i0 1 (N * 5 + j) x2) (I := fun _ g => g 3 i0 0 8 = nI N) (N := 5) (s := h) hn (fun j g hj hg => ⟨(zup_s (by decide)).trans hg, by
    have e : g 3 i0 0 8 * nI 5 + nI j = nI (N * 5 + j) := by rw [hg, znI_mul, nI_add]
    rw [b27_2, if_neg (nI_ge hj (by omega)), b27_7 (by rw [e]; exact vp_in_nI (by omega) (by omega)), e, nI_clamp (by omega), b27_21, nI_add]⟩) 5 (Nat.le_refl 5)
  obtain ⟨kI, kE⟩ := k
  have kE' := kE
  rw [kE', b27_2, if_pos (nI_le (Nat.le_refl 5) (by omega)), b27_27 (by rw [kI]; exact vp_in_nI hN (by omega)), kI, nI_clamp (by omega), b27_37, b27_47, zup_v, (zup_s (by decide) : zup _ 3 i0 2 N x1 3 i0 0 8 = _), kI, znI_sub1, nI_add]
  rfl
