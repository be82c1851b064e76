-- contracts with loops
theorem k29 {L d : Nat} {h : zH} {i0 N : Nat} (hN : N ≤ 12) (hn : h 3 i0 0 8 = nI N) : zev L d 29 0 [some (.inr (.inl (3, i0, 0))), none, none] [] h = some (some (.inl (zit (fun j s => s + h 3 i0 2 j) N 0)), h) := by
  rw [b29_0]
  have k := (zit_run (P := fun j s => zev L d 29 4 [some (.inr (.inl (3, i0, 0))), some (.inl s), some (.inl (nI j))] [] h) (g := fun j s => s + h 3 i0 2 j) (I := fun _ _ => True) (N := N) (s := nI 0) trivial (fun j s hj _ => ⟨trivial, by
    rw [b29_4, hn, if_neg (nI_ge hj (by omega)), b29_12 (vp_in_nI (by omega) (by omega)), nI_clamp (by omega), nI_add]⟩) N (Nat.le_refl N)).2
  rw [k, b29_4, hn, if_pos (nI_le (Nat.le_refl N) (by omega)), b29_27]
  rfl
