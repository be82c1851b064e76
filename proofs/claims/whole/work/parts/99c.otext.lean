/-! operation text, all -/
section TZ
variable {L d : Nat} {hc hm g gm : zH} {x1 : Int32} {P H : Nat}
/-- all but the reader's, of the class -/
def yUc (hc g : zH) : Prop := ∀ k i s j, ¬ (k = 6 ∧ s = 0) → ¬ (k = 2 ∧ i = 8) → k ≠ 7 → g k i s j = hc k i s j
/-- all but the reader's and the drafts, of the reference -/
def yUm (hm gm : zH) : Prop := ∀ s j, ¬ (s = 0 ∧ (j = 0 ∨ (12 ≤ j ∧ j ≤ 16) ∨ (25 ≤ j ∧ j ≤ 33))) → ¬ (20 ≤ s ∧ s ≤ 23 ∧ 32 ≤ j) → ¬ ((s = 24 ∨ s = 25) ∧ 800 ≤ j) → ¬ ((s = 36 ∨ s = 38) ∧ 80 ≤ j) → ¬ (s = 40 ∧ 12 ≤ j) → ¬ s = 29 → gm 12 0 s j = hm 12 0 s j
theorem yUm_M {h' : zH} (f : yFM (zup (zup (zup hm 12 0 0 25 (nI 0)) 12 0 0 32 (nI 0)) 12 0 0 33 (-1)) h') : yUm hm h' := fun s j q1 q2 q3 q4 q5 q6 => by
  rw [f s j (by omega) q2 q3 q4 q5 q6, zupN (by omega), zupN (by omega), zupN (by omega)]
theorem yUm_u {j : Nat} {v : Int32} (f : yUm hm gm) (h : (12 ≤ j ∧ j ≤ 16) ∨ (25 ≤ j ∧ j ≤ 33)) : yUm hm (zup gm 12 0 0 j v) := fun s j' q1 q2 q3 q4 q5 q6 => by
  rw [zupN (by omega)]; exact f s j' q1 q2 q3 q4 q5 q6
theorem RelF (R : Rel hc hm) (fc : yUc hc g) (fm : yUm hm gm) (e1 : g 7 0 0 3 = nI 0) (e2 : gm 12 0 0 12 = nI 0) (re' : gm 12 0 0 32 = g 6 0 0 4 ∧ gm 12 0 0 33 = g 6 0 0 5) : Rel g gm := by
  obtain ⟨P, H, ⟨rM, rp, rb, rl, rf, rh, rk, r0, r1, r2, r3, r4⟩, ra, rt, re, ri, rs⟩ := R
  have F : ∀ k i, k ≠ 6 → ¬ (k = 2 ∧ i = 8) → k ≠ 7 → g k i = hc k i := fun k i a b c => funext fun s => funext fun j => fc k i s j (by omega) b c
  refine RelT rM rp rb r0 r1 r2 r3 r4 ri rs (fun k i s j a b c d => fc k i s j (by omega) (by omega) c) (fun s j a b c d e f k => fm s j (by omega) (by omega) (by omega) (by omega) (by omega) b) (fun j hj => fm 0 j (by omega) (by omega) (by omega) (by omega) (by omega) (by omega)) ?_ ?_ ?_ ?_ ?_ e1 e2 re'
  · rw [F 2 0 (by omega) (by omega) (by omega)]
    exact RLw_cp rl yl0_r (fm 19 0 (by omega) (by omega) (by omega) (by omega) (by omega) (by omega)) (fun l hl => fm 20 l (by omega) (by omega) (by omega) (by omega) (by omega) (by omega)) (fun l hl => fm 21 l (by omega) (by omega) (by omega) (by omega) (by omega) (by omega)) (fun l hl => fm 22 l (by omega) (by omega) (by omega) (by omega) (by omega) (by omega)) (fun l hl => fm 23 l (by omega) (by omega) (by omega) (by omega) (by omega) (by omega)) (fun l hl => fm 24 l (by omega) (by omega) (by omega) (by omega) (by omega) (by omega)) (fun l hl => fm 25 l (by omega) (by omega) (by omega) (by omega) (by omega) (by omega))
  · rw [F 2 1 (by omega) (by omega) (by omega)]
    exact RFr_cp rf yl3_r (fm 0 34 (by omega) (by omega) (by omega) (by omega) (by omega) (by omega)) (fun j hj => fm 36 j (by omega) (by omega) (by omega) (by omega) (by omega) (by omega))
  · rw [F 2 2 (by omega) (by omega) (by omega)]
    exact RHb_cp rh yl3_r (fm 0 36 (by omega) (by omega) (by omega) (by omega) (by omega) (by omega)) (fun j hj => fm 38 j (by omega) (by omega) (by omega) (by omega) (by omega) (by omega))
  · rw [F 2 3 (by omega) (by omega) (by omega)]
    exact RKn_cp rk yl3_r (fm 0 38 (by omega) (by omega) (by omega) (by omega) (by omega) (by omega)) (fun j hj => fm 40 j (by omega) (by omega) (by omega) (by omega) (by omega) (by omega))
  · rw [F 4 0 (by omega) (by omega) (by omega), fm 0 3 (by omega) (by omega) (by omega) (by omega) (by omega) (by omega)]
    exact ra
/-- a list is taken over: the others stay -/
theorem RelN {k : Nat} (hk : k ≤ 3) (R : Rel hc hm) (hP : hc 3 0 0 8 = nI P) (hPb : P < 2 ^ 31) (fc : ∀ K i s j, ¬ (K = 6 ∧ s = 0) → ¬ (K = 2 ∧ (i = 8 ∨ i = k)) → K ≠ 7 → K ≠ 4 → g K i s j = hc K i s j)
    (fm : ∀ s j, ¬ (s = 0 ∧ (j = 0 ∨ j = 3 ∨ (12 ≤ j ∧ j ≤ 16) ∨ (25 ≤ j ∧ j ≤ 33) ∨ (k = 1 ∧ j = 34) ∨ (k = 2 ∧ j = 36) ∨ (k = 3 ∧ j = 38))) → ¬ (k = 0 ∧ 19 ≤ s ∧ s ≤ 25) → ¬ (20 ≤ s ∧ s ≤ 23 ∧ 32 ≤ j) → ¬ ((s = 24 ∨ s = 25) ∧ 800 ≤ j) → ¬ ((s = 36 ∨ s = 38) ∧ 80 ≤ j) → ¬ (s = 40 ∧ 12 ≤ j) → ¬ (k = 1 ∧ s = 36) → ¬ (k = 2 ∧ s = 38) → ¬ (k = 3 ∧ s = 40) → ¬ s = 29 → gm 12 0 s j = hm 12 0 s j)
    (nl : k = 0 → RLw (g 2 0) (gm 12 0 19 0) (gm 12 0 20) (gm 12 0 21) (gm 12 0 22) (gm 12 0 23) (gm 12 0 24) (gm 12 0 25)) (nf : k = 1 → RFr (g 2 1) (gm 12 0 36) (gm 12 0 0 34)) (nh : k = 2 → RHb (g 2 2) (gm 12 0 38) (gm 12 0 0 36) P) (nk : k = 3 → RKn (g 2 3) (gm 12 0 40) (gm 12 0 0 38) P)
    (na : (k = 0 ∨ k = 3) ∧ (∀ s j, g 4 0 s j = hc 4 0 s j) ∧ gm 12 0 0 3 = hm 12 0 0 3 ∨ (∀ j, j ≠ 2 → g 4 0 0 j = hc 4 0 0 j) ∧ g 4 0 0 2 = nI 0 ∧ gm 12 0 0 3 = nI 0)
    (e1 : g 7 0 0 3 = nI 0) (e2 : gm 12 0 0 12 = nI 0) (re' : gm 12 0 0 32 = g 6 0 0 4 ∧ gm 12 0 0 33 = g 6 0 0 5) : Rel g gm := by
  obtain ⟨P', H, ⟨rM, rp, rb, rl, rf, rh, rk, r0, r1, r2, r3, r4⟩, ra, rt, re, ri, rs⟩ := R
  have eP : P' = P := by
    have h8 : hc 3 0 0 8 = nI P' := rM.1.1
    have l8 : P' ≤ 12 := rM.1.2.2.1
    rw [hP] at h8
    exact ((nI_eq hPb (by omega)).1 h8).symm
  subst eP
  have F : ∀ K i, K ≠ 6 → ¬ (K = 2 ∧ (i = 8 ∨ i = k)) → K ≠ 7 → K ≠ 4 → g K i = hc K i := fun K i a b c d => funext fun s => funext fun j => fc K i s j (by omega) b c d
  refine RelT (P := P') (H := H) rM rp rb r0 r1 r2 r3 r4 ri rs (fun K i s j a b c d => fc K i s j (by omega) (by omega) c d) (fun s j a b c d e f q => fm s j (by omega) (by omega) (by omega) (by omega) (by omega) (by omega) (by omega) (by omega) (by omega) b) (fun j hj => fm 0 j (by omega) (by omega) (by omega) (by omega) (by omega) (by omega) (by omega) (by omega) (by omega) (by omega)) ?_ ?_ ?_ ?_ ?_ e1 e2 re'
  · by_cases c : k = 0
    · exact nl c
    · rw [F 2 0 (by omega) (by omega) (by omega) (by omega)]
      have q : ∀ s l, 19 ≤ s → s ≤ 25 → l < 16 ∨ (24 ≤ s ∧ l < 400) → gm 12 0 s l = hm 12 0 s l := fun s l a b c' => fm s l (by omega) (by omega) (by omega) (by omega) (by omega) (by omega) (by omega) (by omega) (by omega) (by omega)
      exact RLw_cp rl yl0_r (q 19 0 (by omega) (by omega) (by omega)) (fun l hl => q 20 l (by omega) (by omega) (by omega)) (fun l hl => q 21 l (by omega) (by omega) (by omega)) (fun l hl => q 22 l (by omega) (by omega) (by omega)) (fun l hl => q 23 l (by omega) (by omega) (by omega)) (fun l hl => q 24 l (by omega) (by omega) (by omega)) (fun l hl => q 25 l (by omega) (by omega) (by omega))
  · by_cases c : k = 1
    · exact nf c
    · rw [F 2 1 (by omega) (by omega) (by omega) (by omega)]
      exact RFr_cp rf yl3_r (fm 0 34 (by omega) (by omega) (by omega) (by omega) (by omega) (by omega) (by omega) (by omega) (by omega) (by omega)) (fun j hj => fm 36 j (by omega) (by omega) (by omega) (by omega) (by omega) (by omega) (by omega) (by omega) (by omega) (by omega))
  · by_cases c : k = 2
    · exact nh c
    · rw [F 2 2 (by omega) (by omega) (by omega) (by omega)]
      exact RHb_cp rh yl3_r (fm 0 36 (by omega) (by omega) (by omega) (by omega) (by omega) (by omega) (by omega) (by omega) (by omega) (by omega)) (fun j hj => fm 38 j (by omega) (by omega) (by omega) (by omega) (by omega) (by omega) (by omega) (by omega) (by omega) (by omega))
  · by_cases c : k = 3
    · exact nk c
    · rw [F 2 3 (by omega) (by omega) (by omega) (by omega)]
      exact RKn_cp rk yl3_r (fm 0 38 (by omega) (by omega) (by omega) (by omega) (by omega) (by omega) (by omega) (by omega) (by omega) (by omega)) (fun j hj => fm 40 j (by omega) (by omega) (by omega) (by omega) (by omega) (by omega) (by omega) (by omega) (by omega) (by omega))
  · rcases na with ⟨_, na, nb⟩ | ⟨na, nb, nc⟩
    · have e4 : g 4 0 0 = hc 4 0 0 := funext fun j => na 0 j
      rw [e4, nb]; exact ra
    · have e4 : g 4 0 0 = fupd (hc 4 0 0) 2 (nI 0) := funext fun j => by
        unfold fupd
        by_cases c : j = 2
        · rw [if_pos c, c]; exact nb
        · rw [if_neg c]; exact na j c
      rw [e4, nc]
      exact RPa_forget ra
end TZ
