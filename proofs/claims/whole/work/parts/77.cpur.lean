/-! could: the inequalities past the last hold by themselves -/
theorem ymn_eq {a b : Nat} : ymn a b = if b ≤ a then b else a := by
  unfold ymn
  have e : Nat.sub b a = b - a := rfl
  rw [e]
  by_cases h : b ≤ a
  · rw [if_pos h, Nat.sub_eq_zero_of_le h]
    rfl
  · rw [if_neg h]
    obtain ⟨m, hm⟩ : ∃ m, b - a = m + 1 := ⟨b - a - 1, by omega⟩
    rw [hm]
theorem ys1_all {N k : Nat} (hk : N ≤ k) : ∀ g : List Nat, (∀ a, a ∈ g → a ≤ N) → ys1 k g = ycsm g
  | [], _ => rfl
  | a :: r, h => by
    have h1 : a ≤ N := h a List.mem_cons_self
    have h2 := ys1_all hk r (fun x hx => h x (List.mem_cons_of_mem _ hx))
    show ymn k a + ys1 k r = a + ycsm r
    rw [ymn_eq, if_pos (by omega), h2]
theorem ys2_none {N k : Nat} (hk : N ≤ k) : ∀ q (g : List Nat), (∀ a, a ∈ g → a ≤ N) → ys2 k q g = 0
  | 0, _, _ => by unfold ys2; rfl
  | q + 1, [], _ => rfl
  | q + 1, a :: r, h => by
    have h1 : a ≤ N := h a List.mem_cons_self
    have h2 := ys2_none hk q r (fun x hx => h x (List.mem_cons_of_mem _ hx))
    show (a - k) + ys2 k q r = 0
    rw [h2]
    omega
theorem ycsm_0 : ∀ g : List Nat, (∀ a, a ∈ g → a ≤ 0) → ycsm g = 0
  | [], _ => rfl
  | a :: r, h => by
    have h1 : a ≤ 0 := h a List.mem_cons_self
    have h2 := ycsm_0 r (fun x hx => h x (List.mem_cons_of_mem _ hx))
    show a + ycsm r = 0
    omega
theorem yeg_up {N : Nat} {g : List Nat} (hg : ∀ a, a ∈ g → a ≤ N) (h : yeg g N = true) : ∀ k, N ≤ k → yeg g k = true := by
  have hs : ycsm g ≤ N * (N - 1) := by
    cases N with
    | zero => rw [ycsm_0 g hg]; exact Nat.zero_le _
    | succ n =>
      have h' : (yeg g n && Nat.ble (ys1 (n + 1) g) ((n + 1) * n + ys2 (n + 1) (n + 1) g)) = true := h
      rw [Bool.and_eq_true] at h'
      have h2 := Nat.le_of_ble_eq_true h'.2
      rw [ys1_all (Nat.le_refl _) g hg, ys2_none (Nat.le_refl _) _ g hg] at h2
      exact h2
  intro k
  induction k with
  | zero =>
    intro hk
    have : N = 0 := by omega
    subst this
    exact h
  | succ k ih =>
    intro hk
    by_cases c : N = k + 1
    · subst c; exact h
    · show (yeg g k && Nat.ble (ys1 (k + 1) g) ((k + 1) * k + ys2 (k + 1) (k + 1) g)) = true
      rw [Bool.and_eq_true]
      refine ⟨ih (by omega), Nat.ble_eq_true_of_le ?_⟩
      rw [ys1_all (by omega : N ≤ k + 1) g hg]
      have : N * (N - 1) ≤ (k + 1) * k := Nat.mul_le_mul (by omega) (by omega)
      omega
theorem yeg_dn {g : List Nat} : ∀ k N, N ≤ k → yeg g k = true → yeg g N = true
  | 0, N, h, e => by
    have : N = 0 := by omega
    subst this; exact e
  | k + 1, N, h, e => by
    by_cases c : N = k + 1
    · subst c; exact e
    · have e' : (yeg g k && Nat.ble (ys1 (k + 1) g) ((k + 1) * k + ys2 (k + 1) (k + 1) g)) = true := e
      rw [Bool.and_eq_true] at e'
      exact yeg_dn k N (by omega) e'.1
theorem yeg_N {N : Nat} {g : List Nat} (hN : N ≤ 9) (hg : ∀ a, a ∈ g → a ≤ N) : yeg g N = yeg g 9 := by
  cases h : yeg g N
  · cases h2 : yeg g 9
    · rfl
    · rw [yeg_dn 9 N hN h2] at h; cases h
  · exact (yeg_up hg h 9 hN).symm
