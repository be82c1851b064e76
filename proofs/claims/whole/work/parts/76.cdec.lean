/-! which rows of numbers can be: two ways, by counts (for could); #{>= w}, w = 1..8 -/
def ymn (a b : Nat) : Nat := Nat.rec (motive := fun _ => Nat) b (fun _ _ => a) (Nat.sub b a)
def yfc {α : Type} (n : Nat) (k : Nat → α) : α := Nat.rec (motive := fun _ => α) (k 0) (fun m _ => k (Nat.succ m)) n
/-- one round of laying off, on #{>= w}, w = 1.. -/
def ygs (v : Nat) : List Nat → List Nat
  | [] => []
  | a :: r => yfc (Nat.add (ymn v (match r with | [] => 0 | b :: _ => b)) (Nat.sub a v)) fun x => x :: ygs v r
def ygv : List Nat → Nat
  | [] => 0
  | a :: r => Nat.rec (motive := fun _ => Nat) 0 (fun _ _ => Nat.succ (ygv r)) a
def yg1 : List Nat → List Nat
  | [] => []
  | a :: r => Nat.rec (motive := fun _ => List Nat) [] (fun m _ => m :: yg1 r) a
def yhh : Nat → List Nat → Bool
  | 0, _ => true
  | n + 1, g => yfc (ygv g) fun v => let h := yg1 g
    match v with
    | 0 => true
    | _ => match h with
      | [] => false
      | a :: _ => Bool.and (Nat.ble v a) (yhh n (ygs v h))
def ys1 (k : Nat) : List Nat → Nat
  | [] => 0
  | a :: r => Nat.add (ymn k a) (ys1 k r)
def ys2 (k : Nat) : Nat → List Nat → Nat
  | 0, _ => 0
  | _, [] => 0
  | q + 1, a :: r => Nat.add (Nat.sub a k) (ys2 k q r)
def yeg (g : List Nat) : Nat → Bool
  | 0 => true
  | k + 1 => Bool.and (yeg g k) (Nat.ble (ys1 (k+1) g) (Nat.add (Nat.mul (k+1) k) (ys2 (k+1) (k+1) g)))
def ycsm : List Nat → Nat
  | [] => 0
  | a :: r => Nat.add a (ycsm r)
def yok (g : List Nat) : Bool := (yhh 9 g) == (Bool.and (Nat.beq (Nat.mod (ycsm g) 2) 0) (yeg g 9))
def yen (f : List Nat → Bool) : Nat → Nat → Nat → List Nat → Bool
  | 0, _, _, acc => f acc
  | d + 1, n, lo, acc => Nat.rec (motive := fun _ => Bool) true (fun m ih => Bool.and ih (yfc (Nat.add lo m) fun x => yen f d (Nat.sub n m) x (x :: acc))) n
theorem yfc_eq {α : Type} (n : Nat) (k : Nat → α) : yfc n k = k n := by cases n <;> rfl
theorem yen_st {f : List Nat → Bool} {d n lo x : Nat} {acc : List Nat} (h : yen f (d + 1) n lo acc = true) (h1 : lo ≤ x) (h2 : x < lo + n) : yen f d (lo + n - x) x (x :: acc) = true := by
  have aux : ∀ k, Nat.rec (motive := fun _ => Bool) true (fun m ih => Bool.and ih (yfc (Nat.add lo m) fun x => yen f d (Nat.sub n m) x (x :: acc))) k = true → ∀ m, m < k → yen f d (n - m) (lo + m) ((lo + m) :: acc) = true := by
    intro k
    induction k with
    | zero => intro _ m hm; omega
    | succ k ih =>
      intro hk m hm
      have hk' : (Nat.rec (motive := fun _ => Bool) true (fun m ih => Bool.and ih (yfc (Nat.add lo m) fun x => yen f d (Nat.sub n m) x (x :: acc))) k && (yfc (Nat.add lo k) fun x => yen f d (Nat.sub n k) x (x :: acc))) = true := hk
      rw [yfc_eq, Bool.and_eq_true] at hk'
      by_cases c : m = k
      · subst c; exact hk'.2
      · exact ih hk'.1 m (by omega)
  rw [yen] at h
  have := aux n h (x - lo) (by omega)
  rw [show lo + (x - lo) = x by omega, show n - (x - lo) = lo + n - x by omega] at this
  exact this
theorem ycd_0_0_0 : yen yok 5 10 0 [0, 0, 0] = true := by decide +kernel
theorem ycd_0_0_1 : yen yok 5 9 1 [1, 0, 0] = true := by decide +kernel
theorem ycd_0_0_2 : yen yok 5 8 2 [2, 0, 0] = true := by decide +kernel
theorem ycd_0_0_3 : yen yok 5 7 3 [3, 0, 0] = true := by decide +kernel
theorem ycd_0_0_4 : yen yok 5 6 4 [4, 0, 0] = true := by decide +kernel
theorem ycd_0_0_5 : yen yok 5 5 5 [5, 0, 0] = true := by decide +kernel
theorem ycd_0_0_6 : yen yok 5 4 6 [6, 0, 0] = true := by decide +kernel
theorem ycd_0_0_7 : yen yok 5 3 7 [7, 0, 0] = true := by decide +kernel
theorem ycd_0_0_8 : yen yok 5 2 8 [8, 0, 0] = true := by decide +kernel
theorem ycd_0_0_9 : yen yok 5 1 9 [9, 0, 0] = true := by decide +kernel
theorem ycd_0_1_1 : yen yok 5 9 1 [1, 1, 0] = true := by decide +kernel
theorem ycd_0_1_2 : yen yok 5 8 2 [2, 1, 0] = true := by decide +kernel
theorem ycd_0_1_3 : yen yok 5 7 3 [3, 1, 0] = true := by decide +kernel
theorem ycd_0_1_4 : yen yok 5 6 4 [4, 1, 0] = true := by decide +kernel
theorem ycd_0_1_5 : yen yok 5 5 5 [5, 1, 0] = true := by decide +kernel
theorem ycd_0_1_6 : yen yok 5 4 6 [6, 1, 0] = true := by decide +kernel
theorem ycd_0_1_7 : yen yok 5 3 7 [7, 1, 0] = true := by decide +kernel
theorem ycd_0_1_8 : yen yok 5 2 8 [8, 1, 0] = true := by decide +kernel
theorem ycd_0_1_9 : yen yok 5 1 9 [9, 1, 0] = true := by decide +kernel
theorem ycd_0_2 : yen yok 6 8 2 [2, 0] = true := by decide +kernel
theorem ycd_0_3 : yen yok 6 7 3 [3, 0] = true := by decide +kernel
theorem ycd_0_4 : yen yok 6 6 4 [4, 0] = true := by decide +kernel
theorem ycd_0_5 : yen yok 6 5 5 [5, 0] = true := by decide +kernel
theorem ycd_0_6 : yen yok 6 4 6 [6, 0] = true := by decide +kernel
theorem ycd_0_7 : yen yok 6 3 7 [7, 0] = true := by decide +kernel
theorem ycd_0_8 : yen yok 6 2 8 [8, 0] = true := by decide +kernel
theorem ycd_0_9 : yen yok 6 1 9 [9, 0] = true := by decide +kernel
theorem ycd_1_1 : yen yok 6 9 1 [1, 1] = true := by decide +kernel
theorem ycd_1_2 : yen yok 6 8 2 [2, 1] = true := by decide +kernel
theorem ycd_1_3 : yen yok 6 7 3 [3, 1] = true := by decide +kernel
theorem ycd_1_4 : yen yok 6 6 4 [4, 1] = true := by decide +kernel
theorem ycd_1_5 : yen yok 6 5 5 [5, 1] = true := by decide +kernel
theorem ycd_1_6 : yen yok 6 4 6 [6, 1] = true := by decide +kernel
theorem ycd_1_7 : yen yok 6 3 7 [7, 1] = true := by decide +kernel
theorem ycd_1_8 : yen yok 6 2 8 [8, 1] = true := by decide +kernel
theorem ycd_1_9 : yen yok 6 1 9 [9, 1] = true := by decide +kernel
theorem ycd_2_2 : yen yok 6 8 2 [2, 2] = true := by decide +kernel
theorem ycd_2_3 : yen yok 6 7 3 [3, 2] = true := by decide +kernel
theorem ycd_2_4 : yen yok 6 6 4 [4, 2] = true := by decide +kernel
theorem ycd_2_5 : yen yok 6 5 5 [5, 2] = true := by decide +kernel
theorem ycd_2_6 : yen yok 6 4 6 [6, 2] = true := by decide +kernel
theorem ycd_2_7 : yen yok 6 3 7 [7, 2] = true := by decide +kernel
theorem ycd_2_8 : yen yok 6 2 8 [8, 2] = true := by decide +kernel
theorem ycd_2_9 : yen yok 6 1 9 [9, 2] = true := by decide +kernel
theorem ycd_3_3 : yen yok 6 7 3 [3, 3] = true := by decide +kernel
theorem ycd_3_4 : yen yok 6 6 4 [4, 3] = true := by decide +kernel
theorem ycd_3_5 : yen yok 6 5 5 [5, 3] = true := by decide +kernel
theorem ycd_3_6 : yen yok 6 4 6 [6, 3] = true := by decide +kernel
theorem ycd_3_7 : yen yok 6 3 7 [7, 3] = true := by decide +kernel
theorem ycd_3_8 : yen yok 6 2 8 [8, 3] = true := by decide +kernel
theorem ycd_3_9 : yen yok 6 1 9 [9, 3] = true := by decide +kernel
theorem ycd_4_4 : yen yok 6 6 4 [4, 4] = true := by decide +kernel
theorem ycd_4_5 : yen yok 6 5 5 [5, 4] = true := by decide +kernel
theorem ycd_4_6 : yen yok 6 4 6 [6, 4] = true := by decide +kernel
theorem ycd_4_7 : yen yok 6 3 7 [7, 4] = true := by decide +kernel
theorem ycd_4_8 : yen yok 6 2 8 [8, 4] = true := by decide +kernel
theorem ycd_4_9 : yen yok 6 1 9 [9, 4] = true := by decide +kernel
theorem ycd_5_5 : yen yok 6 5 5 [5, 5] = true := by decide +kernel
theorem ycd_5_6 : yen yok 6 4 6 [6, 5] = true := by decide +kernel
theorem ycd_5_7 : yen yok 6 3 7 [7, 5] = true := by decide +kernel
theorem ycd_5_8 : yen yok 6 2 8 [8, 5] = true := by decide +kernel
theorem ycd_5_9 : yen yok 6 1 9 [9, 5] = true := by decide +kernel
theorem ycd_6_6 : yen yok 6 4 6 [6, 6] = true := by decide +kernel
theorem ycd_6_7 : yen yok 6 3 7 [7, 6] = true := by decide +kernel
theorem ycd_6_8 : yen yok 6 2 8 [8, 6] = true := by decide +kernel
theorem ycd_6_9 : yen yok 6 1 9 [9, 6] = true := by decide +kernel
theorem ycd_7_7 : yen yok 6 3 7 [7, 7] = true := by decide +kernel
theorem ycd_7_8 : yen yok 6 2 8 [8, 7] = true := by decide +kernel
theorem ycd_7_9 : yen yok 6 1 9 [9, 7] = true := by decide +kernel
theorem ycd_8_8 : yen yok 6 2 8 [8, 8] = true := by decide +kernel
theorem ycd_8_9 : yen yok 6 1 9 [9, 8] = true := by decide +kernel
theorem ycd_9_9 : yen yok 6 1 9 [9, 9] = true := by decide +kernel
