/-! TOOLS and THE RELATION between the class's cells and the reference's -/
theorem zup_ap {h : zH} {k i s j k' i' s' j' : Nat} {v : Int32} : zup h k i s j v k' i' s' j' = if k' = k ∧ i' = i ∧ s' = s ∧ j' = j then v else h k' i' s' j' := rfl
def fupd (f : Nat → Int32) (j : Nat) (v : Int32) : Nat → Int32 := fun j' => if j' = j then v else f j'
def fupd2 (f : Nat → Nat → Int32) (s j : Nat) (v : Int32) : Nat → Nat → Int32 := fun s' j' => if s' = s ∧ j' = j then v else f s' j'
def fupd3 (f : Nat → Nat → Nat → Int32) (i s j : Nat) (v : Int32) : Nat → Nat → Nat → Int32 := fun i' s' j' => if i' = i ∧ s' = s ∧ j' = j then v else f i' s' j'
theorem fupdE {f : Nat → Int32} {j j' : Nat} {v : Int32} (e : j' = j) : fupd f j v j' = v := if_pos e
theorem fupdN {f : Nat → Int32} {j j' : Nat} {v : Int32} (e : j' ≠ j) : fupd f j v j' = f j' := if_neg e
theorem fupd2S {f : Nat → Nat → Int32} {s j s' : Nat} {v : Int32} (e : s' ≠ s) : fupd2 f s j v s' = f s' := funext fun _ => if_neg (fun q => e q.1)
theorem fupd2F {f : Nat → Nat → Int32} {s j : Nat} {v : Int32} : fupd2 f s j v s = fupd (f s) j v := funext fun j' => by
  unfold fupd2 fupd
  by_cases h : j' = j
  · rw [if_pos ⟨rfl, h⟩, if_pos h]
  · rw [if_neg (fun q => h q.2), if_neg h]
theorem fupd3I {f : Nat → Nat → Nat → Int32} {i s j i' : Nat} {v : Int32} (e : i' ≠ i) : fupd3 f i s j v i' = f i' := funext fun _ => funext fun _ => if_neg (fun q => e q.1)
theorem fupd3F {f : Nat → Nat → Nat → Int32} {i s j : Nat} {v : Int32} : fupd3 f i s j v i = fupd2 (f i) s j v := funext fun s' => funext fun j' => by
  unfold fupd3 fupd2
  by_cases h : s' = s ∧ j' = j
  · rw [if_pos ⟨rfl, h⟩, if_pos h]
  · rw [if_neg (fun q => h q.2), if_neg h]
theorem zupK {h : zH} {k i s j k' : Nat} {v : Int32} (e : k' ≠ k) : zup h k i s j v k' = h k' := funext fun _ => funext fun _ => funext fun _ => if_neg (fun q => e q.1)
theorem zupF {h : zH} {k i s j : Nat} {v : Int32} : zup h k i s j v k = fupd3 (h k) i s j v := funext fun i' => funext fun s' => funext fun j' => by
  unfold zup fupd3
  by_cases h : i' = i ∧ s' = s ∧ j' = j
  · rw [if_pos ⟨rfl, h⟩, if_pos h]
  · rw [if_neg (fun q => h q.2), if_neg h]
def fcp2 (f : Nat → Nat → Int32) (s : Nat) (g : Nat → Int32) : Nat → Nat → Int32 := fun s' j' => if s' = s then g j' else f s' j'
def fcp3 (f : Nat → Nat → Nat → Int32) (i s : Nat) (g : Nat → Int32) : Nat → Nat → Nat → Int32 := fun i' s' j' => if i' = i ∧ s' = s then g j' else f i' s' j'
theorem fcp2S {f : Nat → Nat → Int32} {s s' : Nat} {g : Nat → Int32} (e : s' ≠ s) : fcp2 f s g s' = f s' := funext fun _ => if_neg e
theorem fcp2F {f : Nat → Nat → Int32} {s : Nat} {g : Nat → Int32} : fcp2 f s g s = g := funext fun _ => if_pos rfl
theorem fcp3I {f : Nat → Nat → Nat → Int32} {i s i' : Nat} {g : Nat → Int32} (e : i' ≠ i) : fcp3 f i s g i' = f i' := funext fun _ => funext fun _ => if_neg (fun q => e q.1)
theorem fcp3F {f : Nat → Nat → Nat → Int32} {i s : Nat} {g : Nat → Int32} : fcp3 f i s g i = fcp2 (f i) s g := funext fun s' => funext fun j' => by
  unfold fcp3 fcp2
  by_cases h : s' = s
  · rw [if_pos ⟨rfl, h⟩, if_pos h]
  · rw [if_neg (fun q => h q.2), if_neg h]
theorem zupAK {h : zH} {k i s k' : Nat} {g : Nat → Int32} (e : k' ≠ k) : zupA h k i s g k' = h k' := funext fun _ => funext fun _ => funext fun _ => if_neg (fun q => e q.1)
theorem zupAF {h : zH} {k i s : Nat} {g : Nat → Int32} : zupA h k i s g k = fcp3 (h k) i s g := funext fun i' => funext fun s' => funext fun j' => by
  unfold zupA fcp3
  by_cases h : i' = i ∧ s' = s
  · rw [if_pos ⟨rfl, h⟩, if_pos h]
  · rw [if_neg (fun q => h q.2), if_neg h]
theorem vpT {n N : Nat} (h : n < N) (hN : N < 2 ^ 31) : vp_in (nI n) N = True := eq_true (vp_in_nI h hN)
theorem nIm1 {n : Nat} (h : n < 2 ^ 31) : (nI n = (-1)) = False := eq_false (fun e => by
  have := congrArg Int32.toInt e
  rw [nI_toInt h] at this
  have h2 : (-1 : Int32).toInt = -1 := by decide
  rw [h2] at this
  omega)
theorem nIm1' {n : Nat} (h : n < 2 ^ 31) : ((-1) = nI n) = False := eq_false (fun e => of_eq_false (nIm1 h) e.symm)
theorem nI_01 : (nI 0 = 0 ∨ nI 0 = 1) = True := by decide
theorem nI_11 : (nI 1 = 0 ∨ nI 1 = 1) = True := by decide
/-- an int that is held to bounds is a small number, or it isn't held to them -/
theorem zarg (x : Int32) (N : Nat) (hN : N < 2 ^ 31) : (∃ a, a ≤ N ∧ x = nI a) ∨ ¬ (nI 0 ≤ x ∧ x ≤ nI N) := by
  by_cases h : nI 0 ≤ x ∧ x ≤ nI N
  · obtain ⟨a, ha, rfl⟩ := nI_of2 (M := nI N) (n := N) (nI_toInt hN) (Int32.not_lt.mpr h.1) h.2
    exact Or.inl ⟨a, ha, rfl⟩
  · exact Or.inr h
theorem zarg1 (x : Int32) (M N : Nat) (hN : N < 2 ^ 31) (hM : M ≤ N) : (∃ a, M ≤ a ∧ a ≤ N ∧ x = nI a) ∨ ¬ (nI M ≤ x ∧ x ≤ nI N) := by
  by_cases h : nI M ≤ x ∧ x ≤ nI N
  · have h0 : ¬ x < 0 := fun q => nI_pos (n := M) (by omega) (Int32.lt_of_le_of_lt h.1 q)
    obtain ⟨a, ha, rfl⟩ := nI_of2 (M := nI N) (n := N) (nI_toInt hN) h0 h.2
    exact Or.inl ⟨a, (nI_leI (by omega) (by omega)).1 h.1, ha, rfl⟩
  · exact Or.inr h
/-- an index below N, or not -/
theorem zargL (x : Int32) (N : Nat) (hN : N < 2 ^ 31) : (∃ a, a < N ∧ x = nI a) ∨ ¬ (nI 0 ≤ x ∧ x < nI N) := by
  by_cases h : nI 0 ≤ x ∧ x < nI N
  · obtain ⟨a, ha, rfl⟩ := nI_of2 (M := nI N) (n := N) (nI_toInt hN) (Int32.not_lt.mpr h.1) (Int32.le_of_lt h.2)
    exact Or.inl ⟨a, (nI_ltI (by omega) hN).1 h.2, rfl⟩
  · exact Or.inr h
/-- both sides answer alike and leave heaps that are alike -/
def zS2 (c m : Option zRS) (R : zH → zH → Prop) : Prop := ∃ v hc hm, c = some (some (.inl v), hc) ∧ m = some (some (.inl v), hm) ∧ R hc hm
/-- two loops side by side -/
theorem zsim {A B C D : Type} {P : Nat → A → C} {Q : Nat → B → D} {R : Nat → A → B → Prop} {N : Nat}
    (hs : ∀ j a b, j < N → R j a b → ∃ a' b', P j a = P (j + 1) a' ∧ Q j b = Q (j + 1) b' ∧ R (j + 1) a' b') : ∀ n, n ≤ N → ∀ a b, R 0 a b → ∃ a' b', P 0 a = P n a' ∧ Q 0 b = Q n b' ∧ R n a' b'
  | 0, _, a, b, h => ⟨a, b, rfl, rfl, h⟩
  | n + 1, hn, a, b, h => by
    obtain ⟨a1, b1, e1, e2, h1⟩ := zsim hs n (Nat.le_of_succ_le hn) a b h
    obtain ⟨a2, b2, e3, e4, h2⟩ := hs n a1 b1 hn h1
    exact ⟨a2, b2, e1.trans e3, e2.trans e4, h2⟩
/-- one loop with an invariant -/
theorem zinv {A C : Type} {P : Nat → A → C} {R : Nat → A → Prop} {N : Nat}
    (hs : ∀ j a, j < N → R j a → ∃ a', P j a = P (j + 1) a' ∧ R (j + 1) a') : ∀ n, n ≤ N → ∀ a, R 0 a → ∃ a', P 0 a = P n a' ∧ R n a'
  | 0, _, a, h => ⟨a, rfl, h⟩
  | n + 1, hn, a, h => by
    obtain ⟨a1, e1, h1⟩ := zinv hs n (Nat.le_of_succ_le hn) a h
    obtain ⟨a2, e3, h2⟩ := hs n a1 hn h1
    exact ⟨a2, e1.trans e3, h2⟩
/-- a market and a row of the reference's -/
def RMk (f : Nat → Nat → Int32) (r w s : Nat → Int32) (P H : Nat) : Prop :=
  (f 0 8 = nI P ∧ f 0 9 = nI H ∧ P ≤ 12 ∧ H ≤ 10) ∧ (r 0 = f 0 12 ∧ r 1 = f 0 14 ∧ r 2 = f 0 13 ∧ r 3 = f 0 10 ∧ r 4 = f 0 11) ∧ (∃ b, b ≤ 150 ∧ f 0 13 = nI b) ∧
  (∀ j, j < 60 → r (5 + j) = f 1 j ∧ ∃ n, n ≤ 999 ∧ f 1 j = nI n) ∧
  (∀ j, j < 12 → r (65 + j) = f 2 j ∧ ∃ n, n ≤ 9999 ∧ f 2 j = nI n) ∧
  (∀ j, j < 12 → r (77 + j) = f 3 j ∧ (P ≤ j → f 3 j = nI 0)) ∧
  (∀ j, j < 12 → r (89 + j) = f 4 j ∧ (P ≤ j → f 4 j = nI 0)) ∧
  (∀ j, j < 10 → r (101 + j) = f 5 j ∧ (j < H → ∃ n, n < P ∧ f 5 j = nI n)) ∧
  (∀ j, j < 10 → r (111 + j) = f 8 j ∧ (H ≤ j → f 8 j = nI 0)) ∧
  (∀ j, j < 10 → w j = f 6 j ∧ s j = f 7 j)
def RBk (pg bk : Nat → Int32) : Prop := ∀ j, j < 600 → bk j = pg j
def RFr0 (c : Nat → Int32) (n : Int32) (o : Nat → Int32) (m : Int32) : Prop := ∃ N, N ≤ 16 ∧ n = nI N ∧ m = nI N ∧ ∀ j, j < 5 * N → o j = c j
def RHb0 (c : Nat → Int32) (n : Int32) (o : Nat → Int32) (m : Int32) (P : Nat) : Prop := ∃ N, N ≤ 16 ∧ n = nI N ∧ m = nI N ∧ ∀ l, l < N → o (5 * l) = c (5 * l) ∧ ∃ a p, a ≤ 4 ∧ p < P ∧ c (5 * l + 1) = nI (278 + a) ∧ o (5 * l + 1) = nI a ∧ c (5 * l + 2) = nI p ∧ o (5 * l + 2) = nI p ∧ (a = 3 → ∃ u, u ≤ 999 ∧ c (5 * l + 4) = nI u ∧ o (5 * l + 4) = nI u) ∧ (a = 4 → ∃ t u, t < 5 ∧ u ≤ 999 ∧ c (5 * l + 3) = nI t ∧ o (5 * l + 3) = nI t ∧ c (5 * l + 4) = nI u ∧ o (5 * l + 4) = nI u)
/-- the kin of p, as a set, by the first n lines -/
def ks (c : Nat → Int32) (p : Nat) : Nat → Nat
  | 0 => 0
  | l + 1 => if c (5 * l) = nI p then ks c p l ||| 2 ^ (c (5 * l + 1)).toNatClampNeg else if c (5 * l + 1) = nI p then ks c p l ||| 2 ^ (c (5 * l)).toNatClampNeg else ks c p l
def RKn0 (c : Nat → Int32) (n : Int32) (o : Nat → Int32) (m : Int32) (P : Nat) : Prop := ∃ N, N ≤ 16 ∧ n = nI N ∧ m = nI N ∧ (∀ l, l < N → ∃ a b, a < P ∧ b < P ∧ a ≠ b ∧ c (5 * l) = nI a ∧ c (5 * l + 1) = nI b) ∧ ∀ p, p < 12 → o p = nI (ks c p N)
/-- a list of the class's with no steps -/
def RFr (c : Nat → Nat → Int32) (o : Nat → Int32) (m : Int32) : Prop := RFr0 (c 1) (c 0 2) o m ∧ c 0 3 = nI 0
def RHb (c : Nat → Nat → Int32) (o : Nat → Int32) (m : Int32) (P : Nat) : Prop := RHb0 (c 1) (c 0 2) o m P ∧ c 0 3 = nI 0
def RKn (c : Nat → Nat → Int32) (o : Nat → Int32) (m : Int32) (P : Nat) : Prop := RKn0 (c 1) (c 0 2) o m P ∧ c 0 3 = nI 0
def RTd (v : Nat → Int32) (n : Int32) (o : Nat → Int32) (m : Int32) (cap lo hi : Nat) : Prop := ∃ N, N ≤ cap ∧ n = nI N ∧ m = nI N ∧ ∀ j, j < N → o j = v j ∧ ∃ a, lo ≤ a ∧ a ≤ hi ∧ v j = nI a
def RCl (v : Nat → Int32) (n : Int32) (o1 o2 : Nat → Int32) (m : Int32) : Prop := ∃ N, N ≤ 16 ∧ n = nI N ∧ m = nI N ∧ ∀ j, j < N → ∃ a b, a < 12 ∧ b < 12 ∧ a ≠ b ∧ v j = nI (a * 12 + b) ∧ o1 j = nI a ∧ o2 j = nI b
/-- one step of the class's and what stands for it in the reference's code; of the stack whether each is a truth -/
def sgR (s : Int32) (O A : Nat → Int32) (i : Nat) (ts : List Bool) (i2 : Nat) (ts2 : List Bool) : Prop :=
  (∃ k, k < 11 ∧ s = nI k ∧ O i = nI 1 ∧ A i = nI k ∧ i2 = i + 1 ∧ ts2 = false :: ts ∧ ts.length < 40) ∨
  (∃ n, n < 10000 ∧ s = nI (11 + 32 * n) ∧ O i = nI 0 ∧ A i = nI n ∧ i2 = i + 1 ∧ ts2 = false :: ts ∧ ts.length < 40) ∨
  (∃ n q, 0 < n ∧ n < 10000 ∧ s = nI (12 + 32 * n) ∧ O i = nI 0 ∧ A i = nI n ∧ O (i + 1) = nI 5 ∧ i2 = i + 2 ∧ ts = false :: q ∧ ts2 = false :: q ∧ ts.length < 41) ∨
  (∃ k q, k < 3 ∧ s = nI (13 + k) ∧ O i = nI (2 + k) ∧ i2 = i + 1 ∧ ts = false :: false :: q ∧ ts2 = false :: q ∧ ts.length < 42) ∨
  (∃ k q, k < 3 ∧ s = nI (16 + k) ∧ O i = nI (6 + k) ∧ i2 = i + 1 ∧ ts = false :: false :: q ∧ ts2 = true :: q ∧ ts.length < 42) ∨
  (∃ q, s = nI 19 ∧ O i = nI 9 ∧ i2 = i + 1 ∧ ts = true :: q ∧ ts2 = true :: q ∧ ts.length < 42) ∨
  (∃ k q, k < 2 ∧ s = nI (20 + k) ∧ O i = nI (10 + k) ∧ i2 = i + 1 ∧ ts = true :: true :: q ∧ ts2 = true :: q ∧ ts.length < 42)
def Seg (S O A : Nat → Int32) : Nat → Nat → Nat → List Bool → Nat → List Bool → Prop
  | 0, _, i', ts, j', ts2 => i' = j' ∧ ts = ts2
  | n + 1, i, i', ts, j', ts2 => ∃ i1 ts1, sgR (S i) O A i' ts i1 ts1 ∧ Seg S O A n (i + 1) i1 ts1 j' ts2
def RLw (c : Nat → Nat → Int32) (lm : Int32) (lw lf lu lt op ar : Nat → Int32) : Prop := ∃ N SC, N ≤ 16 ∧ SC ≤ 400 ∧ c 0 2 = nI N ∧ c 0 3 = nI SC ∧ lm = nI N ∧ ∀ l, l < N → ∃ w f u t f' u' t', w ≤ 2 ∧ f ≤ u ∧ u ≤ t ∧ t ≤ SC ∧ f' ≤ u' ∧ u' ≤ t' ∧ t' ≤ 400 ∧ c 1 (5 * l) = nI w ∧ c 1 (5 * l + 1) = nI f ∧ c 1 (5 * l + 2) = nI u ∧ c 1 (5 * l + 3) = nI t ∧ lw l = nI w ∧ lf l = nI f' ∧ lu l = nI u' ∧ lt l = nI t' ∧ Seg (c 2) op ar (u - f) f f' [] u' [false] ∧ (u = t ∧ u' = t' ∨ u < t ∧ u' < t' ∧ Seg (c 2) op ar (t - u) u u' [] t' [true])
/-- a world of the class's (views of its cells) and a view of the reference's -/
def RWv (f : Nat → Nat → Int32) (pg : Nat → Int32) (l0 l1 l2 l3 t0 t1 t2 t3 t4 : Nat → Nat → Int32) (v : Nat → Nat → Int32) (P H : Nat) : Prop :=
  RMk f (v 2) (v 9) (v 10) P H ∧ (v 0 6 = nI P ∧ v 0 7 = nI H) ∧ RBk pg (v 11) ∧ RLw l0 (v 19 0) (v 20) (v 21) (v 22) (v 23) (v 24) (v 25) ∧
  RFr l1 (v 36) (v 0 34) ∧ RHb l2 (v 38) (v 0 36) P ∧ RKn l3 (v 40) (v 0 38) P ∧
  RCl (t0 1) (t0 0 3) (v 50) (v 51) (v 0 48) ∧ RTd (t1 1) (t1 0 3) (v 53) (v 0 51) 9 0 8 ∧ RTd (t2 1) (t2 0 3) (v 59) (v 0 57) 5 1 200 ∧
  RTd (t3 1) (t3 0 3) (v 61) (v 0 59) 7 1 30 ∧ RTd (t4 1) (t4 0 3) (v 64) (v 0 62) 6 1 20
/-- where the image has a cell -/
def ipos (s j : Nat) : Nat := match s with
  | 2 => j
  | 0 => (match j with
    | 6 => 121
    | 7 => 122
    | 34 => 123
    | 36 => 124
    | 38 => 125
    | 48 => 126
    | 51 => 127
    | 57 => 128
    | 59 => 129
    | _ => 130)
  | 9 => 131 + 2 * j
  | 10 => 132 + 2 * j
  | 40 => 151 + j
  | 50 => 163 + 2 * j
  | 51 => 164 + 2 * j
  | 53 => 195 + j
  | 59 => 204 + j
  | 61 => 209 + j
  | 64 => 216 + j
  | 36 => 222 + j
  | 38 => 302 + j
  | 11 => 382 + j
  | 19 => 982 + j
  | 20 => 983 + 4 * j
  | 21 => 984 + 4 * j
  | 22 => 985 + 4 * j
  | 23 => 986 + 4 * j
  | 24 => 1047 + 2 * j
  | _ => 1048 + 2 * j
def imgv (g : Nat → Int32) : Nat → Nat → Int32 := fun s j => g (ipos s j)
/-- what can be undone: the class's ring (kinds 3, 4), the reference's rows -/
def RPa (k3 : Nat → Nat → Nat → Int32) (p : Nat → Int32) (c : Int32) (rows w s : Nat → Int32) (P H : Nat) : Prop := ∃ n C, n < 6 ∧ C ≤ 6 ∧ p 1 = nI n ∧ p 2 = nI C ∧ c = nI C ∧ ∀ k, k < C → RMk (k3 (3 + (n + 5 - k) % 6)) (fun j => rows (121 * (C - 1 - k) + j)) w s P H
def RTp (b : Nat → Int32) (n : Int32) (t : Nat → Int32) (m : Int32) : Prop := ∃ T, T ≤ 400 ∧ n = nI T ∧ m = nI T ∧ ∀ j, j < T → ∃ x, x < 256 ∧ b j = sb_b x ∧ t j = nI x
def RIm (f : Nat → Nat → Int32) (pg : Nat → Int32) (l0 l1 l2 l3 t0 t1 t2 t3 t4 : Nat → Nat → Int32) (isk has : Int32) (g : Nat → Int32) : Prop := isk = has ∧ (has = nI 0 ∨ has = nI 1 ∧ ∃ P H, RWv f pg l0 l1 l2 l3 t0 t1 t2 t3 t4 (imgv g) P H)
def zHEAP : List Nat := [0, 1, 2, 3, 1, 4, 3, 2, 1, 4, 2, 6, 4, 1, 2, 7, 1, 4, 3, 2, 1]
def zWDS : List Nat := [116, 114, 97, 105, 116, 32, 111, 119, 110, 32, 111, 116, 104, 101, 114, 32, 103, 114, 105, 112, 32, 112, 114, 105, 99, 101, 32, 119, 111, 114, 116, 104, 32, 115, 112, 105, 114, 105, 116, 32, 115, 104, 111, 111, 107, 32, 112, 117, 114, 115, 101, 32, 107, 105, 110, 32, 100, 97, 121, 32, 112, 97, 115, 115, 101, 115, 32, 104, 111, 108, 100, 115, 32, 97, 115, 107, 115, 32, 119, 104, 101, 110, 32, 111, 114, 32, 97, 110, 100, 32, 110, 111, 116, 32, 111, 110, 32, 112, 101, 114, 115, 111, 110, 32, 104, 111, 114, 115, 101, 32, 97, 116, 32, 103, 108, 111, 118, 101, 32, 98, 97, 114, 101, 32, 115, 108, 105, 110, 103, 32, 112, 97, 121, 32, 99, 111, 108, 100, 32]
def zWDM : List Nat := [32, 112, 97, 115, 115, 101, 115, 32, 104, 111, 108, 100, 115, 32, 97, 115, 107, 115, 32, 119, 104, 101, 110, 32, 111, 114, 32, 97, 110, 100, 32, 110, 111, 116, 32, 116, 114, 97, 105, 116, 32, 111, 119, 110, 32, 111, 116, 104, 101, 114, 32, 103, 114, 105, 112, 32, 112, 114, 105, 99, 101, 32, 119, 111, 114, 116, 104, 32, 115, 112, 105, 114, 105, 116, 32, 115, 104, 111, 111, 107, 32, 112, 117, 114, 115, 101, 32, 107, 105, 110, 32, 100, 97, 121, 32, 111, 110, 32, 112, 101, 114, 115, 111, 110, 32, 104, 111, 114, 115, 101, 32, 97, 116, 32, 103, 108, 111, 118, 101, 32, 98, 97, 114, 101, 32, 115, 108, 105, 110, 103, 32, 112, 97, 121, 32, 99, 111, 108, 100, 32]
def zLIM : List (Nat × Nat) := [(0, 143), (0, 8), (1, 200), (1, 30), (1, 20)]
/-- what never changes, and what stands between two calls -/
def RSt (c0 : Int32) (k8 : Nat → Nat → Nat → Int32) (tm th it : Int32) (hp cd wd wm : Nat → Int32) : Prop := (tm = nI 0 ∧ th = nI 0 ∧ it = nI 0 ∧ c0 = nI 0) ∧ (∀ i, i < 10 → k8 i 0 1 = nI (zLIM.getD (i % 5) (0, 0)).1 ∧ k8 i 0 2 = nI (zLIM.getD (i % 5) (0, 0)).2) ∧
  (∀ j, j < 21 → hp j = nI (zHEAP.getD j 0)) ∧ (cd 1 = nI 0 ∧ ∀ j, j < 139 → wd j = nI (zWDS.getD j 0)) ∧ ∀ j, j < 140 → wm j = nI (zWDM.getD j 0)
/-- the class and the reference between two calls -/
def Rel (hc hm : zH) : Prop := ∃ P H, RWv (hc 3 0) (hc 10 0 2) (hc 2 0) (hc 2 1) (hc 2 2) (hc 2 3) (hc 8 0) (hc 8 1) (hc 8 2) (hc 8 3) (hc 8 4) (hm 12 0) P H ∧
  RPa (hc 3) (hc 4 0 0) (hm 12 0 0 3) (hm 12 0 3) (hm 12 0 9) (hm 12 0 10) P H ∧ RTp (hc 7 0 1) (hc 7 0 0 3) (hm 12 0 12) (hm 12 0 0 12) ∧ (hm 12 0 0 32 = hc 6 0 0 4 ∧ hm 12 0 0 33 = hc 6 0 0 5) ∧
  RIm (hc 3 1) (hc 10 1 2) (hc 2 4) (hc 2 5) (hc 2 6) (hc 2 7) (hc 8 5) (hc 8 6) (hc 8 7) (hc 8 8) (hc 8 9) (hc 11 0 0 9) (hm 12 0 0 66) (hm 12 0 69) ∧
  RSt (hc 0 0 2 0) (hc 8) (hc 9 0 0 4) (hc 9 0 0 5) (hm 12 0 0 5) (hc 14 0 0) (hc 15 0 0) (hc 15 0 1) (hm 12 0 18)
theorem Rel_mk {hc hm : zH} (P H : Nat) (rM : RMk (hc 3 0) (hm 12 0 2) (hm 12 0 9) (hm 12 0 10) P H) (rp : hm 12 0 0 6 = nI P ∧ hm 12 0 0 7 = nI H) (rb : RBk (hc 10 0 2) (hm 12 0 11))
    (rl : RLw (hc 2 0) (hm 12 0 19 0) (hm 12 0 20) (hm 12 0 21) (hm 12 0 22) (hm 12 0 23) (hm 12 0 24) (hm 12 0 25)) (rf : RFr (hc 2 1) (hm 12 0 36) (hm 12 0 0 34)) (rh : RHb (hc 2 2) (hm 12 0 38) (hm 12 0 0 36) P)
    (rk : RKn (hc 2 3) (hm 12 0 40) (hm 12 0 0 38) P) (r0 : RCl (hc 8 0 1) (hc 8 0 0 3) (hm 12 0 50) (hm 12 0 51) (hm 12 0 0 48)) (r1 : RTd (hc 8 1 1) (hc 8 1 0 3) (hm 12 0 53) (hm 12 0 0 51) 9 0 8)
    (r2 : RTd (hc 8 2 1) (hc 8 2 0 3) (hm 12 0 59) (hm 12 0 0 57) 5 1 200) (r3 : RTd (hc 8 3 1) (hc 8 3 0 3) (hm 12 0 61) (hm 12 0 0 59) 7 1 30) (r4 : RTd (hc 8 4 1) (hc 8 4 0 3) (hm 12 0 64) (hm 12 0 0 62) 6 1 20)
    (ra : RPa (hc 3) (hc 4 0 0) (hm 12 0 0 3) (hm 12 0 3) (hm 12 0 9) (hm 12 0 10) P H) (rt : RTp (hc 7 0 1) (hc 7 0 0 3) (hm 12 0 12) (hm 12 0 0 12)) (re : hm 12 0 0 32 = hc 6 0 0 4 ∧ hm 12 0 0 33 = hc 6 0 0 5)
    (ri : RIm (hc 3 1) (hc 10 1 2) (hc 2 4) (hc 2 5) (hc 2 6) (hc 2 7) (hc 8 5) (hc 8 6) (hc 8 7) (hc 8 8) (hc 8 9) (hc 11 0 0 9) (hm 12 0 0 66) (hm 12 0 69))
    (rs : RSt (hc 0 0 2 0) (hc 8) (hc 9 0 0 4) (hc 9 0 0 5) (hm 12 0 0 5) (hc 14 0 0) (hc 15 0 0) (hc 15 0 1) (hm 12 0 18)) : Rel hc hm :=
  ⟨P, H, ⟨rM, rp, rb, rl, rf, rh, rk, r0, r1, r2, r3, r4⟩, ra, rt, re, ri, rs⟩
/-! rules for the evaluation by simp -/
theorem znmod {a d : Nat} : a - a / d * d = a % d := by
  have h := Nat.div_add_mod a d
  rw [Nat.mul_comm] at h
  omega
theorem nIleT {a b : Nat} (h : a ≤ b) (hb : b < 2 ^ 31) : (nI a ≤ nI b) = True := eq_true (nI_le h hb)
theorem nIleF {a b : Nat} (h : b < a) (ha : a < 2 ^ 31) : (nI a ≤ nI b) = False := eq_false (nI_ge h ha)
theorem nIltT {a b : Nat} (h : a < b) (hb : b < 2 ^ 31) : (nI a < nI b) = True := eq_true (nI_lt h hb)
theorem nIltF {a b : Nat} (h : b ≤ a) (ha : a < 2 ^ 31) : (nI a < nI b) = False := eq_false (nI_nlt h ha)
theorem nIeqT {a b : Nat} (h : a = b) : (nI a = nI b) = True := by rw [h]; exact eq_self _
theorem nIeqF {a b : Nat} (h : a ≠ b) (ha : a < 2 ^ 31) (hb : b < 2 ^ 31) : (nI a = nI b) = False := eq_false (fun e => h ((nI_eq ha hb).1 e))
theorem nIm1q {n : Nat} (h : n < 2 ^ 31) : ((-1) = nI n) = False := nIm1' h
theorem zupE {h : zH} {k i s j k' i' s' j' : Nat} {v : Int32} (e : k' = k ∧ i' = i ∧ s' = s ∧ j' = j) : zup h k i s j v k' i' s' j' = v := if_pos e
theorem zupN {h : zH} {k i s j k' i' s' j' : Nat} {v : Int32} (e : ¬ (k' = k ∧ i' = i ∧ s' = s ∧ j' = j)) : zup h k i s j v k' i' s' j' = h k' i' s' j' := if_neg e
