/-! text: letters and words -/
theorem sbL : ∀ x, x < 128 → sb_b x = nI x := by decide +kernel
theorem sbH : ∀ x, x < 256 → 128 ≤ x → sb_b x < nI 0 := by decide +kernel
theorem sb_eq {x c : Nat} (hx : x < 256) (hc : c < 128) : sb_b x = nI c ↔ x = c := by
  by_cases h : x < 128
  · rw [sbL x h]
    constructor
    · intro e; exact (nI_eq (by omega) (by omega)).1 e
    · intro e; rw [e]
  · have := sbH x hx (by omega)
    constructor
    · intro e
      rw [e] at this
      exact absurd this (of_eq_false (nIltF (Nat.zero_le c) (by omega)))
    · intro e; omega
theorem zup_zup {h : zH} {k i s j : Nat} {v w : Int32} : zup (zup h k i s j v) k i s j w = zup h k i s j w := by
  funext k' i' s' j'
  unfold zup
  by_cases c : k' = k ∧ i' = i ∧ s' = s ∧ j' = j
  · rw [if_pos c, if_pos c]
  · rw [if_neg c, if_neg c, if_neg c]
theorem zup_id {h : zH} {k i s j : Nat} {v : Int32} (e : h k i s j = v) : zup h k i s j v = h := by
  funext k' i' s' j'
  unfold zup
  by_cases c : k' = k ∧ i' = i ∧ s' = s ∧ j' = j
  · rw [if_pos c]; obtain ⟨rfl, rfl, rfl, rfl⟩ := c; exact e.symm
  · rw [if_neg c]
def yyL (x : Nat) : Bool := decide (97 ≤ x ∧ x ≤ 122) || decide (65 ≤ x ∧ x ≤ 90)
def yyD (x : Nat) : Bool := decide (48 ≤ x ∧ x ≤ 57)
def yyS (x : Nat) : Bool := [40, 41, 42, 43, 45, 47, 59, 60, 61, 62].contains x
def yyW (x : Nat) : Bool := decide (x = 32) || decide (x = 10)
theorem yyL_t {x : Nat} : yyL x = true ↔ (97 ≤ x ∧ x ≤ 122) ∨ (65 ≤ x ∧ x ≤ 90) := by simp only [yyL, Bool.or_eq_true, decide_eq_true_eq]
theorem yyL_f {x : Nat} : yyL x = false ↔ ¬ ((97 ≤ x ∧ x ≤ 122) ∨ (65 ≤ x ∧ x ≤ 90)) := by rw [← yyL_t]; cases yyL x <;> simp
theorem yyD_t {x : Nat} : yyD x = true ↔ 48 ≤ x ∧ x ≤ 57 := by simp only [yyD, decide_eq_true_eq]
theorem yyD_f {x : Nat} : yyD x = false ↔ ¬ (48 ≤ x ∧ x ≤ 57) := by rw [← yyD_t]; cases yyD x <;> simp
theorem yyW_t {x : Nat} : yyW x = true ↔ x = 32 ∨ x = 10 := by simp only [yyW, Bool.or_eq_true, decide_eq_true_eq]
theorem yyW_f {x : Nat} : yyW x = false ↔ ¬ (x = 32 ∨ x = 10) := by rw [← yyW_t]; cases yyW x <;> simp
/-- how far a row of like ones goes -/
def yyu (Q : Nat → Bool) : Nat → Nat → Nat
  | 0, s => s
  | n + 1, s => if Q s = true then yyu Q n (s + 1) else s
def yyQ (T : Nat) (P : Nat → Bool) (B : Nat → Nat) (k : Nat) : Bool := decide (k < T) && P (B k)
theorem yyQ_t {T k : Nat} {P : Nat → Bool} {B : Nat → Nat} : yyQ T P B k = true ↔ k < T ∧ P (B k) = true := by simp only [yyQ, Bool.and_eq_true, decide_eq_true_eq]
theorem yyQ_g {T k : Nat} {P : Nat → Bool} {B : Nat → Nat} (h : T ≤ k) : yyQ T P B k = false := by
  cases e : yyQ T P B k with
  | false => rfl
  | true => have := (yyQ_t.1 e).1; omega
theorem yyu_ge {Q : Nat → Bool} : ∀ n s, s ≤ yyu Q n s
  | 0, s => Nat.le_refl s
  | n + 1, s => by
    rw [yyu]
    split
    · exact Nat.le_trans (Nat.le_succ s) (yyu_ge n (s + 1))
    · exact Nat.le_refl s
theorem yyu_le {T : Nat} {P : Nat → Bool} {B : Nat → Nat} : ∀ n s, s ≤ T → yyu (yyQ T P B) n s ≤ T
  | 0, s, h => h
  | n + 1, s, h => by
    rw [yyu]
    split
    · rename_i q
      exact yyu_le n (s + 1) (yyQ_t.1 q).1
    · exact h
theorem yyu_in {Q : Nat → Bool} : ∀ n s k, s ≤ k → k < yyu Q n s → Q k = true
  | 0, s, k, h1, h2 => by rw [yyu] at h2; omega
  | n + 1, s, k, h1, h2 => by
    rw [yyu] at h2
    split at h2
    · rename_i q
      by_cases c : k = s
      · rw [c]; exact q
      · exact yyu_in n (s + 1) k (by omega) h2
    · omega
/-- more fuel changes nothing -/
theorem yyu_f {T : Nat} {P : Nat → Bool} {B : Nat → Nat} : ∀ n m s, T ≤ s + n → T ≤ s + m → yyu (yyQ T P B) n s = yyu (yyQ T P B) m s
  | 0, 0, s, _, _ => rfl
  | 0, m + 1, s, h, _ => by rw [yyu, yyu, yyQ_g (by omega)]; rfl
  | n + 1, 0, s, _, h => by rw [yyu, yyu, yyQ_g (by omega)]; rfl
  | n + 1, m + 1, s, h1, h2 => by
    rw [yyu, yyu, yyu_f n m (s + 1) (by omega) (by omega)]
theorem yyu_no {Q : Nat → Bool} {n s : Nat} (h : Q s = false) : yyu Q n s = s := by
  cases n with
  | zero => rfl
  | succ n => rw [yyu, h]; rfl
theorem yyu_end {T : Nat} {P : Nat → Bool} {B : Nat → Nat} : ∀ n s, T ≤ s + n → yyQ T P B (yyu (yyQ T P B) n s) = false
  | 0, s, h => yyQ_g (by rw [yyu]; omega)
  | n + 1, s, h => by
    rw [yyu]
    split
    · exact yyu_end n (s + 1) (by omega)
    · rename_i q
      cases e : yyQ T P B s with
      | false => rfl
      | true => exact absurd e q
def yysg (B : Nat → Nat) : Nat → Nat → List Nat
  | _, 0 => []
  | a, n + 1 => B a :: yysg B (a + 1) n
/-- a row of words, each with a blank behind it -/
def yyfl : List (List Nat) → List Nat
  | [] => []
  | w :: r => w ++ 32 :: yyfl r
def yyix : List (List Nat) → List Nat → Nat → Nat
  | [], _, _ => 1
  | w :: r, s, k => if s = w then k else yyix r s (k + 1)
def yyim : List (List Nat) → List Nat → Nat → Int32
  | [], _, _ => (-1)
  | w :: r, s, k => if s = w then nI k else yyim r s (k + 1)
def yyWc : List (List Nat) := [[116, 114, 97, 105, 116], [111, 119, 110], [111, 116, 104, 101, 114], [103, 114, 105, 112], [112, 114, 105, 99, 101], [119, 111, 114, 116, 104], [115, 112, 105, 114, 105, 116], [115, 104, 111, 111, 107], [112, 117, 114, 115, 101], [107, 105, 110], [100, 97, 121], [112, 97, 115, 115, 101, 115], [104, 111, 108, 100, 115], [97, 115, 107, 115], [119, 104, 101, 110], [111, 114], [97, 110, 100], [110, 111, 116], [111, 110], [112, 101, 114, 115, 111, 110], [104, 111, 114, 115, 101], [97, 116], [103, 108, 111, 118, 101], [98, 97, 114, 101], [115, 108, 105, 110, 103], [112, 97, 121], [99, 111, 108, 100]]
def yyWm : List (List Nat) := [[112, 97, 115, 115, 101, 115], [104, 111, 108, 100, 115], [97, 115, 107, 115], [119, 104, 101, 110], [111, 114], [97, 110, 100], [110, 111, 116], [116, 114, 97, 105, 116], [111, 119, 110], [111, 116, 104, 101, 114], [103, 114, 105, 112], [112, 114, 105, 99, 101], [119, 111, 114, 116, 104], [115, 112, 105, 114, 105, 116], [115, 104, 111, 111, 107], [112, 117, 114, 115, 101], [107, 105, 110], [100, 97, 121], [111, 110], [112, 101, 114, 115, 111, 110], [104, 111, 114, 115, 101], [97, 116], [103, 108, 111, 118, 101], [98, 97, 114, 101], [115, 108, 105, 110, 103], [112, 97, 121], [99, 111, 108, 100]]
theorem yyWc_f : yyfl yyWc = zWDS := by decide +kernel
theorem yyWm_f : 32 :: yyfl yyWm = zWDM := by decide +kernel
theorem yyWc_n : ∀ w, w ∈ yyWc → ∀ c, c ∈ w → c ≠ 32 := by decide +kernel
theorem yyWm_n : ∀ w, w ∈ yyWm → ∀ c, c ∈ w → c ≠ 32 := by decide +kernel
/-- which word it is with the reference -/
def yymc (c : Nat) : Nat := if c < 11 then c + 7 else if c < 18 then c - 11 else c
theorem yywd (s : List Nat) : (∃ c, c < 27 ∧ yyix yyWc s 256 = 256 + c ∧ yyim yyWm s 0 = nI (yymc c)) ∨ (yyix yyWc s 256 = 1 ∧ yyim yyWm s 0 = (-1)) := by
  by_cases h0 : s = [116, 114, 97, 105, 116]
  · exact Or.inl ⟨0, by decide, by rw [h0]; rfl, by rw [h0]; rfl⟩
  by_cases h1 : s = [111, 119, 110]
  · exact Or.inl ⟨1, by decide, by rw [h1]; rfl, by rw [h1]; rfl⟩
  by_cases h2 : s = [111, 116, 104, 101, 114]
  · exact Or.inl ⟨2, by decide, by rw [h2]; rfl, by rw [h2]; rfl⟩
  by_cases h3 : s = [103, 114, 105, 112]
  · exact Or.inl ⟨3, by decide, by rw [h3]; rfl, by rw [h3]; rfl⟩
  by_cases h4 : s = [112, 114, 105, 99, 101]
  · exact Or.inl ⟨4, by decide, by rw [h4]; rfl, by rw [h4]; rfl⟩
  by_cases h5 : s = [119, 111, 114, 116, 104]
  · exact Or.inl ⟨5, by decide, by rw [h5]; rfl, by rw [h5]; rfl⟩
  by_cases h6 : s = [115, 112, 105, 114, 105, 116]
  · exact Or.inl ⟨6, by decide, by rw [h6]; rfl, by rw [h6]; rfl⟩
  by_cases h7 : s = [115, 104, 111, 111, 107]
  · exact Or.inl ⟨7, by decide, by rw [h7]; rfl, by rw [h7]; rfl⟩
  by_cases h8 : s = [112, 117, 114, 115, 101]
  · exact Or.inl ⟨8, by decide, by rw [h8]; rfl, by rw [h8]; rfl⟩
  by_cases h9 : s = [107, 105, 110]
  · exact Or.inl ⟨9, by decide, by rw [h9]; rfl, by rw [h9]; rfl⟩
  by_cases h10 : s = [100, 97, 121]
  · exact Or.inl ⟨10, by decide, by rw [h10]; rfl, by rw [h10]; rfl⟩
  by_cases h11 : s = [112, 97, 115, 115, 101, 115]
  · exact Or.inl ⟨11, by decide, by rw [h11]; rfl, by rw [h11]; rfl⟩
  by_cases h12 : s = [104, 111, 108, 100, 115]
  · exact Or.inl ⟨12, by decide, by rw [h12]; rfl, by rw [h12]; rfl⟩
  by_cases h13 : s = [97, 115, 107, 115]
  · exact Or.inl ⟨13, by decide, by rw [h13]; rfl, by rw [h13]; rfl⟩
  by_cases h14 : s = [119, 104, 101, 110]
  · exact Or.inl ⟨14, by decide, by rw [h14]; rfl, by rw [h14]; rfl⟩
  by_cases h15 : s = [111, 114]
  · exact Or.inl ⟨15, by decide, by rw [h15]; rfl, by rw [h15]; rfl⟩
  by_cases h16 : s = [97, 110, 100]
  · exact Or.inl ⟨16, by decide, by rw [h16]; rfl, by rw [h16]; rfl⟩
  by_cases h17 : s = [110, 111, 116]
  · exact Or.inl ⟨17, by decide, by rw [h17]; rfl, by rw [h17]; rfl⟩
  by_cases h18 : s = [111, 110]
  · exact Or.inl ⟨18, by decide, by rw [h18]; rfl, by rw [h18]; rfl⟩
  by_cases h19 : s = [112, 101, 114, 115, 111, 110]
  · exact Or.inl ⟨19, by decide, by rw [h19]; rfl, by rw [h19]; rfl⟩
  by_cases h20 : s = [104, 111, 114, 115, 101]
  · exact Or.inl ⟨20, by decide, by rw [h20]; rfl, by rw [h20]; rfl⟩
  by_cases h21 : s = [97, 116]
  · exact Or.inl ⟨21, by decide, by rw [h21]; rfl, by rw [h21]; rfl⟩
  by_cases h22 : s = [103, 108, 111, 118, 101]
  · exact Or.inl ⟨22, by decide, by rw [h22]; rfl, by rw [h22]; rfl⟩
  by_cases h23 : s = [98, 97, 114, 101]
  · exact Or.inl ⟨23, by decide, by rw [h23]; rfl, by rw [h23]; rfl⟩
  by_cases h24 : s = [115, 108, 105, 110, 103]
  · exact Or.inl ⟨24, by decide, by rw [h24]; rfl, by rw [h24]; rfl⟩
  by_cases h25 : s = [112, 97, 121]
  · exact Or.inl ⟨25, by decide, by rw [h25]; rfl, by rw [h25]; rfl⟩
  by_cases h26 : s = [99, 111, 108, 100]
  · exact Or.inl ⟨26, by decide, by rw [h26]; rfl, by rw [h26]; rfl⟩
  refine Or.inr ⟨?_, ?_⟩
  · simp only [yyWc, yyix, h0, h1, h2, h3, h4, h5, h6, h7, h8, h9, h10, h11, h12, h13, h14, h15, h16, h17, h18, h19, h20, h21, h22, h23, h24, h25, h26, if_false, ↓reduceIte]
  · simp only [yyWm, yyim, h0, h1, h2, h3, h4, h5, h6, h7, h8, h9, h10, h11, h12, h13, h14, h15, h16, h17, h18, h19, h20, h21, h22, h23, h24, h25, h26, if_false, ↓reduceIte]
/-- the class's search -/
def yycw (B : Nat → Nat) (a b : Nat) : List Nat → Nat → Nat → Bool → Nat
  | [], _, _, _ => 1
  | c :: r, word, p, same => if c = 32 then (if same = true ∧ p = b then 256 + word else yycw B a b r (word + 1) a true) else yycw B a b r word (p + 1) (same && (decide (p < b) && decide (B p = c)))
theorem yycw_w {B : Nat → Nat} {a b word : Nat} {r : List Nat} : ∀ (w : List Nat) (p : Nat) (same : Bool), (∀ c, c ∈ w → c ≠ 32) → yycw B a b (w ++ 32 :: r) word p same = if same = true ∧ p ≤ b ∧ yysg B p (b - p) = w then 256 + word else yycw B a b r (word + 1) a true
  | [], p, same, _ => by
    show (if (32 : Nat) = 32 then _ else _) = _
    rw [if_pos rfl]
    have : (same = true ∧ p = b) ↔ (same = true ∧ p ≤ b ∧ yysg B p (b - p) = []) := by
      constructor
      · intro ⟨h1, h2⟩; subst h2; rw [Nat.sub_self]; exact ⟨h1, Nat.le_refl _, rfl⟩
      · intro ⟨h1, h2, h3⟩
        refine ⟨h1, ?_⟩
        cases e : b - p with
        | zero => omega
        | succ n => rw [e] at h3; cases h3
    simp only [this]
  | c :: w, p, same, h => by
    show (if c = 32 then _ else yycw B a b (w ++ 32 :: r) word (p + 1) (same && (decide (p < b) && decide (B p = c)))) = _
    rw [if_neg (h c List.mem_cons_self), yycw_w w (p + 1) _ (fun x hx => h x (List.mem_cons_of_mem _ hx))]
    have : ((same && (decide (p < b) && decide (B p = c))) = true ∧ p + 1 ≤ b ∧ yysg B (p + 1) (b - (p + 1)) = w) ↔ (same = true ∧ p ≤ b ∧ yysg B p (b - p) = c :: w) := by
      by_cases hp : p < b
      · have e : b - p = (b - (p + 1)) + 1 := by omega
        rw [e, yysg, List.cons.injEq, Bool.and_eq_true, Bool.and_eq_true, decide_eq_true_eq, decide_eq_true_eq]
        constructor
        · intro ⟨⟨h1, _, h2⟩, _, h3⟩; exact ⟨h1, by omega, h2, h3⟩
        · intro ⟨h1, _, h2, h3⟩; exact ⟨⟨h1, hp, h2⟩, by omega, h3⟩
      · constructor
        · intro ⟨_, h2, _⟩; omega
        · intro ⟨_, h2, h3⟩
          have e : b - p = 0 := by omega
          rw [e] at h3
          cases h3
    simp only [this]
theorem yycw_l {B : Nat → Nat} {a b : Nat} (hab : a ≤ b) : ∀ (l : List (List Nat)) (word : Nat), (∀ w, w ∈ l → ∀ c, c ∈ w → c ≠ 32) → yycw B a b (yyfl l) word a true = yyix l (yysg B a (b - a)) (256 + word)
  | [], word, _ => rfl
  | w :: r, word, h => by
    rw [yyfl, yycw_w w a true (h w List.mem_cons_self), yyix, yycw_l hab r (word + 1) (fun x hx => h x (List.mem_cons_of_mem _ hx))]
    simp only [true_and, hab]
    rfl
/-- whether a row begins with a word -/
def yymw : List Nat → List Nat → Bool
  | c :: r, x :: s => decide (c = x) && yymw r s
  | c :: _, [] => decide (c = 32)
  | [], _ => false
theorem yymw_w {r : List Nat} : ∀ (w s : List Nat), (∀ c, c ∈ w → c ≠ 32) → (∀ c, c ∈ s → c ≠ 32) → yymw (w ++ 32 :: r) s = decide (s = w)
  | [], [], _, _ => rfl
  | [], x :: s, _, h => by
    show (decide (32 = x) && yymw r s) = _
    rw [decide_eq_false (fun q => h x List.mem_cons_self q.symm)]
    rfl
  | c :: w, [], h, _ => by
    show decide (c = 32) = _
    rw [decide_eq_false (h c List.mem_cons_self)]
    rfl
  | c :: w, x :: s, h1, h2 => by
    show (decide (c = x) && yymw (w ++ 32 :: r) s) = _
    rw [yymw_w w s (fun q hq => h1 q (List.mem_cons_of_mem _ hq)) (fun q hq => h2 q (List.mem_cons_of_mem _ hq))]
    by_cases e : x = c
    · subst e
      rw [decide_eq_true rfl, Bool.true_and]
      by_cases e2 : s = w
      · rw [e2, decide_eq_true rfl, decide_eq_true rfl]
      · rw [decide_eq_false e2, decide_eq_false (fun q => e2 (List.cons.inj q).2)]
    · rw [decide_eq_false (fun q => e q.symm), decide_eq_false (fun q => e (List.cons.inj q).1)]
      rfl
theorem ydrop {l : List Nat} {i : Nat} (h : i < l.length) : l.drop i = l.getD i 0 :: l.drop (i + 1) := by
  rw [List.drop_eq_getElem_cons h, List.getD_eq_getElem?_getD, List.getElem?_eq_getElem h, Option.getD_some]
