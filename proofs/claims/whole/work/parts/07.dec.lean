/-! THE TABLES OF INSTRUCTIONS are what the methods' bytes say -/
def zokD (m : Nat) : Bool := !decide (m ∈ zUS) || (zchk 0 (zcode m).data.toList (zTAB.getD m []) && (zTAB.getD m []).all (fun q => !zsw q.2.1 || decide (decode (zcode m) q.1 = .ok q.2)))
set_option maxRecDepth 100000 in
theorem zD_0 : ∀ j, j < 28 → zokD (0 + j) = true := by decide +kernel
set_option maxRecDepth 100000 in
theorem zD_1 : ∀ j, j < 30 → zokD (28 + j) = true := by decide +kernel
set_option maxRecDepth 100000 in
theorem zD_2 : ∀ j, j < 21 → zokD (58 + j) = true := by decide +kernel
set_option maxRecDepth 100000 in
theorem zD_3 : ∀ j, j < 22 → zokD (79 + j) = true := by decide +kernel
set_option maxRecDepth 100000 in
theorem zD_4 : ∀ j, j < 27 → zokD (101 + j) = true := by decide +kernel
set_option maxRecDepth 100000 in
theorem zD_5 : ∀ j, j < 26 → zokD (128 + j) = true := by decide +kernel
set_option maxRecDepth 100000 in
theorem zD_6 : ∀ j, j < 30 → zokD (154 + j) = true := by decide +kernel
set_option maxRecDepth 100000 in
theorem zD_7 : ∀ j, j < 19 → zokD (184 + j) = true := by decide +kernel
set_option maxRecDepth 100000 in
theorem zD_8 : ∀ j, j < 14 → zokD (203 + j) = true := by decide +kernel
set_option maxRecDepth 100000 in
theorem zD_9 : ∀ j, j < 19 → zokD (217 + j) = true := by decide +kernel
set_option maxRecDepth 100000 in
theorem zD_10 : ∀ j, j < 19 → zokD (236 + j) = true := by decide +kernel
set_option maxRecDepth 100000 in
theorem zD_11 : ∀ j, j < 14 → zokD (255 + j) = true := by decide +kernel
set_option maxRecDepth 100000 in
theorem zD_12 : ∀ j, j < 14 → zokD (269 + j) = true := by decide +kernel
set_option maxRecDepth 100000 in
theorem zD_13 : ∀ j, j < 12 → zokD (283 + j) = true := by decide +kernel
set_option maxRecDepth 100000 in
theorem zD_14 : ∀ j, j < 1 → zokD (295 + j) = true := by decide +kernel
set_option maxRecDepth 100000 in
theorem zD_15 : ∀ j, j < 1 → zokD (296 + j) = true := by decide +kernel
theorem zD_ok : ∀ m, m < 297 → zokD m = true := by
  intro m hm
  rcases (by omega : (0 ≤ m ∧ m < 28) ∨ (28 ≤ m ∧ m < 58) ∨ (58 ≤ m ∧ m < 79) ∨ (79 ≤ m ∧ m < 101) ∨ (101 ≤ m ∧ m < 128) ∨ (128 ≤ m ∧ m < 154) ∨ (154 ≤ m ∧ m < 184) ∨ (184 ≤ m ∧ m < 203) ∨ (203 ≤ m ∧ m < 217) ∨ (217 ≤ m ∧ m < 236) ∨ (236 ≤ m ∧ m < 255) ∨ (255 ≤ m ∧ m < 269) ∨ (269 ≤ m ∧ m < 283) ∨ (283 ≤ m ∧ m < 295) ∨ (295 ≤ m ∧ m < 296) ∨ (296 ≤ m ∧ m < 297)) with h | h | h | h | h | h | h | h | h | h | h | h | h | h | h | h
  · have q := zD_0 (m - 0) (by omega)
    rwa [show 0 + (m - 0) = m by omega] at q
  · have q := zD_1 (m - 28) (by omega)
    rwa [show 28 + (m - 28) = m by omega] at q
  · have q := zD_2 (m - 58) (by omega)
    rwa [show 58 + (m - 58) = m by omega] at q
  · have q := zD_3 (m - 79) (by omega)
    rwa [show 79 + (m - 79) = m by omega] at q
  · have q := zD_4 (m - 101) (by omega)
    rwa [show 101 + (m - 101) = m by omega] at q
  · have q := zD_5 (m - 128) (by omega)
    rwa [show 128 + (m - 128) = m by omega] at q
  · have q := zD_6 (m - 154) (by omega)
    rwa [show 154 + (m - 154) = m by omega] at q
  · have q := zD_7 (m - 184) (by omega)
    rwa [show 184 + (m - 184) = m by omega] at q
  · have q := zD_8 (m - 203) (by omega)
    rwa [show 203 + (m - 203) = m by omega] at q
  · have q := zD_9 (m - 217) (by omega)
    rwa [show 217 + (m - 217) = m by omega] at q
  · have q := zD_10 (m - 236) (by omega)
    rwa [show 236 + (m - 236) = m by omega] at q
  · have q := zD_11 (m - 255) (by omega)
    rwa [show 255 + (m - 255) = m by omega] at q
  · have q := zD_12 (m - 269) (by omega)
    rwa [show 269 + (m - 269) = m by omega] at q
  · have q := zD_13 (m - 283) (by omega)
    rwa [show 283 + (m - 283) = m by omega] at q
  · have q := zD_14 (m - 295) (by omega)
    rwa [show 295 + (m - 295) = m by omega] at q
  · have q := zD_15 (m - 296) (by omega)
    rwa [show 296 + (m - 296) = m by omega] at q
set_option maxRecDepth 100000 in
theorem zDL : zchk 0 (code).data.toList zt295 = true := by decide +kernel
set_option maxRecDepth 100000 in
theorem zDLs : zt295.all (fun q => !zsw q.2.1 || decide (decode code q.1 = .ok q.2)) = true := by decide +kernel
def zLAW : Nat := 295
theorem zdec_of {code : ByteArray} {t : List (Nat × Instr × Nat)} (h1 : zchk 0 code.data.toList t = true) (h2 : t.all (fun q => !zsw q.2.1 || decide (decode code q.1 = .ok q.2)) = true) : ∀ q ∈ t, decode code q.1 = .ok q.2 := by
  intro q hq
  cases hs : zsw q.2.1 with
  | false =>
    have := zchk_ok (l := code.data.toList) t 0 (by simpa using h1) q hq hs
    exact this
  | true =>
    have := List.all_eq_true.mp h2 q hq
    rw [hs] at this
    exact of_decide_eq_true (by simpa using this)
theorem zdec_m {m : Nat} (hm : m < 297) (hu : m ∈ zUS) : ∀ q ∈ zTAB.getD m [], decode (zcode m) q.1 = .ok q.2 := by
  have h := zD_ok m hm
  unfold zokD at h
  rw [decide_eq_true hu] at h
  simp only [Bool.not_true, Bool.false_or, Bool.and_eq_true] at h
  exact zdec_of h.1 h.2

