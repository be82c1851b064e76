/-! THE TABLES OF INSTRUCTIONS are what the methods' bytes say -/
def zokD (m : Nat) : Bool := !decide (m ∈ zUS) || (zchk 0 (zcode m).data.toList (zTAB.getD m []) && (zTAB.getD m []).all (fun q => !zsw q.2.1 || decide (decode (zcode m) q.1 = .ok q.2)))
set_option maxRecDepth 100000 in
theorem zD_0 : ∀ j, j < 29 → zokD (0 + j) = true := by decide +kernel
set_option maxRecDepth 100000 in
theorem zD_1 : ∀ j, j < 30 → zokD (29 + j) = true := by decide +kernel
set_option maxRecDepth 100000 in
theorem zD_2 : ∀ j, j < 21 → zokD (59 + j) = true := by decide +kernel
set_option maxRecDepth 100000 in
theorem zD_3 : ∀ j, j < 22 → zokD (80 + j) = true := by decide +kernel
set_option maxRecDepth 100000 in
theorem zD_4 : ∀ j, j < 29 → zokD (102 + j) = true := by decide +kernel
set_option maxRecDepth 100000 in
theorem zD_5 : ∀ j, j < 23 → zokD (131 + j) = true := by decide +kernel
set_option maxRecDepth 100000 in
theorem zD_6 : ∀ j, j < 30 → zokD (154 + j) = true := by decide +kernel
set_option maxRecDepth 100000 in
theorem zD_7 : ∀ j, j < 19 → zokD (184 + j) = true := by decide +kernel
set_option maxRecDepth 100000 in
theorem zD_8 : ∀ j, j < 14 → zokD (203 + j) = true := by decide +kernel
set_option maxRecDepth 100000 in
theorem zD_9 : ∀ j, j < 19 → zokD (217 + j) = true := by decide +kernel
set_option maxRecDepth 100000 in
theorem zD_10 : ∀ j, j < 19 → zokD (236 + j) = true := by decide +kernel
set_option maxRecDepth 100000 in
theorem zD_11 : ∀ j, j < 14 → zokD (255 + j) = true := by decide +kernel
set_option maxRecDepth 100000 in
theorem zD_12 : ∀ j, j < 14 → zokD (269 + j) = true := by decide +kernel
set_option maxRecDepth 100000 in
theorem zD_13 : ∀ j, j < 12 → zokD (283 + j) = true := by decide +kernel
theorem zD_ok : ∀ m, m < 295 → zokD m = true := by
  intro m hm
  rcases (by omega : (0 ≤ m ∧ m < 29) ∨ (29 ≤ m ∧ m < 59) ∨ (59 ≤ m ∧ m < 80) ∨ (80 ≤ m ∧ m < 102) ∨ (102 ≤ m ∧ m < 131) ∨ (131 ≤ m ∧ m < 154) ∨ (154 ≤ m ∧ m < 184) ∨ (184 ≤ m ∧ m < 203) ∨ (203 ≤ m ∧ m < 217) ∨ (217 ≤ m ∧ m < 236) ∨ (236 ≤ m ∧ m < 255) ∨ (255 ≤ m ∧ m < 269) ∨ (269 ≤ m ∧ m < 283) ∨ (283 ≤ m ∧ m < 295)) with h | h | h | h | h | h | h | h | h | h | h | h | h | h
  · have q := zD_0 (m - 0) (by omega)
    rwa [show 0 + (m - 0) = m by omega] at q
  · have q := zD_1 (m - 29) (by omega)
    rwa [show 29 + (m - 29) = m by omega] at q
  · have q := zD_2 (m - 59) (by omega)
    rwa [show 59 + (m - 59) = m by omega] at q
  · have q := zD_3 (m - 80) (by omega)
    rwa [show 80 + (m - 80) = m by omega] at q
  · have q := zD_4 (m - 102) (by omega)
    rwa [show 102 + (m - 102) = m by omega] at q
  · have q := zD_5 (m - 131) (by omega)
    rwa [show 131 + (m - 131) = m by omega] at q
  · have q := zD_6 (m - 154) (by omega)
    rwa [show 154 + (m - 154) = m by omega] at q
  · have q := zD_7 (m - 184) (by omega)
    rwa [show 184 + (m - 184) = m by omega] at q
  · have q := zD_8 (m - 203) (by omega)
    rwa [show 203 + (m - 203) = m by omega] at q
  · have q := zD_9 (m - 217) (by omega)
    rwa [show 217 + (m - 217) = m by omega] at q
  · have q := zD_10 (m - 236) (by omega)
    rwa [show 236 + (m - 236) = m by omega] at q
  · have q := zD_11 (m - 255) (by omega)
    rwa [show 255 + (m - 255) = m by omega] at q
  · have q := zD_12 (m - 269) (by omega)
    rwa [show 269 + (m - 269) = m by omega] at q
  · have q := zD_13 (m - 283) (by omega)
    rwa [show 283 + (m - 283) = m by omega] at q
set_option maxRecDepth 100000 in
theorem zDL : zchk 0 (code).data.toList zt295 = true := by decide +kernel
set_option maxRecDepth 100000 in
theorem zDLs : zt295.all (fun q => !zsw q.2.1 || decide (decode code q.1 = .ok q.2)) = true := by decide +kernel
def zLAW : Nat := 295
theorem zdec_of {code : ByteArray} {t : List (Nat × Instr × Nat)} (h1 : zchk 0 code.data.toList t = true) (h2 : t.all (fun q => !zsw q.2.1 || decide (decode code q.1 = .ok q.2)) = true) : ∀ q ∈ t, decode code q.1 = .ok q.2 := by
  intro q hq
  cases hs : zsw q.2.1 with
  | false =>
    have := zchk_ok (l := code.data.toList) t 0 (by simpa using h1) q hq hs
    exact this
  | true =>
    have := List.all_eq_true.mp h2 q hq
    rw [hs] at this
    exact of_decide_eq_true (by simpa using this)
theorem zdec_m {m : Nat} (hm : m < 295) (hu : m ∈ zUS) : ∀ q ∈ zTAB.getD m [], decode (zcode m) q.1 = .ok q.2 := by
  have h := zD_ok m hm
  unfold zokD at h
  rw [decide_eq_true hu] at h
  simp only [Bool.not_true, Bool.false_or, Bool.and_eq_true] at h
  exact zdec_of h.1 h.2

