/-! could: all rows -/
theorem yce_0 {b c : Nat} (h1 : 0 ≤ b) (h2 : b ≤ c) (h3 : c ≤ 9) : yen yok 5 (10 - c) c [c, b, 0] = true := by
  have : b = 0 ∨ b = 1 ∨ b = 2 ∨ b = 3 ∨ b = 4 ∨ b = 5 ∨ b = 6 ∨ b = 7 ∨ b = 8 ∨ b = 9 := by omega
  rcases this with rfl | rfl | rfl | rfl | rfl | rfl | rfl | rfl | rfl | rfl
  · have : c = 0 ∨ c = 1 ∨ c = 2 ∨ c = 3 ∨ c = 4 ∨ c = 5 ∨ c = 6 ∨ c = 7 ∨ c = 8 ∨ c = 9 := by omega
    rcases this with rfl | rfl | rfl | rfl | rfl | rfl | rfl | rfl | rfl | rfl
    · exact ycd_0_0_0
    · exact ycd_0_0_1
    · exact ycd_0_0_2
    · exact ycd_0_0_3
    · exact ycd_0_0_4
    · exact ycd_0_0_5
    · exact ycd_0_0_6
    · exact ycd_0_0_7
    · exact ycd_0_0_8
    · exact ycd_0_0_9
  · have : c = 1 ∨ c = 2 ∨ c = 3 ∨ c = 4 ∨ c = 5 ∨ c = 6 ∨ c = 7 ∨ c = 8 ∨ c = 9 := by omega
    rcases this with rfl | rfl | rfl | rfl | rfl | rfl | rfl | rfl | rfl
    · exact ycd_0_1_1
    · exact ycd_0_1_2
    · exact ycd_0_1_3
    · exact ycd_0_1_4
    · exact ycd_0_1_5
    · exact ycd_0_1_6
    · exact ycd_0_1_7
    · exact ycd_0_1_8
    · exact ycd_0_1_9
  · have := yen_st ycd_0_2 h2 (by omega)
    rw [show 2 + 8 - c = 10 - c by omega] at this
    exact this
  · have := yen_st ycd_0_3 h2 (by omega)
    rw [show 3 + 7 - c = 10 - c by omega] at this
    exact this
  · have := yen_st ycd_0_4 h2 (by omega)
    rw [show 4 + 6 - c = 10 - c by omega] at this
    exact this
  · have := yen_st ycd_0_5 h2 (by omega)
    rw [show 5 + 5 - c = 10 - c by omega] at this
    exact this
  · have := yen_st ycd_0_6 h2 (by omega)
    rw [show 6 + 4 - c = 10 - c by omega] at this
    exact this
  · have := yen_st ycd_0_7 h2 (by omega)
    rw [show 7 + 3 - c = 10 - c by omega] at this
    exact this
  · have := yen_st ycd_0_8 h2 (by omega)
    rw [show 8 + 2 - c = 10 - c by omega] at this
    exact this
  · have := yen_st ycd_0_9 h2 (by omega)
    rw [show 9 + 1 - c = 10 - c by omega] at this
    exact this
theorem yce_1 {b c : Nat} (h1 : 1 ≤ b) (h2 : b ≤ c) (h3 : c ≤ 9) : yen yok 5 (10 - c) c [c, b, 1] = true := by
  have : b = 1 ∨ b = 2 ∨ b = 3 ∨ b = 4 ∨ b = 5 ∨ b = 6 ∨ b = 7 ∨ b = 8 ∨ b = 9 := by omega
  rcases this with rfl | rfl | rfl | rfl | rfl | rfl | rfl | rfl | rfl
  · have := yen_st ycd_1_1 h2 (by omega)
    rw [show 1 + 9 - c = 10 - c by omega] at this
    exact this
  · have := yen_st ycd_1_2 h2 (by omega)
    rw [show 2 + 8 - c = 10 - c by omega] at this
    exact this
  · have := yen_st ycd_1_3 h2 (by omega)
    rw [show 3 + 7 - c = 10 - c by omega] at this
    exact this
  · have := yen_st ycd_1_4 h2 (by omega)
    rw [show 4 + 6 - c = 10 - c by omega] at this
    exact this
  · have := yen_st ycd_1_5 h2 (by omega)
    rw [show 5 + 5 - c = 10 - c by omega] at this
    exact this
  · have := yen_st ycd_1_6 h2 (by omega)
    rw [show 6 + 4 - c = 10 - c by omega] at this
    exact this
  · have := yen_st ycd_1_7 h2 (by omega)
    rw [show 7 + 3 - c = 10 - c by omega] at this
    exact this
  · have := yen_st ycd_1_8 h2 (by omega)
    rw [show 8 + 2 - c = 10 - c by omega] at this
    exact this
  · have := yen_st ycd_1_9 h2 (by omega)
    rw [show 9 + 1 - c = 10 - c by omega] at this
    exact this
theorem yce_2 {b c : Nat} (h1 : 2 ≤ b) (h2 : b ≤ c) (h3 : c ≤ 9) : yen yok 5 (10 - c) c [c, b, 2] = true := by
  have : b = 2 ∨ b = 3 ∨ b = 4 ∨ b = 5 ∨ b = 6 ∨ b = 7 ∨ b = 8 ∨ b = 9 := by omega
  rcases this with rfl | rfl | rfl | rfl | rfl | rfl | rfl | rfl
  · have := yen_st ycd_2_2 h2 (by omega)
    rw [show 2 + 8 - c = 10 - c by omega] at this
    exact this
  · have := yen_st ycd_2_3 h2 (by omega)
    rw [show 3 + 7 - c = 10 - c by omega] at this
    exact this
  · have := yen_st ycd_2_4 h2 (by omega)
    rw [show 4 + 6 - c = 10 - c by omega] at this
    exact this
  · have := yen_st ycd_2_5 h2 (by omega)
    rw [show 5 + 5 - c = 10 - c by omega] at this
    exact this
  · have := yen_st ycd_2_6 h2 (by omega)
    rw [show 6 + 4 - c = 10 - c by omega] at this
    exact this
  · have := yen_st ycd_2_7 h2 (by omega)
    rw [show 7 + 3 - c = 10 - c by omega] at this
    exact this
  · have := yen_st ycd_2_8 h2 (by omega)
    rw [show 8 + 2 - c = 10 - c by omega] at this
    exact this
  · have := yen_st ycd_2_9 h2 (by omega)
    rw [show 9 + 1 - c = 10 - c by omega] at this
    exact this
theorem yce_3 {b c : Nat} (h1 : 3 ≤ b) (h2 : b ≤ c) (h3 : c ≤ 9) : yen yok 5 (10 - c) c [c, b, 3] = true := by
  have : b = 3 ∨ b = 4 ∨ b = 5 ∨ b = 6 ∨ b = 7 ∨ b = 8 ∨ b = 9 := by omega
  rcases this with rfl | rfl | rfl | rfl | rfl | rfl | rfl
  · have := yen_st ycd_3_3 h2 (by omega)
    rw [show 3 + 7 - c = 10 - c by omega] at this
    exact this
  · have := yen_st ycd_3_4 h2 (by omega)
    rw [show 4 + 6 - c = 10 - c by omega] at this
    exact this
  · have := yen_st ycd_3_5 h2 (by omega)
    rw [show 5 + 5 - c = 10 - c by omega] at this
    exact this
  · have := yen_st ycd_3_6 h2 (by omega)
    rw [show 6 + 4 - c = 10 - c by omega] at this
    exact this
  · have := yen_st ycd_3_7 h2 (by omega)
    rw [show 7 + 3 - c = 10 - c by omega] at this
    exact this
  · have := yen_st ycd_3_8 h2 (by omega)
    rw [show 8 + 2 - c = 10 - c by omega] at this
    exact this
  · have := yen_st ycd_3_9 h2 (by omega)
    rw [show 9 + 1 - c = 10 - c by omega] at this
    exact this
theorem yce_4 {b c : Nat} (h1 : 4 ≤ b) (h2 : b ≤ c) (h3 : c ≤ 9) : yen yok 5 (10 - c) c [c, b, 4] = true := by
  have : b = 4 ∨ b = 5 ∨ b = 6 ∨ b = 7 ∨ b = 8 ∨ b = 9 := by omega
  rcases this with rfl | rfl | rfl | rfl | rfl | rfl
  · have := yen_st ycd_4_4 h2 (by omega)
    rw [show 4 + 6 - c = 10 - c by omega] at this
    exact this
  · have := yen_st ycd_4_5 h2 (by omega)
    rw [show 5 + 5 - c = 10 - c by omega] at this
    exact this
  · have := yen_st ycd_4_6 h2 (by omega)
    rw [show 6 + 4 - c = 10 - c by omega] at this
    exact this
  · have := yen_st ycd_4_7 h2 (by omega)
    rw [show 7 + 3 - c = 10 - c by omega] at this
    exact this
  · have := yen_st ycd_4_8 h2 (by omega)
    rw [show 8 + 2 - c = 10 - c by omega] at this
    exact this
  · have := yen_st ycd_4_9 h2 (by omega)
    rw [show 9 + 1 - c = 10 - c by omega] at this
    exact this
theorem yce_5 {b c : Nat} (h1 : 5 ≤ b) (h2 : b ≤ c) (h3 : c ≤ 9) : yen yok 5 (10 - c) c [c, b, 5] = true := by
  have : b = 5 ∨ b = 6 ∨ b = 7 ∨ b = 8 ∨ b = 9 := by omega
  rcases this with rfl | rfl | rfl | rfl | rfl
  · have := yen_st ycd_5_5 h2 (by omega)
    rw [show 5 + 5 - c = 10 - c by omega] at this
    exact this
  · have := yen_st ycd_5_6 h2 (by omega)
    rw [show 6 + 4 - c = 10 - c by omega] at this
    exact this
  · have := yen_st ycd_5_7 h2 (by omega)
    rw [show 7 + 3 - c = 10 - c by omega] at this
    exact this
  · have := yen_st ycd_5_8 h2 (by omega)
    rw [show 8 + 2 - c = 10 - c by omega] at this
    exact this
  · have := yen_st ycd_5_9 h2 (by omega)
    rw [show 9 + 1 - c = 10 - c by omega] at this
    exact this
theorem yce_6 {b c : Nat} (h1 : 6 ≤ b) (h2 : b ≤ c) (h3 : c ≤ 9) : yen yok 5 (10 - c) c [c, b, 6] = true := by
  have : b = 6 ∨ b = 7 ∨ b = 8 ∨ b = 9 := by omega
  rcases this with rfl | rfl | rfl | rfl
  · have := yen_st ycd_6_6 h2 (by omega)
    rw [show 6 + 4 - c = 10 - c by omega] at this
    exact this
  · have := yen_st ycd_6_7 h2 (by omega)
    rw [show 7 + 3 - c = 10 - c by omega] at this
    exact this
  · have := yen_st ycd_6_8 h2 (by omega)
    rw [show 8 + 2 - c = 10 - c by omega] at this
    exact this
  · have := yen_st ycd_6_9 h2 (by omega)
    rw [show 9 + 1 - c = 10 - c by omega] at this
    exact this
theorem yce_7 {b c : Nat} (h1 : 7 ≤ b) (h2 : b ≤ c) (h3 : c ≤ 9) : yen yok 5 (10 - c) c [c, b, 7] = true := by
  have : b = 7 ∨ b = 8 ∨ b = 9 := by omega
  rcases this with rfl | rfl | rfl
  · have := yen_st ycd_7_7 h2 (by omega)
    rw [show 7 + 3 - c = 10 - c by omega] at this
    exact this
  · have := yen_st ycd_7_8 h2 (by omega)
    rw [show 8 + 2 - c = 10 - c by omega] at this
    exact this
  · have := yen_st ycd_7_9 h2 (by omega)
    rw [show 9 + 1 - c = 10 - c by omega] at this
    exact this
theorem yce_8 {b c : Nat} (h1 : 8 ≤ b) (h2 : b ≤ c) (h3 : c ≤ 9) : yen yok 5 (10 - c) c [c, b, 8] = true := by
  have : b = 8 ∨ b = 9 := by omega
  rcases this with rfl | rfl
  · have := yen_st ycd_8_8 h2 (by omega)
    rw [show 8 + 2 - c = 10 - c by omega] at this
    exact this
  · have := yen_st ycd_8_9 h2 (by omega)
    rw [show 9 + 1 - c = 10 - c by omega] at this
    exact this
theorem yce_9 {b c : Nat} (h1 : 9 ≤ b) (h2 : b ≤ c) (h3 : c ≤ 9) : yen yok 5 (10 - c) c [c, b, 9] = true := by
  have : b = 9 := by omega
  subst this
  · have := yen_st ycd_9_9 h2 (by omega)
    rw [show 9 + 1 - c = 10 - c by omega] at this
    exact this
theorem ycd5 {a b c : Nat} (h1 : a ≤ b) (h2 : b ≤ c) (h3 : c ≤ 9) : yen yok 5 (10 - c) c [c, b, a] = true := by
  have : a = 0 ∨ a = 1 ∨ a = 2 ∨ a = 3 ∨ a = 4 ∨ a = 5 ∨ a = 6 ∨ a = 7 ∨ a = 8 ∨ a = 9 := by omega
  rcases this with rfl | rfl | rfl | rfl | rfl | rfl | rfl | rfl | rfl | rfl
  · exact yce_0 h1 h2 h3
  · exact yce_1 h1 h2 h3
  · exact yce_2 h1 h2 h3
  · exact yce_3 h1 h2 h3
  · exact yce_4 h1 h2 h3
  · exact yce_5 h1 h2 h3
  · exact yce_6 h1 h2 h3
  · exact yce_7 h1 h2 h3
  · exact yce_8 h1 h2 h3
  · exact yce_9 h1 h2 h3
theorem yok_all {g1 g2 g3 g4 g5 g6 g7 g8 : Nat} (h8 : g8 ≤ g7) (h7 : g7 ≤ g6) (h6 : g6 ≤ g5) (h5 : g5 ≤ g4) (h4 : g4 ≤ g3) (h3 : g3 ≤ g2) (h2 : g2 ≤ g1) (h1 : g1 ≤ 9) : yok [g1, g2, g3, g4, g5, g6, g7, g8] = true := by
  have k6 := ycd5 h8 h7 (by omega)
  have k5 := yen_st k6 h6 (by omega)
  have k4 := yen_st k5 h5 (by omega)
  have k3 := yen_st k4 h4 (by omega)
  have k2 := yen_st k3 h3 (by omega)
  have k1 := yen_st k2 h2 (by omega)
  exact k1
