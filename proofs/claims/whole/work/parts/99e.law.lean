/-! the law's loop: one call after another -/
def zSd (k : Nat) : Bool := !(Nat.beq k 12) && !(Nat.beq k 13)
theorem zfHYd : zfHY zSd (fun _ => true) := by
  refine ⟨?_, fun _ _ _ _ => rfl, fun _ _ _ _ => rfl, fun _ _ _ _ _ => ⟨rfl, rfl⟩, fun _ _ _ => rfl, fun _ _ _ _ _ _ => rfl⟩
  intro k i f hk hf
  rw [ztk]
  by_cases hb : k < 16 ∧ f < 70
  · have hd : ∀ k, k < 16 → ∀ f, f < 70 → zSd k = true → zfty k f = 2 → zSd (ztgt k 0 f).1 = true := by decide +kernel
    exact hd k hb.1 f hb.2 hk hf
  · rw [zfty9 hb] at hf
    cases hf
theorem zfrD {L d m : Nat} {ls : zLS} {h h' : zH} {v : Option zV} (e : zev L d m 0 ls [] h = some (v, h')) (hl : zfoB zSd ls = true) : h' 12 = h 12 ∧ h' 13 = h 13 := ⟨zfk_ev zfHYd e rfl (zfoB_L hl) 12 rfl, zfk_ev zfHYd e rfl (zfoB_L hl) 13 rfl⟩
theorem Rel_12 {hc hm g : zH} (R : Rel hc hm) (e : g 12 = hm 12) : Rel hc g := by
  unfold Rel
  rw [e]
  exact R
theorem Rel_k {hc hm g : zH} (R : Rel hc hm) (e : ∀ k, k ≠ 12 → g k = hc k) : Rel g hm := by
  unfold Rel
  rw [e 0 (by omega), e 2 (by omega), e 3 (by omega), e 4 (by omega), e 6 (by omega), e 7 (by omega), e 8 (by omega), e 9 (by omega), e 10 (by omega), e 11 (by omega), e 14 (by omega), e 15 (by omega)]
  exact R
section LL
variable {L d : Nat} {h : zH} {p : Nat}
theorem yCall2 {m1 m2 : Nat} {ls1 ls2 : zLS} (o : ∀ hc hm, Rel hc hm → zS2 (zev L d m1 0 ls1 [] hc) (zev L d m2 0 ls2 [] hm) Rel) (h1 : zfoB zSd ls1 = true) (h2 : zMm m2 = true) (h3 : zfoB zSm ls2 = true) (R : Rel h h) : ∃ v g1 g2, zev L d m1 0 ls1 [] h = some (some (.inl v), g1) ∧ zev L d m2 0 ls2 [] g1 = some (some (.inl v), g2) ∧ Rel g2 g2 ∧ g1 13 = h 13 ∧ g2 13 = h 13 := by
  obtain ⟨v, g1, gx, e1, _, _⟩ := o h h R
  have f1 := zfrD e1 h1
  obtain ⟨v', g1', g2, e1', e2, R2⟩ := o h g1 (Rel_12 R f1.1)
  rw [e1] at e1'
  cases e1'
  have f2 := zfrM e2 h2 h3
  exact ⟨v, g1, g2, e1, e2, Rel_k R2 (fun k hk => f2 k hk), f1.2, (f2 13 (by omega)).trans f1.2⟩
theorem l295_0 (hp : p + 6 ≤ L) (hL : L < 2 ^ 31) (R : Rel h h) : ∃ h', zev L (d + 41) 295 33 [some (.inr (.inl (13, 0, 0))), some (.inr (.inl (11, 0, 0))), some (.inr (.inl (12, 0, 0))), some (.inl (nI p))] [.inl (nI 0)] h = zev L (d + 41) 295 1531 [some (.inr (.inl (13, 0, 0))), some (.inr (.inl (11, 0, 0))), some (.inr (.inl (12, 0, 0))), some (.inl (nI p))] [] h' ∧ Rel h' h' ∧ h' 13 = h 13 := by
  obtain ⟨v, g1, g2, e1, e2, R2, e3, e4⟩ := yCall2 (L := L) (d := d + 40) (m1 := 109) (m2 := 167) (ls1 := [some (.inr (.inl (11, 0, 0))), some (.inl (h 13 0 0 ((nI p) + (nI 1)).toNatClampNeg)), none]) (ls2 := [some (.inr (.inl (12, 0, 0))), some (.inl (h 13 0 0 ((nI p) + (nI 1)).toNatClampNeg)), none]) (fun hc hm R => o_state (d := d + 20) R) rfl rfl rfl R
  refine ⟨g2, ?_, R2, e4⟩
  rw [s295_33_0, b295_212 (by rw [nI_add]; exact vp_in_nI (by omega) hL), e1]
  simp only [Option.bind_some, Option.toList_some, List.cons_append, List.nil_append]
  rw [b295_221 (by rw [nI_add]; exact vp_in_nI (by omega) hL), e3, e2]
  simp only [Option.bind_some, Option.toList_some, List.cons_append, List.nil_append]
  rw [b295_230, if_pos rfl]
theorem l295_1 (hp : p + 6 ≤ L) (hL : L < 2 ^ 31) (R : Rel h h) : ∃ h', zev L (d + 41) 295 33 [some (.inr (.inl (13, 0, 0))), some (.inr (.inl (11, 0, 0))), some (.inr (.inl (12, 0, 0))), some (.inl (nI p))] [.inl (nI 1)] h = zev L (d + 41) 295 1531 [some (.inr (.inl (13, 0, 0))), some (.inr (.inl (11, 0, 0))), some (.inr (.inl (12, 0, 0))), some (.inl (nI p))] [] h' ∧ Rel h' h' ∧ h' 13 = h 13 := by
  obtain ⟨v, g1, g2, e1, e2, R2, e3, e4⟩ := yCall2 (L := L) (d := d + 40) (m1 := 110) (m2 := 173) (ls1 := [some (.inr (.inl (11, 0, 0))), some (.inl (h 13 0 0 ((nI p) + (nI 1)).toNatClampNeg)), some (.inl (h 13 0 0 ((nI p) + (nI 2)).toNatClampNeg)), none]) (ls2 := [some (.inr (.inl (12, 0, 0))), some (.inl (h 13 0 0 ((nI p) + (nI 1)).toNatClampNeg)), some (.inl (h 13 0 0 ((nI p) + (nI 2)).toNatClampNeg)), none]) (fun hc hm R => o_person (d := d + 20) R) rfl rfl rfl R
  refine ⟨g2, ?_, R2, e4⟩
  rw [s295_33_1, b295_235 (by rw [nI_add]; exact vp_in_nI (by omega) hL) (by rw [nI_add]; exact vp_in_nI (by omega) hL), e1]
  simp only [Option.bind_some, Option.toList_some, List.cons_append, List.nil_append]
  rw [b295_249 (by rw [nI_add]; exact vp_in_nI (by omega) hL) (by rw [nI_add]; exact vp_in_nI (by omega) hL), e3, e2]
  simp only [Option.bind_some, Option.toList_some, List.cons_append, List.nil_append]
  rw [b295_263, if_pos rfl]
theorem l295_2 (hp : p + 6 ≤ L) (hL : L < 2 ^ 31) (R : Rel h h) : ∃ h', zev L (d + 41) 295 33 [some (.inr (.inl (13, 0, 0))), some (.inr (.inl (11, 0, 0))), some (.inr (.inl (12, 0, 0))), some (.inl (nI p))] [.inl (nI 2)] h = zev L (d + 41) 295 1531 [some (.inr (.inl (13, 0, 0))), some (.inr (.inl (11, 0, 0))), some (.inr (.inl (12, 0, 0))), some (.inl (nI p))] [] h' ∧ Rel h' h' ∧ h' 13 = h 13 := by
  obtain ⟨v, g1, g2, e1, e2, R2, e3, e4⟩ := yCall2 (L := L) (d := d + 40) (m1 := 111) (m2 := 174) (ls1 := [some (.inr (.inl (11, 0, 0))), some (.inl (h 13 0 0 ((nI p) + (nI 1)).toNatClampNeg)), some (.inl (h 13 0 0 ((nI p) + (nI 2)).toNatClampNeg)), some (.inl (h 13 0 0 ((nI p) + (nI 3)).toNatClampNeg)), none]) (ls2 := [some (.inr (.inl (12, 0, 0))), some (.inl (h 13 0 0 ((nI p) + (nI 1)).toNatClampNeg)), some (.inl (h 13 0 0 ((nI p) + (nI 2)).toNatClampNeg)), some (.inl (h 13 0 0 ((nI p) + (nI 3)).toNatClampNeg))]) (fun hc hm R => o_horse (d := d + 20) R) rfl rfl rfl R
  refine ⟨g2, ?_, R2, e4⟩
  rw [s295_33_2, b295_268 (by rw [nI_add]; exact vp_in_nI (by omega) hL) (by rw [nI_add]; exact vp_in_nI (by omega) hL) (by rw [nI_add]; exact vp_in_nI (by omega) hL), e1]
  simp only [Option.bind_some, Option.toList_some, List.cons_append, List.nil_append]
  rw [b295_287 (by rw [nI_add]; exact vp_in_nI (by omega) hL) (by rw [nI_add]; exact vp_in_nI (by omega) hL) (by rw [nI_add]; exact vp_in_nI (by omega) hL), e3, e2]
  simp only [Option.bind_some, Option.toList_some, List.cons_append, List.nil_append]
  rw [b295_306, if_pos rfl]
theorem l295_3 (hp : p + 6 ≤ L) (hL : L < 2 ^ 31) (R : Rel h h) : ∃ h', zev L (d + 41) 295 33 [some (.inr (.inl (13, 0, 0))), some (.inr (.inl (11, 0, 0))), some (.inr (.inl (12, 0, 0))), some (.inl (nI p))] [.inl (nI 3)] h = zev L (d + 41) 295 1531 [some (.inr (.inl (13, 0, 0))), some (.inr (.inl (11, 0, 0))), some (.inr (.inl (12, 0, 0))), some (.inl (nI p))] [] h' ∧ Rel h' h' ∧ h' 13 = h 13 := by
  obtain ⟨v, g1, g2, e1, e2, R2, e3, e4⟩ := yCall2 (L := L) (d := d + 40) (m1 := 112) (m2 := 176) (ls1 := [some (.inr (.inl (11, 0, 0))), some (.inl (h 13 0 0 ((nI p) + (nI 1)).toNatClampNeg)), some (.inl (h 13 0 0 ((nI p) + (nI 2)).toNatClampNeg)), some (.inl (h 13 0 0 ((nI p) + (nI 3)).toNatClampNeg)), none]) (ls2 := [some (.inr (.inl (12, 0, 0))), some (.inl (h 13 0 0 ((nI p) + (nI 1)).toNatClampNeg)), some (.inl (h 13 0 0 ((nI p) + (nI 2)).toNatClampNeg)), some (.inl (h 13 0 0 ((nI p) + (nI 3)).toNatClampNeg))]) (fun hc hm R => o_set (d := d + 20) R) rfl rfl rfl R
  refine ⟨g2, ?_, R2, e4⟩
  rw [s295_33_3, b295_311 (by rw [nI_add]; exact vp_in_nI (by omega) hL) (by rw [nI_add]; exact vp_in_nI (by omega) hL) (by rw [nI_add]; exact vp_in_nI (by omega) hL), e1]
  simp only [Option.bind_some, Option.toList_some, List.cons_append, List.nil_append]
  rw [b295_330 (by rw [nI_add]; exact vp_in_nI (by omega) hL) (by rw [nI_add]; exact vp_in_nI (by omega) hL) (by rw [nI_add]; exact vp_in_nI (by omega) hL), e3, e2]
  simp only [Option.bind_some, Option.toList_some, List.cons_append, List.nil_append]
  rw [b295_349, if_pos rfl]
theorem l295_4 (hp : p + 6 ≤ L) (hL : L < 2 ^ 31) (R : Rel h h) : ∃ h', zev L (d + 41) 295 33 [some (.inr (.inl (13, 0, 0))), some (.inr (.inl (11, 0, 0))), some (.inr (.inl (12, 0, 0))), some (.inl (nI p))] [.inl (nI 4)] h = zev L (d + 41) 295 1531 [some (.inr (.inl (13, 0, 0))), some (.inr (.inl (11, 0, 0))), some (.inr (.inl (12, 0, 0))), some (.inl (nI p))] [] h' ∧ Rel h' h' ∧ h' 13 = h 13 := by
  obtain ⟨v, g1, g2, e1, e2, R2, e3, e4⟩ := yCall2 (L := L) (d := d + 40) (m1 := 115) (m2 := 233) (ls1 := [some (.inr (.inl (11, 0, 0))), some (.inl (h 13 0 0 ((nI p) + (nI 1)).toNatClampNeg)), some (.inl (h 13 0 0 ((nI p) + (nI 2)).toNatClampNeg)), some (.inl (h 13 0 0 ((nI p) + (nI 3)).toNatClampNeg)), some (.inl (h 13 0 0 ((nI p) + (nI 4)).toNatClampNeg))]) (ls2 := [some (.inr (.inl (12, 0, 0))), some (.inl (h 13 0 0 ((nI p) + (nI 1)).toNatClampNeg)), some (.inl (h 13 0 0 ((nI p) + (nI 2)).toNatClampNeg)), some (.inl (h 13 0 0 ((nI p) + (nI 3)).toNatClampNeg)), some (.inl (h 13 0 0 ((nI p) + (nI 4)).toNatClampNeg))]) (fun hc hm R => o_buys (d := d + 20) R) rfl rfl rfl R
  refine ⟨g2, ?_, R2, e4⟩
  rw [s295_33_4, b295_354 (by rw [nI_add]; exact vp_in_nI (by omega) hL) (by rw [nI_add]; exact vp_in_nI (by omega) hL) (by rw [nI_add]; exact vp_in_nI (by omega) hL) (by rw [nI_add]; exact vp_in_nI (by omega) hL), e1]
  simp only [Option.bind_some, Option.toList_some, List.cons_append, List.nil_append]
  rw [b295_378 (by rw [nI_add]; exact vp_in_nI (by omega) hL) (by rw [nI_add]; exact vp_in_nI (by omega) hL) (by rw [nI_add]; exact vp_in_nI (by omega) hL) (by rw [nI_add]; exact vp_in_nI (by omega) hL), e3, e2]
  simp only [Option.bind_some, Option.toList_some, List.cons_append, List.nil_append]
  rw [b295_402, if_pos rfl]
theorem l295_5 (hp : p + 6 ≤ L) (hL : L < 2 ^ 31) (R : Rel h h) : ∃ h', zev L (d + 41) 295 33 [some (.inr (.inl (13, 0, 0))), some (.inr (.inl (11, 0, 0))), some (.inr (.inl (12, 0, 0))), some (.inl (nI p))] [.inl (nI 5)] h = zev L (d + 41) 295 1531 [some (.inr (.inl (13, 0, 0))), some (.inr (.inl (11, 0, 0))), some (.inr (.inl (12, 0, 0))), some (.inl (nI p))] [] h' ∧ Rel h' h' ∧ h' 13 = h 13 := by
  obtain ⟨v, g1, g2, e1, e2, R2, e3, e4⟩ := yCall2 (L := L) (d := d + 40) (m1 := 116) (m2 := 234) (ls1 := [some (.inr (.inl (11, 0, 0))), some (.inl (h 13 0 0 ((nI p) + (nI 1)).toNatClampNeg)), some (.inl (h 13 0 0 ((nI p) + (nI 2)).toNatClampNeg)), some (.inl (h 13 0 0 ((nI p) + (nI 3)).toNatClampNeg))]) (ls2 := [some (.inr (.inl (12, 0, 0))), some (.inl (h 13 0 0 ((nI p) + (nI 1)).toNatClampNeg)), some (.inl (h 13 0 0 ((nI p) + (nI 2)).toNatClampNeg)), some (.inl (h 13 0 0 ((nI p) + (nI 3)).toNatClampNeg))]) (fun hc hm R => o_clasp (d := d + 20) R) rfl rfl rfl R
  refine ⟨g2, ?_, R2, e4⟩
  rw [s295_33_5, b295_407 (by rw [nI_add]; exact vp_in_nI (by omega) hL) (by rw [nI_add]; exact vp_in_nI (by omega) hL) (by rw [nI_add]; exact vp_in_nI (by omega) hL), e1]
  simp only [Option.bind_some, Option.toList_some, List.cons_append, List.nil_append]
  rw [b295_426 (by rw [nI_add]; exact vp_in_nI (by omega) hL) (by rw [nI_add]; exact vp_in_nI (by omega) hL) (by rw [nI_add]; exact vp_in_nI (by omega) hL), e3, e2]
  simp only [Option.bind_some, Option.toList_some, List.cons_append, List.nil_append]
  rw [b295_445, if_pos rfl]
theorem l295_6 (hp : p + 6 ≤ L) (hL : L < 2 ^ 31) (R : Rel h h) : ∃ h', zev L (d + 41) 295 33 [some (.inr (.inl (13, 0, 0))), some (.inr (.inl (11, 0, 0))), some (.inr (.inl (12, 0, 0))), some (.inl (nI p))] [.inl (nI 6)] h = zev L (d + 41) 295 1531 [some (.inr (.inl (13, 0, 0))), some (.inr (.inl (11, 0, 0))), some (.inr (.inl (12, 0, 0))), some (.inl (nI p))] [] h' ∧ Rel h' h' ∧ h' 13 = h 13 := by
  obtain ⟨v, g1, g2, e1, e2, R2, e3, e4⟩ := yCall2 (L := L) (d := d + 40) (m1 := 117) (m2 := 235) (ls1 := [some (.inr (.inl (11, 0, 0))), some (.inl (h 13 0 0 ((nI p) + (nI 1)).toNatClampNeg)), some (.inl (h 13 0 0 ((nI p) + (nI 2)).toNatClampNeg)), none]) (ls2 := [some (.inr (.inl (12, 0, 0))), some (.inl (h 13 0 0 ((nI p) + (nI 1)).toNatClampNeg)), some (.inl (h 13 0 0 ((nI p) + (nI 2)).toNatClampNeg))]) (fun hc hm R => o_hand (d := d + 20) R) rfl rfl rfl R
  refine ⟨g2, ?_, R2, e4⟩
  rw [s295_33_6, b295_450 (by rw [nI_add]; exact vp_in_nI (by omega) hL) (by rw [nI_add]; exact vp_in_nI (by omega) hL), e1]
  simp only [Option.bind_some, Option.toList_some, List.cons_append, List.nil_append]
  rw [b295_464 (by rw [nI_add]; exact vp_in_nI (by omega) hL) (by rw [nI_add]; exact vp_in_nI (by omega) hL), e3, e2]
  simp only [Option.bind_some, Option.toList_some, List.cons_append, List.nil_append]
  rw [b295_478, if_pos rfl]
theorem l295_7 (hp : p + 6 ≤ L) (hL : L < 2 ^ 31) (R : Rel h h) : ∃ h', zev L (d + 41) 295 33 [some (.inr (.inl (13, 0, 0))), some (.inr (.inl (11, 0, 0))), some (.inr (.inl (12, 0, 0))), some (.inl (nI p))] [.inl (nI 7)] h = zev L (d + 41) 295 1531 [some (.inr (.inl (13, 0, 0))), some (.inr (.inl (11, 0, 0))), some (.inr (.inl (12, 0, 0))), some (.inl (nI p))] [] h' ∧ Rel h' h' ∧ h' 13 = h 13 := by
  obtain ⟨v, g1, g2, e1, e2, R2, e3, e4⟩ := yCall2 (L := L) (d := d + 40) (m1 := 118) (m2 := 238) (ls1 := [some (.inr (.inl (11, 0, 0))), some (.inl (h 13 0 0 ((nI p) + (nI 1)).toNatClampNeg)), none, none]) (ls2 := [some (.inr (.inl (12, 0, 0))), some (.inl (h 13 0 0 ((nI p) + (nI 1)).toNatClampNeg)), none, none]) (fun hc hm R => o_days (d := d + 20) R) rfl rfl rfl R
  refine ⟨g2, ?_, R2, e4⟩
  rw [s295_33_7, b295_483 (by rw [nI_add]; exact vp_in_nI (by omega) hL), e1]
  simp only [Option.bind_some, Option.toList_some, List.cons_append, List.nil_append]
  rw [b295_492 (by rw [nI_add]; exact vp_in_nI (by omega) hL), e3, e2]
  simp only [Option.bind_some, Option.toList_some, List.cons_append, List.nil_append]
  rw [b295_501, if_pos rfl]
theorem l295_8 (hp : p + 6 ≤ L) (hL : L < 2 ^ 31) (R : Rel h h) : ∃ h', zev L (d + 41) 295 33 [some (.inr (.inl (13, 0, 0))), some (.inr (.inl (11, 0, 0))), some (.inr (.inl (12, 0, 0))), some (.inl (nI p))] [.inl (nI 8)] h = zev L (d + 41) 295 1531 [some (.inr (.inl (13, 0, 0))), some (.inr (.inl (11, 0, 0))), some (.inr (.inl (12, 0, 0))), some (.inl (nI p))] [] h' ∧ Rel h' h' ∧ h' 13 = h 13 := by
  obtain ⟨v, g1, g2, e1, e2, R2, e3, e4⟩ := yCall2 (L := L) (d := d + 40) (m1 := 119) (m2 := 178) (ls1 := [some (.inr (.inl (11, 0, 0))), some (.inl (h 13 0 0 ((nI p) + (nI 1)).toNatClampNeg)), some (.inl (h 13 0 0 ((nI p) + (nI 2)).toNatClampNeg)), some (.inl (h 13 0 0 ((nI p) + (nI 3)).toNatClampNeg)), some (.inl (h 13 0 0 ((nI p) + (nI 4)).toNatClampNeg)), some (.inl (h 13 0 0 ((nI p) + (nI 5)).toNatClampNeg))]) (ls2 := [some (.inr (.inl (12, 0, 0))), some (.inl (h 13 0 0 ((nI p) + (nI 1)).toNatClampNeg)), some (.inl (h 13 0 0 ((nI p) + (nI 2)).toNatClampNeg)), some (.inl (h 13 0 0 ((nI p) + (nI 3)).toNatClampNeg)), some (.inl (h 13 0 0 ((nI p) + (nI 4)).toNatClampNeg)), some (.inl (h 13 0 0 ((nI p) + (nI 5)).toNatClampNeg))]) (fun hc hm R => o_feed (d := d + 20) R) rfl rfl rfl R
  refine ⟨g2, ?_, R2, e4⟩
  rw [s295_33_8, b295_506 (by rw [nI_add]; exact vp_in_nI (by omega) hL) (by rw [nI_add]; exact vp_in_nI (by omega) hL) (by rw [nI_add]; exact vp_in_nI (by omega) hL) (by rw [nI_add]; exact vp_in_nI (by omega) hL) (by rw [nI_add]; exact vp_in_nI (by omega) hL), e1]
  simp only [Option.bind_some, Option.toList_some, List.cons_append, List.nil_append]
  rw [b295_535 (by rw [nI_add]; exact vp_in_nI (by omega) hL) (by rw [nI_add]; exact vp_in_nI (by omega) hL) (by rw [nI_add]; exact vp_in_nI (by omega) hL) (by rw [nI_add]; exact vp_in_nI (by omega) hL) (by rw [nI_add]; exact vp_in_nI (by omega) hL), e3, e2]
  simp only [Option.bind_some, Option.toList_some, List.cons_append, List.nil_append]
  rw [b295_564, if_pos rfl]
theorem l295_9 (hp : p + 6 ≤ L) (hL : L < 2 ^ 31) (R : Rel h h) : ∃ h', zev L (d + 41) 295 33 [some (.inr (.inl (13, 0, 0))), some (.inr (.inl (11, 0, 0))), some (.inr (.inl (12, 0, 0))), some (.inl (nI p))] [.inl (nI 9)] h = zev L (d + 41) 295 1531 [some (.inr (.inl (13, 0, 0))), some (.inr (.inl (11, 0, 0))), some (.inr (.inl (12, 0, 0))), some (.inl (nI p))] [] h' ∧ Rel h' h' ∧ h' 13 = h 13 := by
  obtain ⟨v, g1, g2, e1, e2, R2, e3, e4⟩ := yCall2 (L := L) (d := d + 40) (m1 := 120) (m2 := 179) (ls1 := [some (.inr (.inl (11, 0, 0))), some (.inl (h 13 0 0 ((nI p) + (nI 1)).toNatClampNeg))]) (ls2 := [some (.inr (.inl (12, 0, 0))), some (.inl (h 13 0 0 ((nI p) + (nI 1)).toNatClampNeg))]) (fun hc hm R => o_end (d := d + 20) R) rfl rfl rfl R
  refine ⟨g2, ?_, R2, e4⟩
  rw [s295_33_9, b295_569 (by rw [nI_add]; exact vp_in_nI (by omega) hL), e1]
  simp only [Option.bind_some, Option.toList_some, List.cons_append, List.nil_append]
  rw [b295_578 (by rw [nI_add]; exact vp_in_nI (by omega) hL), e3, e2]
  simp only [Option.bind_some, Option.toList_some, List.cons_append, List.nil_append]
  rw [b295_587, if_pos rfl]
theorem l295_10 (hp : p + 6 ≤ L) (hL : L < 2 ^ 31) (R : Rel h h) : ∃ h', zev L (d + 41) 295 33 [some (.inr (.inl (13, 0, 0))), some (.inr (.inl (11, 0, 0))), some (.inr (.inl (12, 0, 0))), some (.inl (nI p))] [.inl (nI 10)] h = zev L (d + 41) 295 1531 [some (.inr (.inl (13, 0, 0))), some (.inr (.inl (11, 0, 0))), some (.inr (.inl (12, 0, 0))), some (.inl (nI p))] [] h' ∧ Rel h' h' ∧ h' 13 = h 13 := by
  obtain ⟨v, g1, g2, e1, e2, R2, e3, e4⟩ := yCall2 (L := L) (d := d + 40) (m1 := 121) (m2 := 212) (ls1 := [some (.inr (.inl (11, 0, 0))), some (.inl (h 13 0 0 ((nI p) + (nI 1)).toNatClampNeg)), none]) (ls2 := [some (.inr (.inl (12, 0, 0))), some (.inl (h 13 0 0 ((nI p) + (nI 1)).toNatClampNeg)), none]) (fun hc hm R => o_text (d := d) R) rfl rfl rfl R
  refine ⟨g2, ?_, R2, e4⟩
  rw [s295_33_10, b295_592 (by rw [nI_add]; exact vp_in_nI (by omega) hL), e1]
  simp only [Option.bind_some, Option.toList_some, List.cons_append, List.nil_append]
  rw [b295_601 (by rw [nI_add]; exact vp_in_nI (by omega) hL), e3, e2]
  simp only [Option.bind_some, Option.toList_some, List.cons_append, List.nil_append]
  rw [b295_610, if_pos rfl]
theorem l295_11 (hp : p + 6 ≤ L) (hL : L < 2 ^ 31) (R : Rel h h) : ∃ h', zev L (d + 41) 295 33 [some (.inr (.inl (13, 0, 0))), some (.inr (.inl (11, 0, 0))), some (.inr (.inl (12, 0, 0))), some (.inl (nI p))] [.inl (nI 11)] h = zev L (d + 41) 295 1531 [some (.inr (.inl (13, 0, 0))), some (.inr (.inl (11, 0, 0))), some (.inr (.inl (12, 0, 0))), some (.inl (nI p))] [] h' ∧ Rel h' h' ∧ h' 13 = h 13 := by
  obtain ⟨v, g1, g2, e1, e2, R2, e3, e4⟩ := yCall2 (L := L) (d := d + 40) (m1 := 122) (m2 := 213) (ls1 := [some (.inr (.inl (11, 0, 0))), some (.inl (h 13 0 0 ((nI p) + (nI 1)).toNatClampNeg))]) (ls2 := [some (.inr (.inl (12, 0, 0))), some (.inl (h 13 0 0 ((nI p) + (nI 1)).toNatClampNeg))]) (fun hc hm R => o_fault (d := d + 20) R) rfl rfl rfl R
  refine ⟨g2, ?_, R2, e4⟩
  rw [s295_33_11, b295_615 (by rw [nI_add]; exact vp_in_nI (by omega) hL), e1]
  simp only [Option.bind_some, Option.toList_some, List.cons_append, List.nil_append]
  rw [b295_624 (by rw [nI_add]; exact vp_in_nI (by omega) hL), e3, e2]
  simp only [Option.bind_some, Option.toList_some, List.cons_append, List.nil_append]
  rw [b295_633, if_pos rfl]
theorem l295_12 (hp : p + 6 ≤ L) (hL : L < 2 ^ 31) (R : Rel h h) : ∃ h', zev L (d + 41) 295 33 [some (.inr (.inl (13, 0, 0))), some (.inr (.inl (11, 0, 0))), some (.inr (.inl (12, 0, 0))), some (.inl (nI p))] [.inl (nI 12)] h = zev L (d + 41) 295 1531 [some (.inr (.inl (13, 0, 0))), some (.inr (.inl (11, 0, 0))), some (.inr (.inl (12, 0, 0))), some (.inl (nI p))] [] h' ∧ Rel h' h' ∧ h' 13 = h 13 := by
  obtain ⟨v, g1, g2, e1, e2, R2, e3, e4⟩ := yCall2 (L := L) (d := d + 40) (m1 := 123) (m2 := 239) (ls1 := [some (.inr (.inl (11, 0, 0))), some (.inl (h 13 0 0 ((nI p) + (nI 1)).toNatClampNeg)), some (.inl (h 13 0 0 ((nI p) + (nI 2)).toNatClampNeg)), none]) (ls2 := [some (.inr (.inl (12, 0, 0))), some (.inl (h 13 0 0 ((nI p) + (nI 1)).toNatClampNeg)), some (.inl (h 13 0 0 ((nI p) + (nI 2)).toNatClampNeg))]) (fun hc hm R => o_of (d := d + 20) R) rfl rfl rfl R
  refine ⟨g2, ?_, R2, e4⟩
  rw [s295_33_12, b295_638 (by rw [nI_add]; exact vp_in_nI (by omega) hL) (by rw [nI_add]; exact vp_in_nI (by omega) hL), e1]
  simp only [Option.bind_some, Option.toList_some, List.cons_append, List.nil_append]
  rw [b295_652 (by rw [nI_add]; exact vp_in_nI (by omega) hL) (by rw [nI_add]; exact vp_in_nI (by omega) hL), e3, e2]
  simp only [Option.bind_some, Option.toList_some, List.cons_append, List.nil_append]
  rw [b295_666, if_pos rfl]
theorem l295_13 (hp : p + 6 ≤ L) (hL : L < 2 ^ 31) (R : Rel h h) : ∃ h', zev L (d + 41) 295 33 [some (.inr (.inl (13, 0, 0))), some (.inr (.inl (11, 0, 0))), some (.inr (.inl (12, 0, 0))), some (.inl (nI p))] [.inl (nI 13)] h = zev L (d + 41) 295 1531 [some (.inr (.inl (13, 0, 0))), some (.inr (.inl (11, 0, 0))), some (.inr (.inl (12, 0, 0))), some (.inl (nI p))] [] h' ∧ Rel h' h' ∧ h' 13 = h 13 := by
  obtain ⟨v, g1, g2, e1, e2, R2, e3, e4⟩ := yCall2 (L := L) (d := d + 40) (m1 := 124) (m2 := 240) (ls1 := [some (.inr (.inl (11, 0, 0))), some (.inl (h 13 0 0 ((nI p) + (nI 1)).toNatClampNeg)), some (.inl (h 13 0 0 ((nI p) + (nI 2)).toNatClampNeg)), none]) (ls2 := [some (.inr (.inl (12, 0, 0))), some (.inl (h 13 0 0 ((nI p) + (nI 1)).toNatClampNeg)), some (.inl (h 13 0 0 ((nI p) + (nI 2)).toNatClampNeg))]) (fun hc hm R => o_horseOf (d := d + 20) R) rfl rfl rfl R
  refine ⟨g2, ?_, R2, e4⟩
  rw [s295_33_13, b295_671 (by rw [nI_add]; exact vp_in_nI (by omega) hL) (by rw [nI_add]; exact vp_in_nI (by omega) hL), e1]
  simp only [Option.bind_some, Option.toList_some, List.cons_append, List.nil_append]
  rw [b295_685 (by rw [nI_add]; exact vp_in_nI (by omega) hL) (by rw [nI_add]; exact vp_in_nI (by omega) hL), e3, e2]
  simp only [Option.bind_some, Option.toList_some, List.cons_append, List.nil_append]
  rw [b295_699, if_pos rfl]
theorem l295_14 (hp : p + 6 ≤ L) (hL : L < 2 ^ 31) (R : Rel h h) : ∃ h', zev L (d + 41) 295 33 [some (.inr (.inl (13, 0, 0))), some (.inr (.inl (11, 0, 0))), some (.inr (.inl (12, 0, 0))), some (.inl (nI p))] [.inl (nI 14)] h = zev L (d + 41) 295 1531 [some (.inr (.inl (13, 0, 0))), some (.inr (.inl (11, 0, 0))), some (.inr (.inl (12, 0, 0))), some (.inl (nI p))] [] h' ∧ Rel h' h' ∧ h' 13 = h 13 := by
  obtain ⟨v, g1, g2, e1, e2, R2, e3, e4⟩ := yCall2 (L := L) (d := d + 40) (m1 := 125) (m2 := 242) (ls1 := [some (.inr (.inl (11, 0, 0))), some (.inl (h 13 0 0 ((nI p) + (nI 1)).toNatClampNeg)), some (.inl (h 13 0 0 ((nI p) + (nI 2)).toNatClampNeg)), some (.inl (h 13 0 0 ((nI p) + (nI 3)).toNatClampNeg)), some (.inl (h 13 0 0 ((nI p) + (nI 4)).toNatClampNeg))]) (ls2 := [some (.inr (.inl (12, 0, 0))), some (.inl (h 13 0 0 ((nI p) + (nI 1)).toNatClampNeg)), some (.inl (h 13 0 0 ((nI p) + (nI 2)).toNatClampNeg)), some (.inl (h 13 0 0 ((nI p) + (nI 3)).toNatClampNeg)), some (.inl (h 13 0 0 ((nI p) + (nI 4)).toNatClampNeg))]) (fun hc hm R => o_passes (d := d + 20) R) rfl rfl rfl R
  refine ⟨g2, ?_, R2, e4⟩
  rw [s295_33_14, b295_704 (by rw [nI_add]; exact vp_in_nI (by omega) hL) (by rw [nI_add]; exact vp_in_nI (by omega) hL) (by rw [nI_add]; exact vp_in_nI (by omega) hL) (by rw [nI_add]; exact vp_in_nI (by omega) hL), e1]
  simp only [Option.bind_some, Option.toList_some, List.cons_append, List.nil_append]
  rw [b295_728 (by rw [nI_add]; exact vp_in_nI (by omega) hL) (by rw [nI_add]; exact vp_in_nI (by omega) hL) (by rw [nI_add]; exact vp_in_nI (by omega) hL) (by rw [nI_add]; exact vp_in_nI (by omega) hL), e3, e2]
  simp only [Option.bind_some, Option.toList_some, List.cons_append, List.nil_append]
  rw [b295_752, if_pos rfl]
theorem l295_15 (hp : p + 6 ≤ L) (hL : L < 2 ^ 31) (R : Rel h h) : ∃ h', zev L (d + 41) 295 33 [some (.inr (.inl (13, 0, 0))), some (.inr (.inl (11, 0, 0))), some (.inr (.inl (12, 0, 0))), some (.inl (nI p))] [.inl (nI 15)] h = zev L (d + 41) 295 1531 [some (.inr (.inl (13, 0, 0))), some (.inr (.inl (11, 0, 0))), some (.inr (.inl (12, 0, 0))), some (.inl (nI p))] [] h' ∧ Rel h' h' ∧ h' 13 = h 13 := by
  obtain ⟨v, g1, g2, e1, e2, R2, e3, e4⟩ := yCall2 (L := L) (d := d + 40) (m1 := 126) (m2 := 243) (ls1 := [some (.inr (.inl (11, 0, 0))), some (.inl (h 13 0 0 ((nI p) + (nI 1)).toNatClampNeg)), some (.inl (h 13 0 0 ((nI p) + (nI 2)).toNatClampNeg)), some (.inl (h 13 0 0 ((nI p) + (nI 3)).toNatClampNeg))]) (ls2 := [some (.inr (.inl (12, 0, 0))), some (.inl (h 13 0 0 ((nI p) + (nI 1)).toNatClampNeg)), some (.inl (h 13 0 0 ((nI p) + (nI 2)).toNatClampNeg)), some (.inl (h 13 0 0 ((nI p) + (nI 3)).toNatClampNeg))]) (fun hc hm R => o_holds (d := d + 20) R) rfl rfl rfl R
  refine ⟨g2, ?_, R2, e4⟩
  rw [s295_33_15, b295_757 (by rw [nI_add]; exact vp_in_nI (by omega) hL) (by rw [nI_add]; exact vp_in_nI (by omega) hL) (by rw [nI_add]; exact vp_in_nI (by omega) hL), e1]
  simp only [Option.bind_some, Option.toList_some, List.cons_append, List.nil_append]
  rw [b295_776 (by rw [nI_add]; exact vp_in_nI (by omega) hL) (by rw [nI_add]; exact vp_in_nI (by omega) hL) (by rw [nI_add]; exact vp_in_nI (by omega) hL), e3, e2]
  simp only [Option.bind_some, Option.toList_some, List.cons_append, List.nil_append]
  rw [b295_795, if_pos rfl]
theorem l295_16 (hp : p + 6 ≤ L) (hL : L < 2 ^ 31) (R : Rel h h) : ∃ h', zev L (d + 41) 295 33 [some (.inr (.inl (13, 0, 0))), some (.inr (.inl (11, 0, 0))), some (.inr (.inl (12, 0, 0))), some (.inl (nI p))] [.inl (nI 16)] h = zev L (d + 41) 295 1531 [some (.inr (.inl (13, 0, 0))), some (.inr (.inl (11, 0, 0))), some (.inr (.inl (12, 0, 0))), some (.inl (nI p))] [] h' ∧ Rel h' h' ∧ h' 13 = h 13 := by
  obtain ⟨v, g1, g2, e1, e2, R2, e3, e4⟩ := yCall2 (L := L) (d := d + 40) (m1 := 127) (m2 := 244) (ls1 := [some (.inr (.inl (11, 0, 0))), some (.inl (h 13 0 0 ((nI p) + (nI 1)).toNatClampNeg)), some (.inl (h 13 0 0 ((nI p) + (nI 2)).toNatClampNeg)), some (.inl (h 13 0 0 ((nI p) + (nI 3)).toNatClampNeg)), none]) (ls2 := [some (.inr (.inl (12, 0, 0))), some (.inl (h 13 0 0 ((nI p) + (nI 1)).toNatClampNeg)), some (.inl (h 13 0 0 ((nI p) + (nI 2)).toNatClampNeg)), some (.inl (h 13 0 0 ((nI p) + (nI 3)).toNatClampNeg))]) (fun hc hm R => o_asks (d := d + 20) R) rfl rfl rfl R
  refine ⟨g2, ?_, R2, e4⟩
  rw [s295_33_16, b295_800 (by rw [nI_add]; exact vp_in_nI (by omega) hL) (by rw [nI_add]; exact vp_in_nI (by omega) hL) (by rw [nI_add]; exact vp_in_nI (by omega) hL), e1]
  simp only [Option.bind_some, Option.toList_some, List.cons_append, List.nil_append]
  rw [b295_819 (by rw [nI_add]; exact vp_in_nI (by omega) hL) (by rw [nI_add]; exact vp_in_nI (by omega) hL) (by rw [nI_add]; exact vp_in_nI (by omega) hL), e3, e2]
  simp only [Option.bind_some, Option.toList_some, List.cons_append, List.nil_append]
  rw [b295_838, if_pos rfl]
theorem l295_17 (hp : p + 6 ≤ L) (hL : L < 2 ^ 31) (R : Rel h h) : ∃ h', zev L (d + 41) 295 33 [some (.inr (.inl (13, 0, 0))), some (.inr (.inl (11, 0, 0))), some (.inr (.inl (12, 0, 0))), some (.inl (nI p))] [.inl (nI 17)] h = zev L (d + 41) 295 1531 [some (.inr (.inl (13, 0, 0))), some (.inr (.inl (11, 0, 0))), some (.inr (.inl (12, 0, 0))), some (.inl (nI p))] [] h' ∧ Rel h' h' ∧ h' 13 = h 13 := by
  obtain ⟨v, g1, g2, e1, e2, R2, e3, e4⟩ := yCall2 (L := L) (d := d + 40) (m1 := 129) (m2 := 245) (ls1 := [some (.inr (.inl (11, 0, 0))), some (.inl (h 13 0 0 ((nI p) + (nI 1)).toNatClampNeg)), some (.inl (h 13 0 0 ((nI p) + (nI 2)).toNatClampNeg))]) (ls2 := [some (.inr (.inl (12, 0, 0))), some (.inl (h 13 0 0 ((nI p) + (nI 1)).toNatClampNeg)), some (.inl (h 13 0 0 ((nI p) + (nI 2)).toNatClampNeg))]) (fun hc hm R => o_book (d := d + 20) R) rfl rfl rfl R
  refine ⟨g2, ?_, R2, e4⟩
  rw [s295_33_17, b295_843 (by rw [nI_add]; exact vp_in_nI (by omega) hL) (by rw [nI_add]; exact vp_in_nI (by omega) hL), e1]
  simp only [Option.bind_some, Option.toList_some, List.cons_append, List.nil_append]
  rw [b295_857 (by rw [nI_add]; exact vp_in_nI (by omega) hL) (by rw [nI_add]; exact vp_in_nI (by omega) hL), e3, e2]
  simp only [Option.bind_some, Option.toList_some, List.cons_append, List.nil_append]
  rw [b295_871, if_pos rfl]
theorem l295_18 (hp : p + 6 ≤ L) (hL : L < 2 ^ 31) (R : Rel h h) : ∃ h', zev L (d + 41) 295 33 [some (.inr (.inl (13, 0, 0))), some (.inr (.inl (11, 0, 0))), some (.inr (.inl (12, 0, 0))), some (.inl (nI p))] [.inl (nI 18)] h = zev L (d + 41) 295 1531 [some (.inr (.inl (13, 0, 0))), some (.inr (.inl (11, 0, 0))), some (.inr (.inl (12, 0, 0))), some (.inl (nI p))] [] h' ∧ Rel h' h' ∧ h' 13 = h 13 := by
  obtain ⟨v, g1, g2, e1, e2, R2, e3, e4⟩ := yCall2 (L := L) (d := d + 40) (m1 := 130) (m2 := 247) (ls1 := [some (.inr (.inl (11, 0, 0))), some (.inl (h 13 0 0 ((nI p) + (nI 1)).toNatClampNeg)), some (.inl (h 13 0 0 ((nI p) + (nI 2)).toNatClampNeg)), none]) (ls2 := [some (.inr (.inl (12, 0, 0))), some (.inl (h 13 0 0 ((nI p) + (nI 1)).toNatClampNeg)), some (.inl (h 13 0 0 ((nI p) + (nI 2)).toNatClampNeg)), none]) (fun hc hm R => o_goes (d := d + 20) R) rfl rfl rfl R
  refine ⟨g2, ?_, R2, e4⟩
  rw [s295_33_18, b295_876 (by rw [nI_add]; exact vp_in_nI (by omega) hL) (by rw [nI_add]; exact vp_in_nI (by omega) hL), e1]
  simp only [Option.bind_some, Option.toList_some, List.cons_append, List.nil_append]
  rw [b295_890 (by rw [nI_add]; exact vp_in_nI (by omega) hL) (by rw [nI_add]; exact vp_in_nI (by omega) hL), e3, e2]
  simp only [Option.bind_some, Option.toList_some, List.cons_append, List.nil_append]
  rw [b295_904, if_pos rfl]
theorem l295_19 (hp : p + 6 ≤ L) (hL : L < 2 ^ 31) (R : Rel h h) : ∃ h', zev L (d + 41) 295 33 [some (.inr (.inl (13, 0, 0))), some (.inr (.inl (11, 0, 0))), some (.inr (.inl (12, 0, 0))), some (.inl (nI p))] [.inl (nI 19)] h = zev L (d + 41) 295 1531 [some (.inr (.inl (13, 0, 0))), some (.inr (.inl (11, 0, 0))), some (.inr (.inl (12, 0, 0))), some (.inl (nI p))] [] h' ∧ Rel h' h' ∧ h' 13 = h 13 := by
  obtain ⟨v, g1, g2, e1, e2, R2, e3, e4⟩ := yCall2 (L := L) (d := d + 40) (m1 := 131) (m2 := 248) (ls1 := [some (.inr (.inl (11, 0, 0))), some (.inl (h 13 0 0 ((nI p) + (nI 1)).toNatClampNeg)), some (.inl (h 13 0 0 ((nI p) + (nI 2)).toNatClampNeg)), some (.inl (h 13 0 0 ((nI p) + (nI 3)).toNatClampNeg)), some (.inl (h 13 0 0 ((nI p) + (nI 4)).toNatClampNeg))]) (ls2 := [some (.inr (.inl (12, 0, 0))), some (.inl (h 13 0 0 ((nI p) + (nI 1)).toNatClampNeg)), some (.inl (h 13 0 0 ((nI p) + (nI 2)).toNatClampNeg)), some (.inl (h 13 0 0 ((nI p) + (nI 3)).toNatClampNeg)), some (.inl (h 13 0 0 ((nI p) + (nI 4)).toNatClampNeg)), none, none]) (fun hc hm R => o_would (d := d + 20) R) rfl rfl rfl R
  refine ⟨g2, ?_, R2, e4⟩
  rw [s295_33_19, b295_909 (by rw [nI_add]; exact vp_in_nI (by omega) hL) (by rw [nI_add]; exact vp_in_nI (by omega) hL) (by rw [nI_add]; exact vp_in_nI (by omega) hL) (by rw [nI_add]; exact vp_in_nI (by omega) hL), e1]
  simp only [Option.bind_some, Option.toList_some, List.cons_append, List.nil_append]
  rw [b295_933 (by rw [nI_add]; exact vp_in_nI (by omega) hL) (by rw [nI_add]; exact vp_in_nI (by omega) hL) (by rw [nI_add]; exact vp_in_nI (by omega) hL) (by rw [nI_add]; exact vp_in_nI (by omega) hL), e3, e2]
  simp only [Option.bind_some, Option.toList_some, List.cons_append, List.nil_append]
  rw [b295_957, if_pos rfl]
theorem l295_20 (hp : p + 6 ≤ L) (hL : L < 2 ^ 31) (R : Rel h h) : ∃ h', zev L (d + 41) 295 33 [some (.inr (.inl (13, 0, 0))), some (.inr (.inl (11, 0, 0))), some (.inr (.inl (12, 0, 0))), some (.inl (nI p))] [.inl (nI 20)] h = zev L (d + 41) 295 1531 [some (.inr (.inl (13, 0, 0))), some (.inr (.inl (11, 0, 0))), some (.inr (.inl (12, 0, 0))), some (.inl (nI p))] [] h' ∧ Rel h' h' ∧ h' 13 = h 13 := by
  obtain ⟨v, g1, g2, e1, e2, R2, e3, e4⟩ := yCall2 (L := L) (d := d + 40) (m1 := 132) (m2 := 249) (ls1 := [some (.inr (.inl (11, 0, 0))), some (.inl (h 13 0 0 ((nI p) + (nI 1)).toNatClampNeg)), some (.inl (h 13 0 0 ((nI p) + (nI 2)).toNatClampNeg))]) (ls2 := [some (.inr (.inl (12, 0, 0))), some (.inl (h 13 0 0 ((nI p) + (nI 1)).toNatClampNeg)), some (.inl (h 13 0 0 ((nI p) + (nI 2)).toNatClampNeg))]) (fun hc hm R => o_told (d := d + 20) R) rfl rfl rfl R
  refine ⟨g2, ?_, R2, e4⟩
  rw [s295_33_20, b295_962 (by rw [nI_add]; exact vp_in_nI (by omega) hL) (by rw [nI_add]; exact vp_in_nI (by omega) hL), e1]
  simp only [Option.bind_some, Option.toList_some, List.cons_append, List.nil_append]
  rw [b295_976 (by rw [nI_add]; exact vp_in_nI (by omega) hL) (by rw [nI_add]; exact vp_in_nI (by omega) hL), e3, e2]
  simp only [Option.bind_some, Option.toList_some, List.cons_append, List.nil_append]
  rw [b295_990, if_pos rfl]
theorem l295_21 (hp : p + 6 ≤ L) (hL : L < 2 ^ 31) (R : Rel h h) : ∃ h', zev L (d + 41) 295 33 [some (.inr (.inl (13, 0, 0))), some (.inr (.inl (11, 0, 0))), some (.inr (.inl (12, 0, 0))), some (.inl (nI p))] [.inl (nI 21)] h = zev L (d + 41) 295 1531 [some (.inr (.inl (13, 0, 0))), some (.inr (.inl (11, 0, 0))), some (.inr (.inl (12, 0, 0))), some (.inl (nI p))] [] h' ∧ Rel h' h' ∧ h' 13 = h 13 := by
  obtain ⟨v, g1, g2, e1, e2, R2, e3, e4⟩ := yCall2 (L := L) (d := d + 40) (m1 := 133) (m2 := 252) (ls1 := [some (.inr (.inl (11, 0, 0))), some (.inl (h 13 0 0 ((nI p) + (nI 1)).toNatClampNeg)), some (.inl (h 13 0 0 ((nI p) + (nI 2)).toNatClampNeg))]) (ls2 := [some (.inr (.inl (12, 0, 0))), some (.inl (h 13 0 0 ((nI p) + (nI 1)).toNatClampNeg)), some (.inl (h 13 0 0 ((nI p) + (nI 2)).toNatClampNeg)), none]) (fun hc hm R => o_came (d := d + 20) R) rfl rfl rfl R
  refine ⟨g2, ?_, R2, e4⟩
  rw [s295_33_21, b295_995 (by rw [nI_add]; exact vp_in_nI (by omega) hL) (by rw [nI_add]; exact vp_in_nI (by omega) hL), e1]
  simp only [Option.bind_some, Option.toList_some, List.cons_append, List.nil_append]
  rw [b295_1009 (by rw [nI_add]; exact vp_in_nI (by omega) hL) (by rw [nI_add]; exact vp_in_nI (by omega) hL), e3, e2]
  simp only [Option.bind_some, Option.toList_some, List.cons_append, List.nil_append]
  rw [b295_1023, if_pos rfl]
theorem l295_22 (hp : p + 6 ≤ L) (hL : L < 2 ^ 31) (R : Rel h h) : ∃ h', zev L (d + 41) 295 33 [some (.inr (.inl (13, 0, 0))), some (.inr (.inl (11, 0, 0))), some (.inr (.inl (12, 0, 0))), some (.inl (nI p))] [.inl (nI 22)] h = zev L (d + 41) 295 1531 [some (.inr (.inl (13, 0, 0))), some (.inr (.inl (11, 0, 0))), some (.inr (.inl (12, 0, 0))), some (.inl (nI p))] [] h' ∧ Rel h' h' ∧ h' 13 = h 13 := by
  obtain ⟨v, g1, g2, e1, e2, R2, e3, e4⟩ := yCall2 (L := L) (d := d + 40) (m1 := 134) (m2 := 253) (ls1 := [some (.inr (.inl (11, 0, 0))), some (.inl (h 13 0 0 ((nI p) + (nI 1)).toNatClampNeg))]) (ls2 := [some (.inr (.inl (12, 0, 0))), some (.inl (h 13 0 0 ((nI p) + (nI 1)).toNatClampNeg))]) (fun hc hm R => o_number (d := d + 20) R) rfl rfl rfl R
  refine ⟨g2, ?_, R2, e4⟩
  rw [s295_33_22, b295_1028 (by rw [nI_add]; exact vp_in_nI (by omega) hL), e1]
  simp only [Option.bind_some, Option.toList_some, List.cons_append, List.nil_append]
  rw [b295_1037 (by rw [nI_add]; exact vp_in_nI (by omega) hL), e3, e2]
  simp only [Option.bind_some, Option.toList_some, List.cons_append, List.nil_append]
  rw [b295_1046, if_pos rfl]
theorem l295_23 (hp : p + 6 ≤ L) (hL : L < 2 ^ 31) (R : Rel h h) : ∃ h', zev L (d + 41) 295 33 [some (.inr (.inl (13, 0, 0))), some (.inr (.inl (11, 0, 0))), some (.inr (.inl (12, 0, 0))), some (.inl (nI p))] [.inl (nI 23)] h = zev L (d + 41) 295 1531 [some (.inr (.inl (13, 0, 0))), some (.inr (.inl (11, 0, 0))), some (.inr (.inl (12, 0, 0))), some (.inl (nI p))] [] h' ∧ Rel h' h' ∧ h' 13 = h 13 := by
  obtain ⟨v, g1, g2, e1, e2, R2, e3, e4⟩ := yCall2 (L := L) (d := d + 40) (m1 := 135) (m2 := 255) (ls1 := [some (.inr (.inl (11, 0, 0)))]) (ls2 := [some (.inr (.inl (12, 0, 0))), none, none, none, none, none, none]) (fun hc hm R => o_could (d := d + 20) R) rfl rfl rfl R
  refine ⟨g2, ?_, R2, e4⟩
  rw [s295_33_23, b295_1051, e1]
  simp only [Option.bind_some, Option.toList_some, List.cons_append, List.nil_append]
  rw [b295_1055, e2]
  simp only [Option.bind_some, Option.toList_some, List.cons_append, List.nil_append]
  rw [b295_1059, if_pos rfl]
theorem l295_24 (hp : p + 6 ≤ L) (hL : L < 2 ^ 31) (R : Rel h h) : ∃ h', zev L (d + 41) 295 33 [some (.inr (.inl (13, 0, 0))), some (.inr (.inl (11, 0, 0))), some (.inr (.inl (12, 0, 0))), some (.inl (nI p))] [.inl (nI 24)] h = zev L (d + 41) 295 1531 [some (.inr (.inl (13, 0, 0))), some (.inr (.inl (11, 0, 0))), some (.inr (.inl (12, 0, 0))), some (.inl (nI p))] [] h' ∧ Rel h' h' ∧ h' 13 = h 13 := by
  obtain ⟨v, g1, g2, e1, e2, R2, e3, e4⟩ := yCall2 (L := L) (d := d + 40) (m1 := 136) (m2 := 257) (ls1 := [some (.inr (.inl (11, 0, 0))), some (.inl (h 13 0 0 ((nI p) + (nI 1)).toNatClampNeg))]) (ls2 := [some (.inr (.inl (12, 0, 0))), some (.inl (h 13 0 0 ((nI p) + (nI 1)).toNatClampNeg)), none, none]) (fun hc hm R => o_ring (d := d + 20) R) rfl rfl rfl R
  refine ⟨g2, ?_, R2, e4⟩
  rw [s295_33_24, b295_1064 (by rw [nI_add]; exact vp_in_nI (by omega) hL), e1]
  simp only [Option.bind_some, Option.toList_some, List.cons_append, List.nil_append]
  rw [b295_1073 (by rw [nI_add]; exact vp_in_nI (by omega) hL), e3, e2]
  simp only [Option.bind_some, Option.toList_some, List.cons_append, List.nil_append]
  rw [b295_1082, if_pos rfl]
theorem l295_25 (hp : p + 6 ≤ L) (hL : L < 2 ^ 31) (R : Rel h h) : ∃ h', zev L (d + 41) 295 33 [some (.inr (.inl (13, 0, 0))), some (.inr (.inl (11, 0, 0))), some (.inr (.inl (12, 0, 0))), some (.inl (nI p))] [.inl (nI 25)] h = zev L (d + 41) 295 1531 [some (.inr (.inl (13, 0, 0))), some (.inr (.inl (11, 0, 0))), some (.inr (.inl (12, 0, 0))), some (.inl (nI p))] [] h' ∧ Rel h' h' ∧ h' 13 = h 13 := by
  obtain ⟨v, g1, g2, e1, e2, R2, e3, e4⟩ := yCall2 (L := L) (d := d + 40) (m1 := 137) (m2 := 260) (ls1 := [some (.inr (.inl (11, 0, 0))), some (.inl (h 13 0 0 ((nI p) + (nI 1)).toNatClampNeg)), none]) (ls2 := [some (.inr (.inl (12, 0, 0))), some (.inl (h 13 0 0 ((nI p) + (nI 1)).toNatClampNeg))]) (fun hc hm R => o_pairs (d := d + 20) R) rfl rfl rfl R
  refine ⟨g2, ?_, R2, e4⟩
  rw [s295_33_25, b295_1087 (by rw [nI_add]; exact vp_in_nI (by omega) hL), e1]
  simp only [Option.bind_some, Option.toList_some, List.cons_append, List.nil_append]
  rw [b295_1096 (by rw [nI_add]; exact vp_in_nI (by omega) hL), e3, e2]
  simp only [Option.bind_some, Option.toList_some, List.cons_append, List.nil_append]
  rw [b295_1105, if_pos rfl]
theorem l295_26 (hp : p + 6 ≤ L) (hL : L < 2 ^ 31) (R : Rel h h) : ∃ h', zev L (d + 41) 295 33 [some (.inr (.inl (13, 0, 0))), some (.inr (.inl (11, 0, 0))), some (.inr (.inl (12, 0, 0))), some (.inl (nI p))] [.inl (nI 26)] h = zev L (d + 41) 295 1531 [some (.inr (.inl (13, 0, 0))), some (.inr (.inl (11, 0, 0))), some (.inr (.inl (12, 0, 0))), some (.inl (nI p))] [] h' ∧ Rel h' h' ∧ h' 13 = h 13 := by
  obtain ⟨v, g1, g2, e1, e2, R2, e3, e4⟩ := yCall2 (L := L) (d := d + 40) (m1 := 138) (m2 := 262) (ls1 := [some (.inr (.inl (11, 0, 0))), some (.inl (h 13 0 0 ((nI p) + (nI 1)).toNatClampNeg))]) (ls2 := [some (.inr (.inl (12, 0, 0))), some (.inl (h 13 0 0 ((nI p) + (nI 1)).toNatClampNeg)), none, none, none, none]) (fun hc hm R => o_walk (d := d + 20) R) rfl rfl rfl R
  refine ⟨g2, ?_, R2, e4⟩
  rw [s295_33_26, b295_1110 (by rw [nI_add]; exact vp_in_nI (by omega) hL), e1]
  simp only [Option.bind_some, Option.toList_some, List.cons_append, List.nil_append]
  rw [b295_1119 (by rw [nI_add]; exact vp_in_nI (by omega) hL), e3, e2]
  simp only [Option.bind_some, Option.toList_some, List.cons_append, List.nil_append]
  rw [b295_1128, if_pos rfl]
theorem l295_27 (hp : p + 6 ≤ L) (hL : L < 2 ^ 31) (R : Rel h h) : ∃ h', zev L (d + 41) 295 33 [some (.inr (.inl (13, 0, 0))), some (.inr (.inl (11, 0, 0))), some (.inr (.inl (12, 0, 0))), some (.inl (nI p))] [.inl (nI 27)] h = zev L (d + 41) 295 1531 [some (.inr (.inl (13, 0, 0))), some (.inr (.inl (11, 0, 0))), some (.inr (.inl (12, 0, 0))), some (.inl (nI p))] [] h' ∧ Rel h' h' ∧ h' 13 = h 13 := by
  obtain ⟨v, g1, g2, e1, e2, R2, e3, e4⟩ := yCall2 (L := L) (d := d + 40) (m1 := 139) (m2 := 263) (ls1 := [some (.inr (.inl (11, 0, 0))), some (.inl (h 13 0 0 ((nI p) + (nI 1)).toNatClampNeg)), some (.inl (h 13 0 0 ((nI p) + (nI 2)).toNatClampNeg)), some (.inl (h 13 0 0 ((nI p) + (nI 3)).toNatClampNeg))]) (ls2 := [some (.inr (.inl (12, 0, 0))), some (.inl (h 13 0 0 ((nI p) + (nI 1)).toNatClampNeg)), some (.inl (h 13 0 0 ((nI p) + (nI 2)).toNatClampNeg)), some (.inl (h 13 0 0 ((nI p) + (nI 3)).toNatClampNeg)), none, none, none]) (fun hc hm R => o_prices (d := d + 20) R) rfl rfl rfl R
  refine ⟨g2, ?_, R2, e4⟩
  rw [s295_33_27, b295_1133 (by rw [nI_add]; exact vp_in_nI (by omega) hL) (by rw [nI_add]; exact vp_in_nI (by omega) hL) (by rw [nI_add]; exact vp_in_nI (by omega) hL), e1]
  simp only [Option.bind_some, Option.toList_some, List.cons_append, List.nil_append]
  rw [b295_1152 (by rw [nI_add]; exact vp_in_nI (by omega) hL) (by rw [nI_add]; exact vp_in_nI (by omega) hL) (by rw [nI_add]; exact vp_in_nI (by omega) hL), e3, e2]
  simp only [Option.bind_some, Option.toList_some, List.cons_append, List.nil_append]
  rw [b295_1171, if_pos rfl]
theorem l295_28 (hp : p + 6 ≤ L) (hL : L < 2 ^ 31) (R : Rel h h) : ∃ h', zev L (d + 41) 295 33 [some (.inr (.inl (13, 0, 0))), some (.inr (.inl (11, 0, 0))), some (.inr (.inl (12, 0, 0))), some (.inl (nI p))] [.inl (nI 28)] h = zev L (d + 41) 295 1531 [some (.inr (.inl (13, 0, 0))), some (.inr (.inl (11, 0, 0))), some (.inr (.inl (12, 0, 0))), some (.inl (nI p))] [] h' ∧ Rel h' h' ∧ h' 13 = h 13 := by
  obtain ⟨v, g1, g2, e1, e2, R2, e3, e4⟩ := yCall2 (L := L) (d := d + 40) (m1 := 140) (m2 := 264) (ls1 := [some (.inr (.inl (11, 0, 0))), some (.inl (h 13 0 0 ((nI p) + (nI 1)).toNatClampNeg))]) (ls2 := [some (.inr (.inl (12, 0, 0))), some (.inl (h 13 0 0 ((nI p) + (nI 1)).toNatClampNeg))]) (fun hc hm R => o_weight (d := d + 20) R) rfl rfl rfl R
  refine ⟨g2, ?_, R2, e4⟩
  rw [s295_33_28, b295_1176 (by rw [nI_add]; exact vp_in_nI (by omega) hL), e1]
  simp only [Option.bind_some, Option.toList_some, List.cons_append, List.nil_append]
  rw [b295_1185 (by rw [nI_add]; exact vp_in_nI (by omega) hL), e3, e2]
  simp only [Option.bind_some, Option.toList_some, List.cons_append, List.nil_append]
  rw [b295_1194, if_pos rfl]
theorem l295_29 (hp : p + 6 ≤ L) (hL : L < 2 ^ 31) (R : Rel h h) : ∃ h', zev L (d + 41) 295 33 [some (.inr (.inl (13, 0, 0))), some (.inr (.inl (11, 0, 0))), some (.inr (.inl (12, 0, 0))), some (.inl (nI p))] [.inl (nI 29)] h = zev L (d + 41) 295 1531 [some (.inr (.inl (13, 0, 0))), some (.inr (.inl (11, 0, 0))), some (.inr (.inl (12, 0, 0))), some (.inl (nI p))] [] h' ∧ Rel h' h' ∧ h' 13 = h 13 := by
  obtain ⟨v, g1, g2, e1, e2, R2, e3, e4⟩ := yCall2 (L := L) (d := d + 40) (m1 := 141) (m2 := 266) (ls1 := [some (.inr (.inl (11, 0, 0))), some (.inl (h 13 0 0 ((nI p) + (nI 1)).toNatClampNeg)), some (.inl (h 13 0 0 ((nI p) + (nI 2)).toNatClampNeg))]) (ls2 := [some (.inr (.inl (12, 0, 0))), some (.inl (h 13 0 0 ((nI p) + (nI 1)).toNatClampNeg)), some (.inl (h 13 0 0 ((nI p) + (nI 2)).toNatClampNeg)), none]) (fun hc hm R => o_balance (d := d + 20) R) rfl rfl rfl R
  refine ⟨g2, ?_, R2, e4⟩
  rw [s295_33_29, b295_1199 (by rw [nI_add]; exact vp_in_nI (by omega) hL) (by rw [nI_add]; exact vp_in_nI (by omega) hL), e1]
  simp only [Option.bind_some, Option.toList_some, List.cons_append, List.nil_append]
  rw [b295_1213 (by rw [nI_add]; exact vp_in_nI (by omega) hL) (by rw [nI_add]; exact vp_in_nI (by omega) hL), e3, e2]
  simp only [Option.bind_some, Option.toList_some, List.cons_append, List.nil_append]
  rw [b295_1227, if_pos rfl]
theorem l295_30 (hp : p + 6 ≤ L) (hL : L < 2 ^ 31) (R : Rel h h) : ∃ h', zev L (d + 41) 295 33 [some (.inr (.inl (13, 0, 0))), some (.inr (.inl (11, 0, 0))), some (.inr (.inl (12, 0, 0))), some (.inl (nI p))] [.inl (nI 30)] h = zev L (d + 41) 295 1531 [some (.inr (.inl (13, 0, 0))), some (.inr (.inl (11, 0, 0))), some (.inr (.inl (12, 0, 0))), some (.inl (nI p))] [] h' ∧ Rel h' h' ∧ h' 13 = h 13 := by
  obtain ⟨v, g1, g2, e1, e2, R2, e3, e4⟩ := yCall2 (L := L) (d := d + 40) (m1 := 142) (m2 := 268) (ls1 := [some (.inr (.inl (11, 0, 0))), some (.inl (h 13 0 0 ((nI p) + (nI 1)).toNatClampNeg)), some (.inl (h 13 0 0 ((nI p) + (nI 2)).toNatClampNeg))]) (ls2 := [some (.inr (.inl (12, 0, 0))), some (.inl (h 13 0 0 ((nI p) + (nI 1)).toNatClampNeg)), some (.inl (h 13 0 0 ((nI p) + (nI 2)).toNatClampNeg)), none, none]) (fun hc hm R => o_cold (d := d + 20) R) rfl rfl rfl R
  refine ⟨g2, ?_, R2, e4⟩
  rw [s295_33_30, b295_1232 (by rw [nI_add]; exact vp_in_nI (by omega) hL) (by rw [nI_add]; exact vp_in_nI (by omega) hL), e1]
  simp only [Option.bind_some, Option.toList_some, List.cons_append, List.nil_append]
  rw [b295_1246 (by rw [nI_add]; exact vp_in_nI (by omega) hL) (by rw [nI_add]; exact vp_in_nI (by omega) hL), e3, e2]
  simp only [Option.bind_some, Option.toList_some, List.cons_append, List.nil_append]
  rw [b295_1260, if_pos rfl]
theorem l295_31 (hp : p + 6 ≤ L) (hL : L < 2 ^ 31) (R : Rel h h) : ∃ h', zev L (d + 41) 295 33 [some (.inr (.inl (13, 0, 0))), some (.inr (.inl (11, 0, 0))), some (.inr (.inl (12, 0, 0))), some (.inl (nI p))] [.inl (nI 31)] h = zev L (d + 41) 295 1531 [some (.inr (.inl (13, 0, 0))), some (.inr (.inl (11, 0, 0))), some (.inr (.inl (12, 0, 0))), some (.inl (nI p))] [] h' ∧ Rel h' h' ∧ h' 13 = h 13 := by
  obtain ⟨v, g1, g2, e1, e2, R2, e3, e4⟩ := yCall2 (L := L) (d := d + 40) (m1 := 143) (m2 := 270) (ls1 := [some (.inr (.inl (11, 0, 0))), some (.inl (h 13 0 0 ((nI p) + (nI 1)).toNatClampNeg)), some (.inl (h 13 0 0 ((nI p) + (nI 2)).toNatClampNeg)), none]) (ls2 := [some (.inr (.inl (12, 0, 0))), some (.inl (h 13 0 0 ((nI p) + (nI 1)).toNatClampNeg)), some (.inl (h 13 0 0 ((nI p) + (nI 2)).toNatClampNeg)), none, none]) (fun hc hm R => o_alike (d := d + 20) R) rfl rfl rfl R
  refine ⟨g2, ?_, R2, e4⟩
  rw [s295_33_31, b295_1265 (by rw [nI_add]; exact vp_in_nI (by omega) hL) (by rw [nI_add]; exact vp_in_nI (by omega) hL), e1]
  simp only [Option.bind_some, Option.toList_some, List.cons_append, List.nil_append]
  rw [b295_1279 (by rw [nI_add]; exact vp_in_nI (by omega) hL) (by rw [nI_add]; exact vp_in_nI (by omega) hL), e3, e2]
  simp only [Option.bind_some, Option.toList_some, List.cons_append, List.nil_append]
  rw [b295_1293, if_pos rfl]
theorem l295_32 (hp : p + 6 ≤ L) (hL : L < 2 ^ 31) (R : Rel h h) : ∃ h', zev L (d + 41) 295 33 [some (.inr (.inl (13, 0, 0))), some (.inr (.inl (11, 0, 0))), some (.inr (.inl (12, 0, 0))), some (.inl (nI p))] [.inl (nI 32)] h = zev L (d + 41) 295 1531 [some (.inr (.inl (13, 0, 0))), some (.inr (.inl (11, 0, 0))), some (.inr (.inl (12, 0, 0))), some (.inl (nI p))] [] h' ∧ Rel h' h' ∧ h' 13 = h 13 := by
  obtain ⟨v, g1, g2, e1, e2, R2, e3, e4⟩ := yCall2 (L := L) (d := d + 40) (m1 := 144) (m2 := 271) (ls1 := [some (.inr (.inl (11, 0, 0))), some (.inl (h 13 0 0 ((nI p) + (nI 1)).toNatClampNeg))]) (ls2 := [some (.inr (.inl (12, 0, 0))), some (.inl (h 13 0 0 ((nI p) + (nI 1)).toNatClampNeg))]) (fun hc hm R => o_herd (d := d + 20) R) rfl rfl rfl R
  refine ⟨g2, ?_, R2, e4⟩
  rw [s295_33_32, b295_1298 (by rw [nI_add]; exact vp_in_nI (by omega) hL), e1]
  simp only [Option.bind_some, Option.toList_some, List.cons_append, List.nil_append]
  rw [b295_1307 (by rw [nI_add]; exact vp_in_nI (by omega) hL), e3, e2]
  simp only [Option.bind_some, Option.toList_some, List.cons_append, List.nil_append]
  rw [b295_1316, if_pos rfl]
theorem l295_33 (hp : p + 6 ≤ L) (hL : L < 2 ^ 31) (R : Rel h h) : ∃ h', zev L (d + 41) 295 33 [some (.inr (.inl (13, 0, 0))), some (.inr (.inl (11, 0, 0))), some (.inr (.inl (12, 0, 0))), some (.inl (nI p))] [.inl (nI 33)] h = zev L (d + 41) 295 1531 [some (.inr (.inl (13, 0, 0))), some (.inr (.inl (11, 0, 0))), some (.inr (.inl (12, 0, 0))), some (.inl (nI p))] [] h' ∧ Rel h' h' ∧ h' 13 = h 13 := by
  obtain ⟨v, g1, g2, e1, e2, R2, e3, e4⟩ := yCall2 (L := L) (d := d + 40) (m1 := 145) (m2 := 273) (ls1 := [some (.inr (.inl (11, 0, 0))), some (.inl (h 13 0 0 ((nI p) + (nI 1)).toNatClampNeg)), some (.inl (h 13 0 0 ((nI p) + (nI 2)).toNatClampNeg))]) (ls2 := [some (.inr (.inl (12, 0, 0))), some (.inl (h 13 0 0 ((nI p) + (nI 1)).toNatClampNeg)), some (.inl (h 13 0 0 ((nI p) + (nI 2)).toNatClampNeg)), none, none, none]) (fun hc hm R => o_pens (d := d + 20) R) rfl rfl rfl R
  refine ⟨g2, ?_, R2, e4⟩
  rw [s295_33_33, b295_1321 (by rw [nI_add]; exact vp_in_nI (by omega) hL) (by rw [nI_add]; exact vp_in_nI (by omega) hL), e1]
  simp only [Option.bind_some, Option.toList_some, List.cons_append, List.nil_append]
  rw [b295_1335 (by rw [nI_add]; exact vp_in_nI (by omega) hL) (by rw [nI_add]; exact vp_in_nI (by omega) hL), e3, e2]
  simp only [Option.bind_some, Option.toList_some, List.cons_append, List.nil_append]
  rw [b295_1349, if_pos rfl]
theorem l295_34 (hp : p + 6 ≤ L) (hL : L < 2 ^ 31) (R : Rel h h) : ∃ h', zev L (d + 41) 295 33 [some (.inr (.inl (13, 0, 0))), some (.inr (.inl (11, 0, 0))), some (.inr (.inl (12, 0, 0))), some (.inl (nI p))] [.inl (nI 34)] h = zev L (d + 41) 295 1531 [some (.inr (.inl (13, 0, 0))), some (.inr (.inl (11, 0, 0))), some (.inr (.inl (12, 0, 0))), some (.inl (nI p))] [] h' ∧ Rel h' h' ∧ h' 13 = h 13 := by
  obtain ⟨v, g1, g2, e1, e2, R2, e3, e4⟩ := yCall2 (L := L) (d := d + 40) (m1 := 146) (m2 := 275) (ls1 := [some (.inr (.inl (11, 0, 0))), some (.inl (h 13 0 0 ((nI p) + (nI 1)).toNatClampNeg)), some (.inl (h 13 0 0 ((nI p) + (nI 2)).toNatClampNeg))]) (ls2 := [some (.inr (.inl (12, 0, 0))), some (.inl (h 13 0 0 ((nI p) + (nI 1)).toNatClampNeg)), some (.inl (h 13 0 0 ((nI p) + (nI 2)).toNatClampNeg)), none, none, none]) (fun hc hm R => o_left (d := d + 20) R) rfl rfl rfl R
  refine ⟨g2, ?_, R2, e4⟩
  rw [s295_33_34, b295_1354 (by rw [nI_add]; exact vp_in_nI (by omega) hL) (by rw [nI_add]; exact vp_in_nI (by omega) hL), e1]
  simp only [Option.bind_some, Option.toList_some, List.cons_append, List.nil_append]
  rw [b295_1368 (by rw [nI_add]; exact vp_in_nI (by omega) hL) (by rw [nI_add]; exact vp_in_nI (by omega) hL), e3, e2]
  simp only [Option.bind_some, Option.toList_some, List.cons_append, List.nil_append]
  rw [b295_1382, if_pos rfl]
theorem l295_35 (hp : p + 6 ≤ L) (hL : L < 2 ^ 31) (R : Rel h h) : ∃ h', zev L (d + 41) 295 33 [some (.inr (.inl (13, 0, 0))), some (.inr (.inl (11, 0, 0))), some (.inr (.inl (12, 0, 0))), some (.inl (nI p))] [.inl (nI 35)] h = zev L (d + 41) 295 1531 [some (.inr (.inl (13, 0, 0))), some (.inr (.inl (11, 0, 0))), some (.inr (.inl (12, 0, 0))), some (.inl (nI p))] [] h' ∧ Rel h' h' ∧ h' 13 = h 13 := by
  obtain ⟨v, g1, g2, e1, e2, R2, e3, e4⟩ := yCall2 (L := L) (d := d + 40) (m1 := 147) (m2 := 276) (ls1 := [some (.inr (.inl (11, 0, 0))), some (.inl (h 13 0 0 ((nI p) + (nI 1)).toNatClampNeg))]) (ls2 := [some (.inr (.inl (12, 0, 0))), some (.inl (h 13 0 0 ((nI p) + (nI 1)).toNatClampNeg)), none, none, none, none, none]) (fun hc hm R => o_signs (d := d + 20) R) rfl rfl rfl R
  refine ⟨g2, ?_, R2, e4⟩
  rw [s295_33_35, b295_1387 (by rw [nI_add]; exact vp_in_nI (by omega) hL), e1]
  simp only [Option.bind_some, Option.toList_some, List.cons_append, List.nil_append]
  rw [b295_1396 (by rw [nI_add]; exact vp_in_nI (by omega) hL), e3, e2]
  simp only [Option.bind_some, Option.toList_some, List.cons_append, List.nil_append]
  rw [b295_1405, if_pos rfl]
theorem l295_36 (hp : p + 6 ≤ L) (hL : L < 2 ^ 31) (R : Rel h h) : ∃ h', zev L (d + 41) 295 33 [some (.inr (.inl (13, 0, 0))), some (.inr (.inl (11, 0, 0))), some (.inr (.inl (12, 0, 0))), some (.inl (nI p))] [.inl (nI 36)] h = zev L (d + 41) 295 1531 [some (.inr (.inl (13, 0, 0))), some (.inr (.inl (11, 0, 0))), some (.inr (.inl (12, 0, 0))), some (.inl (nI p))] [] h' ∧ Rel h' h' ∧ h' 13 = h 13 := by
  obtain ⟨v, g1, g2, e1, e2, R2, e3, e4⟩ := yCall2 (L := L) (d := d + 40) (m1 := 148) (m2 := 277) (ls1 := [some (.inr (.inl (11, 0, 0))), some (.inl (h 13 0 0 ((nI p) + (nI 1)).toNatClampNeg))]) (ls2 := [some (.inr (.inl (12, 0, 0))), some (.inl (h 13 0 0 ((nI p) + (nI 1)).toNatClampNeg))]) (fun hc hm R => o_row (d := d + 20) R) rfl rfl rfl R
  refine ⟨g2, ?_, R2, e4⟩
  rw [s295_33_36, b295_1410 (by rw [nI_add]; exact vp_in_nI (by omega) hL), e1]
  simp only [Option.bind_some, Option.toList_some, List.cons_append, List.nil_append]
  rw [b295_1419 (by rw [nI_add]; exact vp_in_nI (by omega) hL), e3, e2]
  simp only [Option.bind_some, Option.toList_some, List.cons_append, List.nil_append]
  rw [b295_1428, if_pos rfl]
theorem l295_37 (hp : p + 6 ≤ L) (hL : L < 2 ^ 31) (R : Rel h h) : ∃ h', zev L (d + 41) 295 33 [some (.inr (.inl (13, 0, 0))), some (.inr (.inl (11, 0, 0))), some (.inr (.inl (12, 0, 0))), some (.inl (nI p))] [.inl (nI 37)] h = zev L (d + 41) 295 1531 [some (.inr (.inl (13, 0, 0))), some (.inr (.inl (11, 0, 0))), some (.inr (.inl (12, 0, 0))), some (.inl (nI p))] [] h' ∧ Rel h' h' ∧ h' 13 = h 13 := by
  obtain ⟨v, g1, g2, e1, e2, R2, e3, e4⟩ := yCall2 (L := L) (d := d + 40) (m1 := 149) (m2 := 279) (ls1 := [some (.inr (.inl (11, 0, 0))), some (.inl (h 13 0 0 ((nI p) + (nI 1)).toNatClampNeg))]) (ls2 := [some (.inr (.inl (12, 0, 0))), some (.inl (h 13 0 0 ((nI p) + (nI 1)).toNatClampNeg)), none, none, none, none, none, none]) (fun hc hm R => o_game (d := d + 20) R) rfl rfl rfl R
  refine ⟨g2, ?_, R2, e4⟩
  rw [s295_33_37, b295_1433 (by rw [nI_add]; exact vp_in_nI (by omega) hL), e1]
  simp only [Option.bind_some, Option.toList_some, List.cons_append, List.nil_append]
  rw [b295_1442 (by rw [nI_add]; exact vp_in_nI (by omega) hL), e3, e2]
  simp only [Option.bind_some, Option.toList_some, List.cons_append, List.nil_append]
  rw [b295_1451, if_pos rfl]
theorem l295_38 (hp : p + 6 ≤ L) (hL : L < 2 ^ 31) (R : Rel h h) : ∃ h', zev L (d + 41) 295 33 [some (.inr (.inl (13, 0, 0))), some (.inr (.inl (11, 0, 0))), some (.inr (.inl (12, 0, 0))), some (.inl (nI p))] [.inl (nI 38)] h = zev L (d + 41) 295 1531 [some (.inr (.inl (13, 0, 0))), some (.inr (.inl (11, 0, 0))), some (.inr (.inl (12, 0, 0))), some (.inl (nI p))] [] h' ∧ Rel h' h' ∧ h' 13 = h 13 := by
  obtain ⟨v, g1, g2, e1, e2, R2, e3, e4⟩ := yCall2 (L := L) (d := d + 40) (m1 := 150) (m2 := 164) (ls1 := [some (.inr (.inl (11, 0, 0)))]) (ls2 := [some (.inr (.inl (12, 0, 0))), none]) (fun hc hm R => o_undo (d := d + 20) R) rfl rfl rfl R
  refine ⟨g2, ?_, R2, e4⟩
  rw [s295_33_38, b295_1456, e1]
  simp only [Option.bind_some, Option.toList_some, List.cons_append, List.nil_append]
  rw [b295_1460, e2]
  simp only [Option.bind_some, Option.toList_some, List.cons_append, List.nil_append]
  rw [b295_1464, if_pos rfl]
theorem l295_40 (hp : p + 6 ≤ L) (hL : L < 2 ^ 31) (R : Rel h h) : ∃ h', zev L (d + 41) 295 33 [some (.inr (.inl (13, 0, 0))), some (.inr (.inl (11, 0, 0))), some (.inr (.inl (12, 0, 0))), some (.inl (nI p))] [.inl (nI 40)] h = zev L (d + 41) 295 1531 [some (.inr (.inl (13, 0, 0))), some (.inr (.inl (11, 0, 0))), some (.inr (.inl (12, 0, 0))), some (.inl (nI p))] [] h' ∧ Rel h' h' ∧ h' 13 = h 13 := by
  obtain ⟨v, g1, g2, e1, e2, R2, e3, e4⟩ := yCall2 (L := L) (d := d + 40) (m1 := 152) (m2 := 285) (ls1 := [some (.inr (.inl (11, 0, 0))), some (.inl (h 13 0 0 ((nI p) + (nI 1)).toNatClampNeg)), none]) (ls2 := [some (.inr (.inl (12, 0, 0))), some (.inl (h 13 0 0 ((nI p) + (nI 1)).toNatClampNeg))]) (fun hc hm R => o_look (d := d + 20) R) rfl rfl rfl R
  refine ⟨g2, ?_, R2, e4⟩
  rw [s295_33_40, b295_1508 (by rw [nI_add]; exact vp_in_nI (by omega) hL), e1]
  simp only [Option.bind_some, Option.toList_some, List.cons_append, List.nil_append]
  rw [b295_1517 (by rw [nI_add]; exact vp_in_nI (by omega) hL), e3, e2]
  simp only [Option.bind_some, Option.toList_some, List.cons_append, List.nil_append]
  rw [b295_1526, if_pos rfl]
theorem l295_39 (hp : p + 6 ≤ L) (hL : L < 2 ^ 31) (R : Rel h h) : ∃ h', zev L (d + 41) 295 33 [some (.inr (.inl (13, 0, 0))), some (.inr (.inl (11, 0, 0))), some (.inr (.inl (12, 0, 0))), some (.inl (nI p))] [.inl (nI 39)] h = zev L (d + 41) 295 1531 [some (.inr (.inl (13, 0, 0))), some (.inr (.inl (11, 0, 0))), some (.inr (.inl (12, 0, 0))), some (.inl (nI p))] [] h' ∧ Rel h' h' ∧ h' 13 = h 13 := by
  have main : ∀ m, (m = 0 ∨ m = 1) → (h 13 0 0 (nI p + nI 1).toNatClampNeg = nI 0 ↔ m = 0) → ∃ h', zev L (d + 41) 295 33 [some (.inr (.inl (13, 0, 0))), some (.inr (.inl (11, 0, 0))), some (.inr (.inl (12, 0, 0))), some (.inl (nI p))] [.inl (nI 39)] h = zev L (d + 41) 295 1531 [some (.inr (.inl (13, 0, 0))), some (.inr (.inl (11, 0, 0))), some (.inr (.inl (12, 0, 0))), some (.inl (nI p))] [] h' ∧ Rel h' h' ∧ h' 13 = h 13 := fun m hm hi => by
    obtain ⟨v, g1, g2, e1, e2, R2, e3, e4⟩ := yCall2 (L := L) (d := d + 40) (m1 := 151) (m2 := 284) (ls1 := [some (.inr (.inl (11, 0, 0))), some (.inl (nI m))]) (ls2 := [some (.inr (.inl (12, 0, 0))), some (.inl (nI m)), none]) (fun hc hm' R => o_image (d := d + 20) hm R) rfl rfl rfl R
    refine ⟨g2, ?_, R2, e4⟩
    rw [s295_33_39, b295_1469 (by rw [nI_add]; exact vp_in_nI (by omega) hL)]
    rcases hm with rfl | rfl
    · rw [if_pos (hi.2 rfl), b295_1482, b295_1483, e1]
      simp only [Option.bind_some, Option.toList_some, List.cons_append, List.nil_append]
      rw [b295_1486 (by rw [nI_add]; exact vp_in_nI (by omega) hL), e3, if_pos (hi.2 rfl), b295_1499, b295_1500, e2]
      simp only [Option.bind_some, Option.toList_some, List.cons_append, List.nil_append]
      rw [b295_1503, if_pos rfl]
    · rw [if_neg (fun q => absurd (hi.1 q) (by omega)), b295_1478, b295_1483, e1]
      simp only [Option.bind_some, Option.toList_some, List.cons_append, List.nil_append]
      rw [b295_1486 (by rw [nI_add]; exact vp_in_nI (by omega) hL), e3, if_neg (fun q => absurd (hi.1 q) (by omega)), b295_1495, b295_1500, e2]
      simp only [Option.bind_some, Option.toList_some, List.cons_append, List.nil_append]
      rw [b295_1503, if_pos rfl]
  by_cases c : h 13 0 0 (nI p + nI 1).toNatClampNeg = nI 0
  · exact main 0 (Or.inl rfl) ⟨fun _ => rfl, fun _ => c⟩
  · exact main 1 (Or.inr rfl) ⟨fun q => absurd q c, fun q => absurd q (by omega)⟩
theorem l295_all {k : Nat} (hk : k ≤ 40) (hp : p + 6 ≤ L) (hL : L < 2 ^ 31) (R : Rel h h) : ∃ h', zev L (d + 41) 295 33 [some (.inr (.inl (13, 0, 0))), some (.inr (.inl (11, 0, 0))), some (.inr (.inl (12, 0, 0))), some (.inl (nI p))] [.inl (nI k)] h = zev L (d + 41) 295 1531 [some (.inr (.inl (13, 0, 0))), some (.inr (.inl (11, 0, 0))), some (.inr (.inl (12, 0, 0))), some (.inl (nI p))] [] h' ∧ Rel h' h' ∧ h' 13 = h 13 := by
  have : k = 0 ∨ k = 1 ∨ k = 2 ∨ k = 3 ∨ k = 4 ∨ k = 5 ∨ k = 6 ∨ k = 7 ∨ k = 8 ∨ k = 9 ∨ k = 10 ∨ k = 11 ∨ k = 12 ∨ k = 13 ∨ k = 14 ∨ k = 15 ∨ k = 16 ∨ k = 17 ∨ k = 18 ∨ k = 19 ∨ k = 20 ∨ k = 21 ∨ k = 22 ∨ k = 23 ∨ k = 24 ∨ k = 25 ∨ k = 26 ∨ k = 27 ∨ k = 28 ∨ k = 29 ∨ k = 30 ∨ k = 31 ∨ k = 32 ∨ k = 33 ∨ k = 34 ∨ k = 35 ∨ k = 36 ∨ k = 37 ∨ k = 38 ∨ k = 39 ∨ k = 40 := by omega
  rcases this with rfl | rfl | rfl | rfl | rfl | rfl | rfl | rfl | rfl | rfl | rfl | rfl | rfl | rfl | rfl | rfl | rfl | rfl | rfl | rfl | rfl | rfl | rfl | rfl | rfl | rfl | rfl | rfl | rfl | rfl | rfl | rfl | rfl | rfl | rfl | rfl | rfl | rfl | rfl | rfl | rfl
  · exact l295_0 hp hL R
  · exact l295_1 hp hL R
  · exact l295_2 hp hL R
  · exact l295_3 hp hL R
  · exact l295_4 hp hL R
  · exact l295_5 hp hL R
  · exact l295_6 hp hL R
  · exact l295_7 hp hL R
  · exact l295_8 hp hL R
  · exact l295_9 hp hL R
  · exact l295_10 hp hL R
  · exact l295_11 hp hL R
  · exact l295_12 hp hL R
  · exact l295_13 hp hL R
  · exact l295_14 hp hL R
  · exact l295_15 hp hL R
  · exact l295_16 hp hL R
  · exact l295_17 hp hL R
  · exact l295_18 hp hL R
  · exact l295_19 hp hL R
  · exact l295_20 hp hL R
  · exact l295_21 hp hL R
  · exact l295_22 hp hL R
  · exact l295_23 hp hL R
  · exact l295_24 hp hL R
  · exact l295_25 hp hL R
  · exact l295_26 hp hL R
  · exact l295_27 hp hL R
  · exact l295_28 hp hL R
  · exact l295_29 hp hL R
  · exact l295_30 hp hL R
  · exact l295_31 hp hL R
  · exact l295_32 hp hL R
  · exact l295_33 hp hL R
  · exact l295_34 hp hL R
  · exact l295_35 hp hL R
  · exact l295_36 hp hL R
  · exact l295_37 hp hL R
  · exact l295_38 hp hL R
  · exact l295_39 hp hL R
  · exact l295_40 hp hL R
/-- the loop runs to its end, and all answers were alike -/
theorem lawLoop (hL : L < 2 ^ 20) : ∀ n p (h : zH), L ≤ p + n → p < 2 ^ 20 + 10 → Rel h h → ∃ h', zev L (d + 41) 295 18 [some (.inr (.inl (13, 0, 0))), some (.inr (.inl (11, 0, 0))), some (.inr (.inl (12, 0, 0))), some (.inl (nI p))] [] h = some (some (.inl (nI 1)), h')
  | n, p, h, hn, hp, R => by
    by_cases c : p + 6 ≤ L
    · cases n with
      | zero => omega
      | succ n =>
        have st : zev L (d + 41) 295 18 [some (.inr (.inl (13, 0, 0))), some (.inr (.inl (11, 0, 0))), some (.inr (.inl (12, 0, 0))), some (.inl (nI p))] [] h = zev L (d + 41) 295 33 [some (.inr (.inl (13, 0, 0))), some (.inr (.inl (11, 0, 0))), some (.inr (.inl (12, 0, 0))), some (.inl (nI p))] [.inl ((h 13 0 0 p) &&& nI 63)] h := by
          rw [b295_18, pk_sub (by omega), if_neg (nI_nlt (by omega) (by omega)), b295_27 (vp_in_nI (by omega) (by omega)), nI_clamp (by omega)]
        obtain ⟨h1, e1, R1, _⟩ : ∃ h', zev L (d + 41) 295 33 [some (.inr (.inl (13, 0, 0))), some (.inr (.inl (11, 0, 0))), some (.inr (.inl (12, 0, 0))), some (.inl (nI p))] [.inl ((h 13 0 0 p) &&& nI 63)] h = zev L (d + 41) 295 1531 [some (.inr (.inl (13, 0, 0))), some (.inr (.inl (11, 0, 0))), some (.inr (.inl (12, 0, 0))), some (.inl (nI p))] [] h' ∧ Rel h' h' ∧ h' 13 = h 13 := by
          rcases zarg ((h 13 0 0 p) &&& nI 63) 40 (by omega) with ⟨k, hk, e⟩ | q
          · rw [e]; exact l295_all hk c (by omega) R
          · exact ⟨h, s295_33_d q, R, rfl⟩
        obtain ⟨h2, e2⟩ := lawLoop hL n (p + 6) h1 (by omega) (by omega) R1
        refine ⟨h2, ?_⟩
        rw [st, e1, b295_1531, nI_add]
        exact e2
    · refine ⟨h, ?_⟩
      have q : nI L - nI 6 < nI p := by
        by_cases c6 : 6 ≤ L
        · rw [pk_sub c6]; exact nI_lt (by omega) (by omega)
        · have := pk_sneg (a := L) (b := 6) (by omega) (by omega)
          rw [show (0 : Int32) = nI 0 by decide] at this
          exact Int32.lt_of_lt_of_le this (nI_le (Nat.zero_le p) (by omega))
      rw [b295_18, if_pos q, b295_1537]
end LL
