/-! from what the constructors made to the abstract heap zH0 -/
theorem zH0_c {xs : Nat → Int32} {k i s j : Nat} (h : k ≤ 12) : zH0 xs k i s j = cval (k, i, s) j := by
  unfold zH0
  rw [if_neg (by omega), if_neg (by omega), if_neg (by omega)]
theorem zglue {Z : zP} {b0 : Nat} (had : ∀ q ∈ zIDS, zad Z q.1 q.2.1 q.2.2 = b0 + zidx q) {H : Heap} (hC : cHC (b0, zD Z, zcI Z, zcB Z, zcM Z) cCS2 H) : va_P (zD Z) zcl (zws Z (zH0 (zxs Z))) H := by
  intro n x hx
  unfold zws at hx
  rw [List.getElem?_map] at hx
  cases hq : zIDS[n]? with
  | none => rw [hq] at hx; cases hx
  | some q =>
    rw [hq] at hx
    cases hx
    have hm := List.mem_of_getElem? hq
    obtain ⟨hok, -⟩ := cQ_ok q hm
    obtain ⟨h12, hs, hI⟩ := zIDS_q hm
    have hadq := had q hm
    have hL := zaln_L q hm (zLn Z)
    obtain ⟨k, i, s⟩ := q
    simp only at h12 hs hI hadq hL ⊢
    rw [hadq]
    unfold cokQ at hok
    cases hc : cCS2[zidx (k, i, s)]? with
    | none => rw [hc] at hok; cases hok
    | some c =>
      rw [hc] at hok
      have hP := hC.2 _ _ (cws_at (Z := (b0, zD Z, zcI Z, zcB Z, zcM Z)) hc)
      obtain ⟨t, m, log⟩ | ⟨k', fs⟩ := c
      · simp only [Bool.and_eq_true, Bool.not_eq_true', Bool.or_eq_true] at hok
        obtain ⟨⟨⟨⟨h1, h2⟩, h3⟩, h4⟩, h5⟩ := hok
        have hs0 : ¬ s = 0 := fun e => by subst e; cases h1
        have ht := Nat.eq_of_beq_eq_true h2
        have hn := Nat.eq_of_beq_eq_true h3
        by_cases h22 : zaty k s = 2
        · have hq4 := zid_4 _ hm h22
          cases hq4
          have ht2 : t = 2 := by rw [ht]; rfl
          have hn6 : m = 6 := by rw [hn]; rfl
          subst ht2; subst hn6
          rcases h5 with h5 | h5
          · cases h5
          · have hce : zcell Z (4, 0, 1) (zH0 (zxs Z)) = .inl (zcM Z, 6, .inr (.inr (.inr (.inr (fun j => some (zad Z 3 (3 + j) 0)))))) := rfl
            rw [hce]
            show H[_]? = some (vp_cell _ _)
            have hP : H[b0 + zidx (4, 0, 1)]? = some (vp_cell (zcM Z) (6, .inr (.inr (.inr (.inr (fun j => match clg log j with | some v => some (b0 + v.toNatClampNeg) | none => none)))))) := hP
            rw [hP, vp_cell_q, vp_cell_q]
            congr 1
            unfold arrV
            congr 1
            apply Array.ext
            · simp
            · intro j hj1 hj2
              have hj : j < 6 := by simpa using hj1
              have h6 := of_decide_eq_true (zrange h5 hj)
              have h7 := had (3, 3 + j, 0) (zid_3 (3 + j) (by omega))
              have h8 : zidx (3, 3 + j, 0) < 2 ^ 31 := by
                have h9 : ∀ j, j < 6 → zidx (3, 3 + j, 0) < 2 ^ 31 := by decide +kernel
                exact h9 j hj
              simp only [Array.getElem_ofFn, h6, nI_clamp h8]
              simp only at h7
              rw [h7]
        · rw [zcell_a hs0 h22]
          have hP : H[b0 + zidx (k, i, s)]? = some (vp_cell (if t = 0 then zcI Z else zcB Z) (m, .inl (fun j => (clg log j).getD 0))) := by
            have h9 : ¬ t = 2 := by rw [ht]; exact h22
            have hce : ccell (b0, zD Z, zcI Z, zcB Z, zcM Z) (.inl (t, m, log)) = .inl (if t = 0 then zcI Z else zcB Z, m, .inl (fun j => (clg log j).getD 0)) := by
              unfold ccell
              simp only [h9, if_false]
            rw [hce] at hP
            exact hP
          show H[_]? = some (vp_cell _ _)
          have hfun : zH0 (zxs Z) k i s = fun j => (clg log j).getD 0 := by
            funext j
            rw [zH0_c h12]
            unfold cval
            rw [hc]
          rw [hP, hfun, hL, ← hn, ht]
      · simp only [Bool.and_eq_true] at hok
        obtain ⟨⟨⟨h1, h2⟩, h3⟩, h4⟩ := hok
        have hs0 := Nat.eq_of_beq_eq_true h1
        have hk := Nat.eq_of_beq_eq_true h2
        have hlen := Nat.eq_of_beq_eq_true h3
        try simp only at hs0 hk
        subst hs0; subst hk
        rw [zcell_o]
        have hP : va_at (zD Z) zcl (b0 + zidx (k', i, 0), .inr (k', fs.map (ccv b0))) H := hP
        have hfs : fs.map (ccv b0) = (List.range (znf k')).map (zfval Z k' i (zH0 (zxs Z))) := by
          apply List.ext_getElem?
          intro f
          rw [List.getElem?_map, List.getElem?_map]
          by_cases hf : f < znf k'
          · have hf2 : f < fs.length := by rw [hlen]; exact hf
            rw [List.getElem?_range hf, List.getElem?_eq_getElem hf2]
            have h5 := zrange h4 hf
            have hget : fs.getD f (.inr none) = fs[f] := by rw [List.getD_eq_getElem?_getD, List.getElem?_eq_getElem hf2]; rfl
            rw [hget] at h5
            have hval : cval (k', i, 0) f = match fs[f] with | .inl x => x | _ => 0 := by
              unfold cval
              rw [hc]
              simp only [List.getElem?_eq_getElem hf2]
              cases fs[f] <;> rfl
            show some (ccv b0 fs[f]) = some (zfval Z k' i (zH0 (zxs Z)) f)
            congr 1
            generalize fs[f] = v at h5 hval
            unfold zfval
            rw [zH0_c h12, hval]
            unfold cokF at h5
            split at h5
            · next _ h2 =>
              rw [Bool.and_eq_true] at h5
              rw [h2]
              have h6 := (hI rfl).2 f hf h2
              have h7 := had _ h6
              show Value.ref _ = Value.ref _
              rw [h7, Nat.eq_of_beq_eq_true h5.1]
            · next _ h3 =>
              rw [h3]
              have h7 := had (3, 0, 0) (zid_3 0 (by omega))
              show Value.ref _ = Value.ref (zad Z 3 (0 : Int32).toNatClampNeg 0)
              rw [show (0 : Int32).toNatClampNeg = 0 from rfl, Nat.eq_of_beq_eq_true h5]
              simp only at h7
              rw [h7]
            · next _ h0 => rw [h0]; rfl
            · next _ h0 => rw [h0]; rfl
            · next _ h0 => rw [h0]; rfl
            · cases h5
          · rw [List.getElem?_eq_none (by rw [hlen]; omega), List.getElem?_eq_none (by simpa using Nat.not_lt.mp hf)]
            rfl
        rw [← hfs]
        exact hP
