/-! from the entry to the end -/
theorem hdecL : ∀ q ∈ zt295, decode code q.1 = .ok q.2 := zdec_of zDL zDLs
theorem cCS1_len : cCS1.length = 152 := by decide +kernel
theorem zidx_a : zidx (11, 0, 0) = 0 := by decide +kernel
theorem zidx_b : zidx (12, 0, 0) = 152 := by decide +kernel
theorem zids_a : (11, 0, 0) ∈ zIDS := by decide +kernel
theorem zids_b : (12, 0, 0) ∈ zIDS := by decide +kernel
theorem c904 : (cval (9, 0, 0) 4).toNatClampNeg < 9 := by decide +kernel
theorem wHI {b0 b t14 t15 t15v : Nat} {fv : Value} {D : va_G} {T : ClassId × ClassId × ClassId} {L : Nat} {xs : Nat → Int32} : zHI (wZ b0 b t14 t15 t15v fv D T L xs) (zH0 xs) := by
  refine ⟨?_, fun j _ => ?_, fun j => ?_, fun j => ?_, ?_⟩
  · have e : zH0 xs 9 0 0 4 = cval (9, 0, 0) 4 := by unfold zH0; rw [if_neg (by decide), if_neg (by decide), if_neg (by decide)]
    rw [e]
    exact c904
  · show zH0 xs 13 0 0 j = xs j
    unfold zH0
    rw [if_pos rfl]
  · unfold zH0
    rw [if_neg (by decide), if_pos rfl]
  · unfold zH0
    rw [if_neg (by decide), if_neg (by decide), if_pos rfl, if_pos rfl]
  · unfold zH0
    rw [if_neg (by decide), if_neg (by decide), if_pos rfl, if_neg (by decide)]
theorem zmx295 : zmxl 295 = 4 := by decide +kernel
theorem nI1 : nI 1 = 1 := by decide +kernel
theorem wNW {s : State} {a : Array Value} (hts : ∀ w ∈ lw_tbl, w.before a s = true) : ∀ w ∈ lw_tbl, zisN w = true → va_Nw w s := fun w hw hz => by
  refine va_Nw.of ?_ (hts _ hw)
  unfold zisN at hz
  split at hz
  all_goals first | rfl | (cases hz; done)
theorem wLoop {p : Program} {e : Env} {s : State} {m : MethodId} {below : List Frame} {meth : Method} {c : Code} (l : Launch) {b L : Nat} {xs : Nat → Int32} {t14 t15 t15v : Nat} {fv : Value} {D : va_G} {T : ClassId × ClassId × ClassId} (hL : L ≤ 3072) (C0 : lw_At p s m meth c b L xs) (htg : ∀ w ∈ zGW, w.before #[Value.ref b] s = true) (hfv : fv = .null ∨ ∃ t, fv = .ref t) (hG : zG (wZ s.heap.size b t14 t15 t15v fv D T L xs) s) {H : Heap} {locs : List Loc} {lA : Array Slot} {cells slots : Nat} (hc : cells ≤ 600000) (hs : slots ≤ 7302250) (hH : cHC (s.heap.size, D, T) cCS2 H) (hS : va_S (cA (s.heap.size, D, T)) s.heap H locs) (hlv : lv_has lA 4 [(2, .ref (s.heap.size + 152)), (1, .ref (s.heap.size + 0)), (0, .ref b)]) : W p l e room_1 s m #[Value.ref b] below meth c H locs cells slots (lw_Z below #[Value.ref b] s) (F0 m 16 lA []) := by
  obtain ⟨hx, hb, hr, hml, hown, hts, hX, hbl, hlocks, hgv⟩ := C0
  obtain ⟨h', he⟩ := lawLoop (L := L) (d := 59) (by omega) L 0 (zH0 xs) (by omega) (by decide) (Rel0 xs)
  obtain ⟨n, hn⟩ := zev_ex (b295_16.trans he)
  refine zW_main (Z := wZ s.heap.size b t14 t15 t15v fv D T L xs) (wAD hfv) l n 100 295 16 _ [] (zH0 xs) _ h' hn p e room_1 s m #[Value.ref b] below meth c cells slots _ code hx hb (hml.trans zmx295.symm) hown htg hG zdecL (show 100 + 1 ≤ 2048 by decide +kernel) (show 64 * (100 + 1) ≤ 84000 by decide +kernel) hc hs H locs lA ⟨wHI, zglue (Z := wZ s.heap.size b t14 t15 t15v fv D T L xs) (b0 := s.heap.size) wZ_c hH⟩ hS ⟨⟨hlv.1.trans zmx295.symm, hlv.2.1, zmx295.symm, fun i v hv => ?_⟩, fun _ i x hq => ?_⟩ (fun v hv => nomatch hv) (fun H' locs' lA' pc' i st' hH' hS' hd' hret _ => ?_)
  · match i, hv with
    | 0, hv =>
      cases hv
      exact ⟨hlv.2.2 (0, .ref b) (List.mem_of_getElem? (i := 2) rfl), Or.inr (List.mem_of_getElem? (i := 0) rfl)⟩
    | 1, hv =>
      cases hv
      have e1 : zcv (wZ s.heap.size b t14 t15 t15v fv D T L xs) (.inr (.inl (11, 0, 0))) = .ref (s.heap.size + zidx (11, 0, 0)) := rfl
      rw [e1, zidx_a]
      exact ⟨hlv.2.2 (1, .ref (s.heap.size + 0)) (List.mem_of_getElem? (i := 1) rfl), Or.inl zids_a⟩
    | 2, hv =>
      cases hv
      have e1 : zcv (wZ s.heap.size b t14 t15 t15v fv D T L xs) (.inr (.inl (12, 0, 0))) = .ref (s.heap.size + zidx (12, 0, 0)) := rfl
      rw [e1, zidx_b]
      exact ⟨hlv.2.2 (2, .ref (s.heap.size + 152)) (List.mem_of_getElem? (i := 0) rfl), Or.inl zids_b⟩
    | 3, hv => cases hv
    | i + 4, hv => cases hv
  · match i, hq with
    | 0, hq => cases hq
    | 1, hq => cases hq
    | 2, hq => cases hq
    | 3, hq => cases hq
    | i + 4, hq => cases hq
  · rcases hret with ⟨rfl, v, rfl, e1, -⟩ | ⟨-, q, -, e1, -⟩ | ⟨-, -, e1, -⟩
    · cases e1
      have K : W p l e room_1 s m #[Value.ref b] below meth c H' locs' cells slots (lw_Z below #[Value.ref b] s) (F0 m pc' lA' [.int 1]) := va_forget (fun q hq => hS'.2.2 q hq) (W.widen hc hs (lw_ret hx hb hr hlocks hd'))
      rw [← nI1] at K
      exact K
    · cases e1
    · cases e1
def wC1 : List cC := [.inr (11, (List.range (znf 11)).map (cdef 11))]
def wC2 : List cC := cCS1 ++ [.inr (12, (List.range (znf 12)).map (cdef 12))]
theorem wRm : 0 + 1 ≤ 600000 ∧ 0 + znf 11 ≤ 7302250 ∧ 0 + 1 + (cCS1.length - wC1.length) ≤ 600000 ∧ 0 + znf 11 + (ctot cCS1 - ctot wC1) ≤ 7302250 ∧ 0 + 1 + (cCS1.length - wC1.length) + 1 ≤ 600000 ∧ 0 + znf 11 + (ctot cCS1 - ctot wC1) + znf 12 ≤ 7302250 ∧ 0 + 1 + (cCS1.length - wC1.length) + 1 + (cCS2.length - wC2.length) ≤ 600000 ∧ 0 + znf 11 + (ctot cCS1 - ctot wC1) + znf 12 + (ctot cCS2 - ctot wC2) ≤ 7302250 := by decide +kernel
theorem wMk : (cnw 13 7 = some 11 ∧ cnw 13 10 = some 12) ∧ (zmlk (zown 295) 9 = some 108 ∧ zmlk (zown 295) 12 = some 154) ∧ (cinC 108 = true ∧ cinC 154 = true) ∧ (1 = znar 108 ∧ 1 = znar 154) := by decide +kernel
/-- from the entry, for every script of at most 3072 ints, the law comes to its end with true -/
theorem whole_start {p : Program} {e : Env} {s : State} {m : MethodId} {below : List Frame} {meth : Method} {c : Code} (l : Launch) {b L : Nat} {xs : Nat → Int32} (hL : L ≤ 3072) (C0 : lw_At p s m meth c b L xs) : W p l e room_1 s m #[Value.ref b] below meth c s.heap [] 0 0 (lw_Z below #[Value.ref b] s) (entryFrame m ([Value.ref b] : List Value).toArray 4) := by
  obtain ⟨hx, hb, hr, hml, hown, hts, hX, hbl, hlocks, hgv⟩ := id C0
  have htg : ∀ w ∈ zGW, w.before #[Value.ref b] s = true := fun w hw => hts w (List.mem_filter.mp hw).1
  obtain ⟨dC, dI, hK⟩ := wK hts
  obtain ⟨cI, cB, cM, hT⟩ := wT hts
  obtain ⟨t14, t15, t15v, fv, hfv, hRO⟩ := wRO hts hgv
  have hN := wNW hts
  have hAO : va_AO (znm 3) s := va_AO.of (hts _ zmT.2.2.2.2.2.2)
  have hGc : cG (s.heap.size, (dC, dI), (cI, cB, cM)) s := ⟨⟨hK, hT⟩, hN, hAO⟩
  have hGz : zG (wZ s.heap.size b t14 t15 t15v fv (dC, dI) (cI, cB, cM) L xs) s := ⟨⟨hK, hT⟩, hN, ⟨hX, hbl, Nat.not_le.mpr hbl⟩, hRO⟩
  obtain ⟨r1, r2, r3, r4, r5, r6, r7, r8⟩ := wRm
  obtain ⟨⟨k1, k2⟩, ⟨k3, k4⟩, ⟨k5, k6⟩, ⟨k7, k8⟩⟩ := wMk
  have M1 := cMet_of (Z := (s.heap.size, (dC, dI), (cI, cB, cM))) (cW_main l 3000) (d := 10) (mi := 108) (as := [.inr (some 0)]) (cs := wC1) k5 k7 cR1
  have M2 := cMet_of (Z := (s.heap.size, (dC, dI), (cI, cB, cM))) (cW_main l 3000) (d := 10) (mi := 154) (as := [.inr (some 152)]) (cs := wC2) k6 k8 cR2
  rw [lg_entry_eq]
  have hE := lv_entry [Value.ref b] (n := 4) (show 1 ≤ 4 by decide)
  generalize ((lg_sl [Value.ref b] ++ List.replicate (4 - (lg_sl [Value.ref b]).length) Slot.unset).toArray) = ls0 at hE ⊢
  refine cW_newL (Z := (s.heap.size, (dC, dI), (cI, cB, cM))) (o := 13) (x := 7) (k := 11) (cs := []) hx hb hown htg hGc k1 (hdecL (0, .new 7, 3) (List.mem_of_getElem? (i := 0) rfl)) r1 r2 ⟨rfl, fun k q hk => by cases hk⟩ ⟨Nat.le_refl _, fun q _ _ => rfl, fun l hl => nomatch hl⟩ fun H1 hH1 hS1 => ?_
  refine lv_dup hx hb (hdecL (3, .dup, 1) (List.mem_of_getElem? (i := 1) rfl)) rfl ?_
  refine cW_call (Z := (s.heap.size, (dC, dI), (cI, cB, cM))) (mi := 295) (m' := 108) (d := 10) (x := 9) (nL := 4) (as' := []) (r := [.inr (some 0)]) (cs := wC1) (cs' := cCS1) (j := 0) M1 k5 k7 (by decide) k3 hx hb hml hown htg hGc (Nat.le_refl _) (show 10 + 1 + 1 ≤ 2048 by decide +kernel) (show 64 * (10 + 1 + 1) ≤ 84000 by decide +kernel) r3 r4 hH1 hS1 hE.1 (hdecL (4, .invokespecial 9, 3) (List.mem_of_getElem? (i := 2) rfl)) fun H2 locs2 hH2 hS2 => ?_
  refine lv_astore_n (k := 1) (i := 1) (nL := 4) (x := s.heap.size + 0) (lv' := [(1, .ref (s.heap.size + 0)), (0, .ref b)]) hx hb (hdecL (7, .astore_n 1, 1) (List.mem_of_getElem? (i := 3) rfl)) rfl hE (by decide) rfl fun ls1 hl1 => ?_
  refine cW_newL (Z := (s.heap.size, (dC, dI), (cI, cB, cM))) (o := 13) (x := 10) (k := 12) (cs := cCS1) hx hb hown htg hGc k2 (hdecL (8, .new 10, 3) (List.mem_of_getElem? (i := 4) rfl)) r5 r6 hH2 hS2 fun H3 hH3 hS3 => ?_
  rw [cCS1_len]
  rw [cCS1_len] at r7
  refine lv_dup hx hb (hdecL (11, .dup, 1) (List.mem_of_getElem? (i := 5) rfl)) rfl ?_
  refine cW_call (Z := (s.heap.size, (dC, dI), (cI, cB, cM))) (mi := 295) (m' := 154) (d := 10) (x := 12) (nL := 4) (as' := []) (r := [.inr (some 152)]) (cs := wC2) (cs' := cCS2) (j := 152) M2 k6 k8 (by decide) k4 hx hb hml hown htg hGc (Nat.le_refl _) (show 10 + 1 + 1 ≤ 2048 by decide +kernel) (show 64 * (10 + 1 + 1) ≤ 84000 by decide +kernel) r7 r8 hH3 hS3 hl1.1 (hdecL (12, .invokespecial 12, 3) (List.mem_of_getElem? (i := 6) rfl)) fun H4 locs4 hH4 hS4 => ?_
  refine lv_astore_n (k := 2) (i := 2) (nL := 4) (x := s.heap.size + 152) (lv' := [(2, .ref (s.heap.size + 152)), (1, .ref (s.heap.size + 0)), (0, .ref b)]) hx hb (hdecL (15, .astore_n 2, 1) (List.mem_of_getElem? (i := 7) rfl)) rfl hl1 (by decide) rfl fun ls2 hl2 => ?_
  exact wLoop l hL C0 htg hfv hGz r7 r8 hH4 hS4 hl2
