/-! SOUNDNESS 4: one instruction that is no call and no return -/
theorem zslk_ok {o x q : Nat} (h : zslk o x = some q) : (q = 0 ∧ o = 5 ∧ x = 73) ∨ (q = 1 ∧ o = 15 ∧ x = 38) ∨ (q = 2 ∧ o = 15 ∧ x = 1053) := by
  unfold zslk at h
  split at h
  · next r hr =>
    have hm := List.mem_of_find?_eq_some hr
    have hb := List.find?_some hr
    rw [Bool.and_eq_true] at hb
    have e1 := Nat.eq_of_beq_eq_true hb.1
    have e2 := Nat.eq_of_beq_eq_true hb.2
    obtain ⟨q1, q2, q3⟩ := r
    cases h
    simp only at e1 e2
    subst e1; subst e2
    have h9 : ∀ t ∈ zSLK, (t.2.2 = 0 ∧ t.1 = 5 ∧ t.2.1 = 73) ∨ (t.2.2 = 1 ∧ t.1 = 15 ∧ t.2.1 = 38) ∨ (t.2.2 = 2 ∧ t.1 = 15 ∧ t.2.1 = 1053) := by decide +kernel
    exact h9 _ hm
  · cases h
theorem zw_s0 : Cond.fieldLink (znm 5) 73 "ClaspedFair$Puzzles" "HEAP" "[I" ∈ zGW := zat_in (n := 1195) (by decide +kernel)
theorem zw_s1 : Cond.fieldLink (znm 15) 38 "java/lang/String" "COMPACT_STRINGS" "Z" ∈ zGW := zat_in (n := 771) (by decide +kernel)
theorem zw_s2 : Cond.fieldLink (znm 15) 1053 "jdk/internal/util/Preconditions" "SIOOBE_FORMATTER" "Ljava/util/function/BiFunction;" ∈ zGW := zat_in (n := 787) (by decide +kernel)
theorem zw_ac1 : Cond.native arraycopyName ∈ zGW := zat_in (n := 663) (by decide +kernel)
theorem zw_ac2 : Cond.static arraycopyName ∈ zGW := zat_in (n := 662) (by decide +kernel)
theorem zw_ac3 : Cond.initialized "java/lang/System" ∈ zGW := zat_in (n := 144) (by decide +kernel)
theorem zw_m0 : Cond.initialized "java/lang/Math" ∈ zGW := zat_in (n := 143) (by decide +kernel)
theorem zw_m1 : Cond.static Lib.Math.max.name ∈ zGW := zat_in (n := 641) (by decide +kernel)
theorem zw_m2 : Cond.static Lib.Math.min.name ∈ zGW := zat_in (n := 638) (by decide +kernel)
theorem zw_m3 : Cond.static Lib.Math.abs.name ∈ zGW := zat_in (n := 1131) (by decide +kernel)
theorem zw_m4 : Cond.code Lib.Math.max.name Lib.Math.max.code 2 (some .int) ∈ zGW := zat_in (n := 642) (by decide +kernel)
theorem zw_m5 : Cond.code Lib.Math.min.name Lib.Math.min.code 2 (some .int) ∈ zGW := zat_in (n := 639) (by decide +kernel)
theorem zw_m6 : Cond.code Lib.Math.abs.name Lib.Math.abs.code 1 (some .int) ∈ zGW := zat_in (n := 1132) (by decide +kernel)
theorem zcatsum {Z : zP} : ∀ (r : List zV), ((r.map (zcv Z)).map fun v => v.category).sum ≤ 2 * r.length
  | [] => Nat.le_refl _
  | v :: r => by
    have ih := zcatsum (Z := Z) r
    have h2 : (zcv Z v).category ≤ 2 := by
      rcases lv_cat (zcv Z v) with h | h <;> omega
    simp only [List.map_cons, List.sum_cons, List.length_cons]
    omega
section ZW
variable {Z : zP} {p : Program} {l : Launch} {e : Env} {R : Room} {s : State} {m : MethodId} {args : Array Value} {below : List Frame} {meth : Method} {c : Code} {cells slots : Nat} {Q : State → Prop} {cc : ByteArray} {mi pc : Nat} {ls ls' : zLS} {st st' : List zV} {h h' : zH} {pc' : Nat} {H : Heap} {locs : List Loc} {lA : Array Slot}
theorem zfl {k i f : Nat} (hf : f < znf k) : ((List.range (znf k)).map (zfval Z k i h))[f]? = some (zfval Z k i h f) := by
  rw [List.getElem?_map, List.getElem?_range hf]
  rfl
theorem zcell_o {k i : Nat} : zcell Z (k, i, 0) h = .inr (k, (List.range (znf k)).map (zfval Z k i h)) := by
  unfold zcell
  rw [if_pos rfl]
theorem zcell_a {k i t : Nat} (ht : ¬ t = 0) (h2 : ¬ zaty k t = 2) : zcell Z (k, i, t) h = .inl (if zaty k t = 0 then zcI Z else zcB Z, zaln (zLn Z) k i t, .inl (h k i t)) := by
  unfold zcell
  rw [if_neg ht, if_neg h2]
/-- getfield -/
theorem zW_get (hZ : zAD Z) (hx : p.tables.exec = Jvm.exec) (hb : c.code = cc) (hown : s.vm.findClass (znm (zown mi)) = some m.cls) (hts : ∀ w ∈ zGW, w.before args s = true) (hG : zG Z s) {x k f : Nat} (hq : zflk (zown mi) x = some (k, f)) (hd : decode cc pc = .ok (.getfield x, 3)) (hs : zgetf (k, f) st h = some st') (hH : zHC Z h H) (hS : va_S (zA Z) s.heap H locs) (ho : zSO st)
    (K : zSO st' → W p l e R s m args below meth c H locs cells slots Q (F0 m (pc + 3) lA (st'.map (zcv Z)))) : W p l e R s m args below meth c H locs cells slots Q (F0 m pc lA (st.map (zcv Z))) := by
  unfold zgetf at hs
  split at hs
  · next k0 i0 s0 r =>
    split at hs
    · next hc =>
      obtain ⟨rfl, rfl⟩ := hc
      simp only at hs
      have hv := ho.hd
      rcases zflk_ok hq with ⟨rfl, ho15, hw⟩ | ⟨hk, hf, hw⟩
      · -- a String's field
        have hi : i0 = 0 := by
          rcases hv with h1 | h1
          · have := (zIDS_q h1).1
            simp at this
          · simp [zROI] at h1
            exact h1
        subst hi
        obtain ⟨-, -, hRO⟩ := hG
        obtain ⟨-, -, -, -, -, h10, h11, -⟩ := hRO
        rw [ho15] at hown
        by_cases hf : f = 0
        · subst hf
          cases hs
          refine vk_getf hx hb h11 hS hown (hts _ hw) (fun _ q => q) hd (K (zSO.cons (Or.inr (by decide)) ho.tl))
        · rw [if_neg hf, if_neg hf] at hw
          have h9 : zfty 15 f = 9 ∨ f = 1 := by
            match f, hf with
            | 1, _ => exact Or.inr rfl
            | n + 2, _ => exact Or.inl rfl
          rcases h9 with h9 | rfl
          · rw [h9] at hs
            cases hs
          · cases hs
            have e0 : h 15 0 0 1 = 0 := hH.1.2.2.2.2
            have K := K (zSO.cons trivial ho.tl)
            rw [List.map_cons, show zcv Z (.inl (h 15 0 0 1)) = Value.int (h 15 0 0 1) from rfl, e0] at K
            exact vk_getf hx hb h10 hS hown (hts _ hw) (fun _ q => q) hd K
      · have hmem : (k0, i0, 0) ∈ zIDS := by
          rcases hv with h1 | h1
          · exact h1
          · simp [zROI] at h1
            omega
        obtain ⟨n, hn⟩ := List.getElem?_of_mem hmem
        have he := zws_at (Z := Z) (h := h) hn
        rw [zcell_o] at he
        have hval : ∃ v, st' = v :: r ∧ zcv Z v = zfval Z k0 i0 h f ∧ zvok v := by
          unfold zfval
          have hI := zIDS_q hmem
          split at hs
          · next h2 =>
            cases hs
            have ht := (hI.2.2 rfl).2 f hf h2
            refine ⟨_, rfl, ?_, Or.inl ht⟩
            rw [h2]
            have hz9 : (ztgt k0 i0 f).1 ≤ 12 := (zIDS_q ht).1
            show (if (ztgt k0 i0 f).1 = 16 then zfv Z else Value.ref _) = _
            rw [if_neg (by omega)]
            rfl
          · next h3 =>
            cases hs
            refine ⟨_, rfl, ?_, Or.inl ?_⟩
            · rw [h3]
              exact zcv_ref (by omega)
            · obtain ⟨rfl, rfl⟩ := zfty_3 k0 hk f hf h3
              have h0 : i0 = 0 := zid_9 _ hmem rfl
              subst h0
              exact zid_3 _ hH.1.1
          · cases hs
          · next h2 h3 h9 =>
            cases hs
            refine ⟨_, rfl, ?_, trivial⟩
            split
            · next h => exact absurd h h2
            · next h => exact absurd h h3
            · rfl
        obtain ⟨v, rfl, hv2, hvo⟩ := hval
        have K := K (zSO.cons hvo ho.tl)
        rw [List.map_cons, hv2] at K
        have e1 : List.map (zcv Z) (Sum.inr (Sum.inl (k0, i0, 0)) :: r) = .ref (zad Z k0 i0 0) :: r.map (zcv Z) := by rw [List.map_cons, zcv_ref (by omega)]
        rw [e1]
        rcases hw with hw | hw
        · exact va_getN hx hb hts (zin_k hk) hown hG.1 hH.2 n he (zcl_at hk) f hf (va_Nw.use rfl (hG.2.1 _ hw rfl)) (fun _ q => q) (zfl hf) hd K
        · exact va_get hx hb hts (zin_k hk) hown hG.1 hH.2 n he (zcl_at hk) f hf (hts _ hw) (fun _ q => q) (zfl hf) hd K
    · cases hs
  · cases hs
theorem zHI_up {k i t j : Nat} {v : Int32} (hk : k ≤ 12) (hv : k = 9 → t = 0 → j = 4 → v.toNatClampNeg < 9) (hI : zHI Z h) : zHI Z (zup h k i t j v) := by
  obtain ⟨h1, h2, h3, h4, h5⟩ := hI
  refine ⟨?_, fun q hq => ?_, fun q => ?_, fun q => ?_, ?_⟩
  · unfold zup
    split
    · next hc => exact hv hc.1.symm hc.2.2.1.symm hc.2.2.2.symm
    · exact h1
  all_goals
    unfold zup
    rw [if_neg (by omega)]
    first | exact h2 _ hq | exact h3 _ | exact h4 _ | exact h5
theorem zup_ne {k i t j : Nat} {v : Int32} : ∀ k' i' s' j', (k', i', s') ≠ (k, i, t) → zup h k i t j v k' i' s' j' = h k' i' s' j' := by
  intro k' i' s' j' hne
  unfold zup
  rw [if_neg]
  rintro ⟨rfl, rfl, rfl, -⟩
  exact hne rfl
theorem zfl_set {k i f : Nat} {v : Int32} {w : Value} (hf : f < znf k) (hw : w = zfval Z k i (zup h k i 0 f v) f) : ((List.range (znf k)).map (zfval Z k i h)).set f w = (List.range (znf k)).map (zfval Z k i (zup h k i 0 f v)) := by
  apply List.ext_getElem?
  intro j
  rw [List.getElem?_set, List.getElem?_map, List.getElem?_map]
  by_cases hj : f = j
  · subst hj
    rw [if_pos rfl, if_pos (by simpa using hf), List.getElem?_range hf, hw]
    rfl
  · rw [if_neg hj]
    cases hr : (List.range (znf k))[j]? with
    | none => rfl
    | some a =>
      have : a = j := by
        have := List.getElem?_eq_some_iff.mp hr
        obtain ⟨h1, h2⟩ := this
        simpa using h2.symm
      subst this
      have hz : zup h k i 0 f v k i 0 a = h k i 0 a := by
        unfold zup
        rw [if_neg (fun q => hj q.2.2.2.symm)]
      show some (zfval Z k i h a) = some (zfval Z k i (zup h k i 0 f v) a)
      unfold zfval
      rw [hz]
/-- putfield -/
theorem zW_put (hZ : zAD Z) (hx : p.tables.exec = Jvm.exec) (hb : c.code = cc) (hown : s.vm.findClass (znm (zown mi)) = some m.cls) (hts : ∀ w ∈ zGW, w.before args s = true) (hG : zG Z s) {x k f : Nat} (hq : zflk (zown mi) x = some (k, f)) (hd : decode cc pc = .ok (.putfield x, 3)) (hs : zputf (k, f) (pc + 3) ls st h = some (.inl (pc', ls', st', h'))) (hH : zHC Z h H) (hS : va_S (zA Z) s.heap H locs) (ho : zSO st)
    (K : ∀ (H' : Heap) (locs' : List Loc), zHC Z h' H' → va_S (zA Z) s.heap H' locs' → zSO st' → W p l e R s m args below meth c H' locs' cells slots Q (F0 m (pc + 3) lA (st'.map (zcv Z)))) : pc' = pc + 3 ∧ ls' = ls ∧ W p l e R s m args below meth c H locs cells slots Q (F0 m pc lA (st.map (zcv Z))) := by
  have main : ∀ (k0 i0 : Nat) (r : List zV) (v : zV) (ty : FieldType) (v' : Int32), k0 ≤ 12 → k = k0 → st = v :: .inr (.inl (k0, i0, 0)) :: r → h' = zup h k0 i0 0 f v' → st' = r → zvok v → parseFieldDescriptor (zT (zfd_ k0) f).2.2.1 = some ty → (zT (zfd_ k0) f).2.2.2 = false → narrow ty (zcv Z v) = zcv Z v → fits ty (zcv Z v) = true → zcv Z v = zfval Z k0 i0 (zup h k0 i0 0 f v') f → (k0 = 9 → f = 4 → v'.toNatClampNeg < 9) → W p l e R s m args below meth c H locs cells slots Q (F0 m pc lA (st.map (zcv Z))) := by
    rintro k0 i0 r v ty v' hk0 rfl rfl rfl rfl hv hty hfin hnar hfit hval h9
    rcases zflk_ok hq with ⟨h15, -⟩ | ⟨hk, hf, hw⟩
    · omega
    · have hmem : (k, i0, 0) ∈ zIDS := by
        rcases (ho.tl).hd with h1 | h1
        · exact h1
        · simp [zROI] at h1
          omega
      obtain ⟨n, hn⟩ := List.getElem?_of_mem hmem
      have he := zws_at (Z := Z) (h := h) hn
      rw [zcell_o] at he
      have e1 : List.map (zcv Z) (v :: Sum.inr (Sum.inl (k, i0, 0)) :: st') = zcv Z v :: .ref (zad Z k i0 0) :: st'.map (zcv Z) := by rw [List.map_cons, List.map_cons, zcv_ref (by omega)]
      rw [e1]
      have fin : ∀ (H1 : Heap) (locs1 : List Loc), va_P (zD Z) zcl ((zws Z h).set n (zad Z k i0 0, .inr (k, ((List.range (znf k)).map (zfval Z k i0 h)).set f (zcv Z v)))) H1 → va_D (zA Z) ((zws Z h).set n (zad Z k i0 0, .inr (k, ((List.range (znf k)).map (zfval Z k i0 h)).set f (zcv Z v)))) → va_S (zA Z) s.heap H1 locs1 → W p l e R s m args below meth c H1 locs1 cells slots Q (F0 m (pc + 3) lA (st'.map (zcv Z))) := by
        intro H1 locs1 hP1 _ hS1
        rw [zfl_set hf hval, ← zcell_o (i := i0), zws_set (q := (k, i0, 0)) hn zup_ne] at hP1
        exact K H1 locs1 ⟨zHI_up hk0 (fun a _ b => h9 a b) hH.1, hP1⟩ hS1 ho.tl.tl
      rcases hw with hw | hw
      · exact va_putN hx hb hts (zin_k hk) (zty0 k) (zty_ok hk) (znm_ok hk) hown hG.1 hH.2 (zD_of hZ h) hS n he (zcl_at hk) f hf (va_Nw.use rfl (hG.2.1 _ hw rfl)) (fun _ q => q) hfin hty hnar hfit (by simpa using hf) hd fin
      · exact va_put hx hb hts (zin_k hk) (zty0 k) (zty_ok hk) (znm_ok hk) hown hG.1 hH.2 (zD_of hZ h) hS n he (zcl_at hk) f hf (hts _ hw) (fun _ q => q) hfin hty hnar hfit (by simpa using hf) hd fin
  have hself : ∀ (k i f : Nat) (v : Int32), zup h k i 0 f v k i 0 f = v := by
    intro k i f v
    unfold zup
    rw [if_pos ⟨rfl, rfl, rfl, rfl⟩]
  have hlt : k ≤ 12 → k < 13 ∧ f < znf k := by
    intro h12
    rcases zflk_ok hq with ⟨h15, -⟩ | ⟨hk, hf, hw⟩
    · omega
    · exact ⟨hk, hf⟩
  unfold zputf at hs
  split at hs
  · next v k0 i0 s0 r =>
    split at hs
    · next hc =>
      obtain ⟨h1, h2, h3⟩ := hc
      simp only at h1
      subst h1; subst h2
      have hl := hlt h3
      simp only at hs
      split at hs
      · next h0 =>
        cases hs
        have ht := (zty_w hl.1 hl.2).1 h0
        exact ⟨rfl, rfl, main k0 i0 _ (.inl v) .int v h3 rfl rfl rfl rfl trivial ht.1 ht.2 rfl rfl (by unfold zfval; rw [h0, hself]; rfl) (fun a b => by subst a; subst b; cases h0)⟩
      · next h0 =>
        split at hs
        · next hv =>
          cases hs
          have ht := (zty_w hl.1 hl.2).2.1 h0
          refine ⟨rfl, rfl, main k0 i0 _ (.inl v) .boolean v h3 rfl rfl rfl rfl trivial ht.1 ht.2 ?_ ?_ (by unfold zfval; rw [h0, hself]; rfl) (fun a b => by subst a; subst b; cases h0)⟩
          · rcases hv with rfl | rfl <;> rfl
          · rcases hv with rfl | rfl <;> rfl
        · cases hs
      · cases hs
    · cases hs
  · next k' i' s' k0 i0 s0 r =>
    split at hs
    · next hc =>
      obtain ⟨h1, h2, h3, h4, h5⟩ := hc
      simp only at h1
      subst h1; subst h2; subst h3; subst h4
      have hl := hlt h5
      simp only at hs
      split at hs
      · next h0 =>
        cases hs
        have ht := (zty_w hl.1 hl.2).2.2 h0
        have hvk := ho.hd
        have hi' : i' < 9 := by
          rcases hvk with h1 | h1
          · have := ((zIDS_q h1).2.2 rfl).1
            exact this
          · simp [zROI] at h1
        have hcl : (Int32.ofNat i').toNatClampNeg = i' := nI_clamp (n := i') (by omega)
        refine ⟨rfl, rfl, main k0 i0 _ (.inr (.inl (3, i', 0))) (.object (znm 3)) (Int32.ofNat i') h5 rfl rfl rfl rfl hvk ht.1 ht.2 ?_ ?_ ?_ (fun _ _ => by rw [hcl]; exact hi')⟩
        · rw [zcv_ref (by omega)]; rfl
        · rw [zcv_ref (by omega)]; rfl
        · unfold zfval
          rw [h0, hself, hcl, zcv_ref (by omega)]
          rfl
      · cases hs
    · cases hs
  · cases hs
end ZW
/-! SOUNDNESS 5: arrays -/
section ZX
variable {Z : zP} {p : Program} {l : Launch} {e : Env} {R : Room} {s : State} {m : MethodId} {args : Array Value} {below : List Frame} {meth : Method} {c : Code} {cells slots : Nat} {Q : State → Prop} {cc : ByteArray} {mi pc : Nat} {ls ls' : zLS} {st st' : List zV} {h h' : zH} {pc' : Nat} {H : Heap} {locs : List Loc} {lA : Array Slot}
theorem zvk_arr {k i t ty : Nat} (hv : zvok (.inr (.inl (k, i, t)))) (ht : zaty k t = ty) (h9 : ty ≤ 1) : ((k, i, t) ∈ zIDS ∧ ¬ t = 0 ∧ k ≤ 12) ∨ (ty = 0 ∧ (k, i, t) = (13, 0, 0)) ∨ (ty = 0 ∧ (k, i, t) = (14, 0, 0)) ∨ (ty = 1 ∧ (k, i, t) = (15, 0, 1)) := by
  rcases hv with h1 | h1
  · refine Or.inl ⟨h1, fun e => ?_, (zIDS_q h1).1⟩
    have hk := (zIDS_q h1).1
    simp only at hk
    subst e
    rw [zaty_0 k (by omega)] at ht
    omega
  · have h2 : ∀ q ∈ zROI, (zaty q.1 q.2.2 = 0 ∧ q = (13, 0, 0)) ∨ (zaty q.1 q.2.2 = 0 ∧ q = (14, 0, 0)) ∨ (zaty q.1 q.2.2 = 9) ∨ (zaty q.1 q.2.2 = 1 ∧ q = (15, 0, 1)) := by decide +kernel
    rcases h2 _ h1 with ⟨a, b⟩ | ⟨a, b⟩ | a | ⟨a, b⟩
    · exact Or.inr (Or.inl ⟨by rw [← ht]; exact a, b⟩)
    · exact Or.inr (Or.inr (Or.inl ⟨by rw [← ht]; exact a, b⟩))
    · simp only at a
      omega
    · exact Or.inr (Or.inr (Or.inr ⟨by rw [← ht]; exact a, b⟩))
theorem zW_iald (hZ : zAD Z) (hx : p.tables.exec = Jvm.exec) (hb : c.code = cc) (hG : zG Z s) (hd : decode cc pc = .ok (.iaload, 1)) (hs : zaldi (zLn Z) 0 st h = some st') (hH : zHC Z h H) (hS : va_S (zA Z) s.heap H locs) (ho : zSO st)
    (K : zSO st' → W p l e R s m args below meth c H locs cells slots Q (F0 m (pc + 1) lA (st'.map (zcv Z)))) : W p l e R s m args below meth c H locs cells slots Q (F0 m pc lA (st.map (zcv Z))) := by
  unfold zaldi at hs
  split at hs
  · next j k i t r =>
    split at hs
    · next hc =>
      cases hs
      have hin := zIn_ok hc.2
      have hjlt : j.toNatClampNeg < zaln (zLn Z) k i t := Nat.not_le.mp fun q => hin (Or.inr q)
      have K := K (zSO.cons trivial ho.tl.tl)
      rcases zvk_arr ho.tl.hd hc.1 (by omega) with ⟨hm, ht, hk⟩ | ⟨-, hq⟩ | ⟨-, hq⟩ | ⟨hq, -⟩
      · obtain ⟨n, hn⟩ := List.getElem?_of_mem hm
        have he := zws_at (Z := Z) (h := h) hn
        rw [zcell_a ht (by rw [hc.1]; omega), if_pos hc.1] at he
        have e1 : List.map (zcv Z) (Sum.inl j :: Sum.inr (Sum.inl (k, i, t)) :: r) = .int j :: .ref (zad Z k i t) :: r.map (zcv Z) := by rw [List.map_cons, List.map_cons, zcv_ref (by omega)]; rfl
        rw [e1]
        exact va_iald hx hb hG.1 hH.2 n 0 he rfl hin hd K
      · cases hq
        have e0 : h 13 0 0 j.toNatClampNeg = zxs Z j.toNatClampNeg := hH.1.2.1 _ hjlt
        rw [List.map_cons, show zcv Z (.inl (h 13 0 0 j.toNatClampNeg)) = Value.int (h 13 0 0 j.toNatClampNeg) from rfl, e0] at K
        obtain ⟨⟨h1, h2, h3⟩, -⟩ := hG.2.2
        exact va_sld hx hb h1 h2 h3 hS hin hd K
      · cases hq
        have e0 : h 14 0 0 j.toNatClampNeg = zHV j.toNatClampNeg := hH.1.2.2.1 _
        rw [List.map_cons, show zcv Z (.inl (h 14 0 0 j.toNatClampNeg)) = Value.int (h 14 0 0 j.toNatClampNeg) from rfl, e0] at K
        obtain ⟨-, ⟨-, h5⟩, -⟩ := hG.2.2
        exact va_ti hx hb h5 hS hin rfl hd K
      · cases hq
    · cases hs
  · cases hs
theorem zW_bald (hZ : zAD Z) (hx : p.tables.exec = Jvm.exec) (hb : c.code = cc) (hG : zG Z s) (hd : decode cc pc = .ok (.baload, 1)) (hs : zaldi (zLn Z) 1 st h = some st') (hH : zHC Z h H) (hS : va_S (zA Z) s.heap H locs) (ho : zSO st)
    (K : zSO st' → W p l e R s m args below meth c H locs cells slots Q (F0 m (pc + 1) lA (st'.map (zcv Z)))) : W p l e R s m args below meth c H locs cells slots Q (F0 m pc lA (st.map (zcv Z))) := by
  unfold zaldi at hs
  split at hs
  · next j k i t r =>
    split at hs
    · next hc =>
      cases hs
      have hin := zIn_ok hc.2
      have K := K (zSO.cons trivial ho.tl.tl)
      rcases zvk_arr ho.tl.hd hc.1 (by omega) with ⟨hm, ht, hk⟩ | ⟨hq, -⟩ | ⟨hq, -⟩ | ⟨-, hq⟩
      · obtain ⟨n, hn⟩ := List.getElem?_of_mem hm
        have he := zws_at (Z := Z) (h := h) hn
        rw [zcell_a ht (by rw [hc.1]; omega), if_neg (by rw [hc.1]; omega)] at he
        have e1 : List.map (zcv Z) (Sum.inl j :: Sum.inr (Sum.inl (k, i, t)) :: r) = .int j :: .ref (zad Z k i t) :: r.map (zcv Z) := by rw [List.map_cons, List.map_cons, zcv_ref (by omega)]; rfl
        rw [e1]
        exact va_bald hx hb hG.1 hH.2 n 1 he rfl hin hd K
      · cases hq
      · cases hq
      · cases hq
        have e0 : h 15 0 1 j.toNatClampNeg = zWB j.toNatClampNeg := hH.1.2.2.2.1 _
        rw [List.map_cons, show zcv Z (.inl (h 15 0 1 j.toNatClampNeg)) = Value.int (h 15 0 1 j.toNatClampNeg) from rfl, e0] at K
        obtain ⟨-, -, -, -, -, -, -, h12⟩ := hG.2.2
        exact va_tb hx hb h12 hS hin rfl hd K
    · cases hs
  · cases hs
theorem zW_aald (hZ : zAD Z) (hx : p.tables.exec = Jvm.exec) (hb : c.code = cc) (hG : zG Z s) (hd : decode cc pc = .ok (.aaload, 1)) (hs : zalda (zLn Z) st = some st') (hH : zHC Z h H) (hS : va_S (zA Z) s.heap H locs) (ho : zSO st)
    (K : zSO st' → W p l e R s m args below meth c H locs cells slots Q (F0 m (pc + 1) lA (st'.map (zcv Z)))) : W p l e R s m args below meth c H locs cells slots Q (F0 m pc lA (st.map (zcv Z))) := by
  unfold zalda at hs
  split at hs
  · next j k i t r =>
    split at hs
    · next hc =>
      cases hs
      have hin := zIn_ok hc.2
      have hm : (k, i, t) ∈ zIDS := by
        rcases ho.tl.hd with h1 | h1
        · exact h1
        · have h2 : ∀ q ∈ zROI, ¬ zaty q.1 q.2.2 = 2 := by decide +kernel
          exact absurd hc.1 (h2 _ h1)
      have hq := zid_4 _ hm hc.1
      cases hq
      have hlt : j.toNatClampNeg < 6 := Nat.not_le.mp fun q => hin (Or.inr q)
      have K := K (zSO.cons (Or.inl (zid_3 _ (by omega))) ho.tl.tl)
      rw [List.map_cons, zcv_ref (by omega)] at K
      obtain ⟨n, hn⟩ := List.getElem?_of_mem hm
      have he := zws_at (Z := Z) (h := h) hn
      have hce : zcell Z (4, 0, 1) h = .inl (zcM Z, 6, .inr (.inr (.inr (.inr (fun j => some (zad Z 3 (3 + j) 0)))))) := rfl
      rw [hce] at he
      have e1 : List.map (zcv Z) (Sum.inl j :: Sum.inr (Sum.inl (4, 0, 1)) :: r) = .int j :: .ref (zad Z 4 0 1) :: r.map (zcv Z) := by rw [List.map_cons, List.map_cons, zcv_ref (by omega)]; rfl
      rw [e1]
      exact va_aldq hx hb hG.1 hH.2 n 2 he rfl hin hd K
    · cases hs
  · cases hs
theorem zW_iast (hZ : zAD Z) (hx : p.tables.exec = Jvm.exec) (hb : c.code = cc) (hG : zG Z s) (hd : decode cc pc = .ok (.iastore, 1)) (hs : zasti (zLn Z) (pc + 1) ls st h = some (.inl (pc', ls', st', h'))) (hH : zHC Z h H) (hS : va_S (zA Z) s.heap H locs) (ho : zSO st)
    (K : ∀ (H' : Heap) (locs' : List Loc), zHC Z h' H' → va_S (zA Z) s.heap H' locs' → zSO st' → W p l e R s m args below meth c H' locs' cells slots Q (F0 m (pc + 1) lA (st'.map (zcv Z)))) : pc' = pc + 1 ∧ ls' = ls ∧ W p l e R s m args below meth c H locs cells slots Q (F0 m pc lA (st.map (zcv Z))) := by
  unfold zasti at hs
  split at hs
  · next v j k i t r =>
    split at hs
    · next hc =>
      obtain ⟨hc1, hc2, hc3⟩ := hc
      cases hs
      refine ⟨rfl, rfl, ?_⟩
      have hin := zIn_ok hc3
      rcases zvk_arr ho.tl.tl.hd hc1 (by omega) with ⟨hm, ht, hk⟩ | ⟨-, hq⟩ | ⟨-, hq⟩ | ⟨hq, -⟩
      · obtain ⟨n, hn⟩ := List.getElem?_of_mem hm
        have he := zws_at (Z := Z) (h := h) hn
        rw [zcell_a ht (by rw [hc1]; omega), if_pos hc1] at he
        have e1 : List.map (zcv Z) (Sum.inl v :: Sum.inl j :: Sum.inr (Sum.inl (k, i, t)) :: st') = .int v :: .int j :: .ref (zad Z k i t) :: st'.map (zcv Z) := by rw [List.map_cons, List.map_cons, List.map_cons, zcv_ref (by omega)]; rfl
        rw [e1]
        refine va_iast hx hb hG.1 hH.2 (zD_of hZ h) hS n 0 he rfl hin hd (fun H1 locs1 hP1 _ hS1 => ?_)
        have e2 : (upd (h k i t) j.toNatClampNeg v) = zup h k i t j.toNatClampNeg v k i t := by
          funext q
          unfold upd zup
          by_cases hq : q = j.toNatClampNeg <;> simp [hq]
        have e3 := zcell_a (Z := Z) (h := zup h k i t j.toNatClampNeg v) (i := i) ht (by rw [hc1]; omega)
        rw [if_pos hc1] at e3
        rw [e2, ← e3, zws_set (q := (k, i, t)) hn zup_ne] at hP1
        exact K H1 locs1 ⟨zHI_up hk (fun _ b => absurd b ht) hH.1, hP1⟩ hS1 ho.tl.tl.tl
      · cases hq; omega
      · cases hq; omega
      · cases hq
    · cases hs
  · cases hs
theorem zW_bast (hZ : zAD Z) (hx : p.tables.exec = Jvm.exec) (hb : c.code = cc) (hG : zG Z s) (hd : decode cc pc = .ok (.bastore, 1)) (hs : zastb (zLn Z) (pc + 1) ls st h = some (.inl (pc', ls', st', h'))) (hH : zHC Z h H) (hS : va_S (zA Z) s.heap H locs) (ho : zSO st)
    (K : ∀ (H' : Heap) (locs' : List Loc), zHC Z h' H' → va_S (zA Z) s.heap H' locs' → zSO st' → W p l e R s m args below meth c H' locs' cells slots Q (F0 m (pc + 1) lA (st'.map (zcv Z)))) : pc' = pc + 1 ∧ ls' = ls ∧ W p l e R s m args below meth c H locs cells slots Q (F0 m pc lA (st.map (zcv Z))) := by
  unfold zastb at hs
  split at hs
  · next v j k i t r =>
    split at hs
    · next hc =>
      obtain ⟨hc1, hc2, hc3⟩ := hc
      cases hs
      refine ⟨rfl, rfl, ?_⟩
      have hin := zIn_ok hc3
      rcases zvk_arr ho.tl.tl.hd hc1 (by omega) with ⟨hm, ht, hk⟩ | ⟨hq, -⟩ | ⟨hq, -⟩ | ⟨-, hq⟩
      · obtain ⟨n, hn⟩ := List.getElem?_of_mem hm
        have he := zws_at (Z := Z) (h := h) hn
        rw [zcell_a ht (by rw [hc1]; omega), if_neg (by rw [hc1]; omega)] at he
        have e1 : List.map (zcv Z) (Sum.inl v :: Sum.inl j :: Sum.inr (Sum.inl (k, i, t)) :: st') = .int v :: .int j :: .ref (zad Z k i t) :: st'.map (zcv Z) := by rw [List.map_cons, List.map_cons, List.map_cons, zcv_ref (by omega)]; rfl
        rw [e1]
        refine va_bast hx hb hG.1 hH.2 (zD_of hZ h) hS n 1 he rfl hin hd (fun H1 locs1 hP1 _ hS1 => ?_)
        rw [vp_nar_byte] at hP1
        have e2 : (upd (h k i t) j.toNatClampNeg v.toInt8.toInt32) = zup h k i t j.toNatClampNeg v.toInt8.toInt32 k i t := by
          funext q
          unfold upd zup
          by_cases hq : q = j.toNatClampNeg <;> simp [hq]
        have e3 := zcell_a (Z := Z) (h := zup h k i t j.toNatClampNeg v.toInt8.toInt32) (i := i) ht (by rw [hc1]; omega)
        rw [if_neg (by rw [hc1]; omega)] at e3
        rw [e2, ← e3, zws_set (q := (k, i, t)) hn zup_ne] at hP1
        exact K H1 locs1 ⟨zHI_up hk (fun _ b => absurd b ht) hH.1, hP1⟩ hS1 ho.tl.tl.tl
      · cases hq
      · cases hq
      · cases hq; omega
    · cases hs
  · cases hs
theorem zW_alen (hZ : zAD Z) (hx : p.tables.exec = Jvm.exec) (hb : c.code = cc) (hG : zG Z s) (hd : decode cc pc = .ok (.arraylength, 1)) (hs : zalen (zLn Z) st = some st') (hH : zHC Z h H) (hS : va_S (zA Z) s.heap H locs) (ho : zSO st)
    (K : zSO st' → W p l e R s m args below meth c H locs cells slots Q (F0 m (pc + 1) lA (st'.map (zcv Z)))) : W p l e R s m args below meth c H locs cells slots Q (F0 m pc lA (st.map (zcv Z))) := by
  unfold zalen at hs
  split at hs
  · next k i t r =>
    split at hs
    · next hc =>
      cases hs
      have K := K (zSO.cons trivial ho.tl)
      rcases ho.hd with h1 | h1
      · have hk := (zIDS_q h1).1
        simp only at hk
        have ht : ¬ t = 0 := fun e => by subst e; rw [zaty_0 k (by omega)] at hc; omega
        obtain ⟨n, hn⟩ := List.getElem?_of_mem h1
        have he := zws_at (Z := Z) (h := h) hn
        have e1 : List.map (zcv Z) (Sum.inr (Sum.inl (k, i, t)) :: r) = .ref (zad Z k i t) :: r.map (zcv Z) := by rw [List.map_cons, zcv_ref (by omega)]
        rw [e1]
        rcases (by omega : zaty k t = 2 ∨ zaty k t = 0 ∨ zaty k t = 1) with h2 | h0 | h01
        · have hce : zcell Z (k, i, t) h = .inl (zcM Z, zaln (zLn Z) k i t, .inr (.inr (.inr (.inr (fun j => some (zad Z 3 (3 + j) 0)))))) := by unfold zcell; rw [if_neg ht, if_pos h2]
          rw [hce] at he
          exact va_alen hx hb hG.1 hH.2 n 2 he (ty := .object (znm 3)) rfl rfl hd K
        · rw [zcell_a ht (by omega), if_pos h0] at he
          exact va_alen hx hb hG.1 hH.2 n 0 he (ty := .int) rfl rfl hd K
        · rw [zcell_a ht (by omega), if_neg (by omega)] at he
          exact va_alen hx hb hG.1 hH.2 n 1 he (ty := .byte) rfl rfl hd K
      · have h2 : ∀ q ∈ zROI, (q = (13, 0, 0)) ∨ (q = (14, 0, 0)) ∨ (zaty q.1 q.2.2 = 9) ∨ (q = (15, 0, 1)) := by decide +kernel
        rcases h2 _ h1 with hq | hq | hq | hq
        · cases hq
          obtain ⟨⟨g1, g2, g3⟩, -⟩ := hG.2.2
          exact va_slen hx hb g1 g2 g3 hS hd K
        · cases hq
          obtain ⟨-, ⟨-, h5⟩, -⟩ := hG.2.2
          exact va_tlen hx hb h5 hS rfl hd K
        · simp only at hq
          omega
        · cases hq
          obtain ⟨-, -, -, -, -, -, -, h12⟩ := hG.2.2
          exact va_tlen hx hb h12 hS rfl hd K
    · cases hs
  · cases hs
theorem zW_copy (hZ : zAD Z) (hx : p.tables.exec = Jvm.exec) (hb : c.code = cc) (hml : c.maxLocals = lA.size) (hown : s.vm.findClass (znm (zown mi)) = some m.cls) (hts : ∀ w ∈ zGW, w.before args s = true) (hG : zG Z s) (hRf : 1 ≤ R.frames) (hRl : 64 ≤ R.locals) {x : Nat} (hq : zmlk (zown mi) x = some 999) (hd : decode cc pc = .ok (.invokestatic x, 3)) (hs : zcopy (zLn Z) (pc + 3) ls st h = some (.inl (pc', ls', st', h'))) (hH : zHC Z h H) (hS : va_S (zA Z) s.heap H locs) (ho : zSO st)
    (K : ∀ (H' : Heap) (locs' : List Loc), zHC Z h' H' → va_S (zA Z) s.heap H' locs' → zSO st' → W p l e R s m args below meth c H' locs' cells slots Q (F0 m (pc + 3) lA (st'.map (zcv Z)))) : pc' = pc + 3 ∧ ls' = ls ∧ W p l e R s m args below meth c H locs cells slots Q (F0 m pc lA (st.map (zcv Z))) := by
  unfold zcopy at hs
  split at hs
  · next n dp k i t sp k' i' t' r =>
    split at hs
    · next hc =>
      obtain ⟨a1, a2, a3, a4, a5, a6, a7, a8, a9, a10⟩ := hc
      cases hs
      refine ⟨rfl, rfl, ?_⟩
      have hm1 : (k, i, t) ∈ zIDS ∧ ¬ t = 0 := by
        rcases zvk_arr ho.tl.tl.hd a1 (by omega) with ⟨hm, ht, hk⟩ | ⟨-, hq⟩ | ⟨-, hq⟩ | ⟨hq, -⟩
        · exact ⟨hm, ht⟩
        · cases hq; omega
        · cases hq; omega
        · cases hq
      have hm2 : (k', i', t') ∈ zIDS ∧ ¬ t' = 0 := by
        rcases zvk_arr ho.tl.tl.tl.tl.hd a2 (by omega) with ⟨hm, ht, hk⟩ | ⟨-, hq⟩ | ⟨-, hq⟩ | ⟨hq, -⟩
        · exact ⟨hm, ht⟩
        · cases hq; omega
        · cases hq; omega
        · cases hq
      obtain ⟨hm1, ht1⟩ := hm1
      obtain ⟨hm2, ht2⟩ := hm2
      obtain ⟨q1, hn1⟩ := List.getElem?_of_mem hm1
      obtain ⟨q0, hn0⟩ := List.getElem?_of_mem hm2
      have he1 := zws_at (Z := Z) (h := h) hn1
      have he0 := zws_at (Z := Z) (h := h) hn0
      rw [zcell_a ht1 (by omega), if_pos a1] at he1
      rw [zcell_a ht2 (by omega), if_pos a2] at he0
      have e1 : List.map (zcv Z) (Sum.inl n :: Sum.inl dp :: Sum.inr (Sum.inl (k, i, t)) :: Sum.inl sp :: Sum.inr (Sum.inl (k', i', t')) :: st') = .int n :: .int dp :: .ref (zad Z k i t) :: .int sp :: .ref (zad Z k' i' t') :: st'.map (zcv Z) := by rw [List.map_cons, List.map_cons, List.map_cons, List.map_cons, List.map_cons, zcv_ref (k := k) (by omega), zcv_ref (k := k') (by omega)]; rfl
      rw [e1]
      refine va_copyi hx hb hml hown (hts _ (zmlk_999 hq)) (hts _ zw_ac1) (hts _ zw_ac2) (hts _ zw_ac3) hG.1 hH.2 (zD_of hZ h) hS q0 q1 0 0 he0 he1 (ty := .int) rfl rfl rfl a5 a6 a7 a8 a9 (fun _ _ => rfl) hRf ?_ hd (fun H1 locs1 hP1 _ hS1 => ?_)
      · have h1 := zcatsum (Z := Z) st'
        have h2 : nativeFrameWords "java/lang/System" "arraycopy" 5 + 11 ≤ 56 := by decide +kernel
        omega
      · have e3 := zcell_a (Z := Z) (h := zupA h k i t (va_cpy (h k' i' t') (h k i t) sp.toNatClampNeg dp.toNatClampNeg n.toNatClampNeg)) (k := k) (i := i) ht1 (by omega)
        rw [if_pos a1] at e3
        have e4 : zupA h k i t (va_cpy (h k' i' t') (h k i t) sp.toNatClampNeg dp.toNatClampNeg n.toNatClampNeg) k i t = va_cpy (h k' i' t') (h k i t) sp.toNatClampNeg dp.toNatClampNeg n.toNatClampNeg := by
          funext q
          unfold zupA
          rw [if_pos ⟨rfl, rfl, rfl⟩]
        rw [e4] at e3
        rw [← e3, zws_set (q := (k, i, t)) hn1 (fun k2 i2 s2 j2 hne => by
          unfold zupA
          rw [if_neg]
          rintro ⟨rfl, rfl, rfl⟩
          exact hne rfl)] at hP1
        refine K H1 locs1 ⟨?_, hP1⟩ hS1 ho.tl.tl.tl.tl.tl
        obtain ⟨g1, g2, g3, g4, g5⟩ := hH.1
        refine ⟨?_, fun q hq => ?_, fun q => ?_, fun q => ?_, ?_⟩
        all_goals
          unfold zupA
          rw [if_neg (by omega)]
          first | exact g1 | exact g2 _ hq | exact g3 _ | exact g4 _ | exact g5
    · cases hs
  · cases hs
end ZX
