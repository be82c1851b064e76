/-! SOUNDNESS 1: what an abstract state says of a heap -/
abbrev zP : Type := (Nat → Nat → Nat → Nat) × Value × va_G × (ClassId × ClassId × ClassId) × (Nat → Prop) × Nat × (Nat → Int32)
abbrev zad (Z : zP) : Nat → Nat → Nat → Nat := Z.1
abbrev zfv (Z : zP) : Value := Z.2.1
abbrev zD (Z : zP) : va_G := Z.2.2.1
abbrev zcI (Z : zP) : ClassId := Z.2.2.2.1.1
abbrev zcB (Z : zP) : ClassId := Z.2.2.2.1.2.1
abbrev zcM (Z : zP) : ClassId := Z.2.2.2.1.2.2
abbrev zA (Z : zP) : Nat → Prop := Z.2.2.2.2.1
abbrev zLn (Z : zP) : Nat := Z.2.2.2.2.2.1
abbrev zxs (Z : zP) : Nat → Int32 := Z.2.2.2.2.2.2
def zcv (Z : zP) (v : zV) : Value := match v with
  | .inl x => .int x
  | .inr (.inl q) => if q.1 = 16 then zfv Z else .ref (zad Z q.1 q.2.1 q.2.2)
  | .inr (.inr x) => .long x
def zfval (Z : zP) (k i : Nat) (h : zH) (f : Nat) : Value := match zfty k f with
  | 2 => .ref (zad Z (ztgt k i f).1 (ztgt k i f).2.1 (ztgt k i f).2.2)
  | 3 => .ref (zad Z 3 (h k i 0 f).toNatClampNeg 0)
  | _ => .int (h k i 0 f)
def zcell (Z : zP) (q : Nat × Nat × Nat) (h : zH) : va_E :=
  if q.2.2 = 0 then .inr (q.1, (List.range (znf q.1)).map (zfval Z q.1 q.2.1 h))
  else if zaty q.1 q.2.2 = 2 then .inl (zcM Z, zaln (zLn Z) q.1 q.2.1 q.2.2, .inr (.inr (.inr (.inr (fun j => some (zad Z 3 (3 + j) 0))))))
  else .inl (if zaty q.1 q.2.2 = 0 then zcI Z else zcB Z, zaln (zLn Z) q.1 q.2.1 q.2.2, .inl (h q.1 q.2.1 q.2.2))
def zws (Z : zP) (h : zH) : va_W := zIDS.map fun q => (zad Z q.1 q.2.1 q.2.2, zcell Z q h)
def ztys (Z : zP) : List (ClassId × FieldType) := [(zcI Z, .int), (zcB Z, .byte), (zcM Z, .object (znm 3))]
def zHV (j : Nat) : Int32 := [0, 1, 2, 3, 1, 4, 3, 2, 1, 4, 2, 6, 4, 1, 2, 7, 1, 4, 3, 2, 1].getD j 0
def zTX : String := "trait own other grip price worth spirit shook purse kin day passes holds asks when or and not on person horse at glove bare sling pay cold "
def zWB (j : Nat) : Int32 := ([116, 114, 97, 105, 116, 32, 111, 119, 110, 32, 111, 116, 104, 101, 114, 32, 103, 114, 105, 112, 32, 112, 114, 105, 99, 101, 32, 119, 111, 114, 116, 104, 32, 115, 112, 105, 114, 105, 116, 32, 115, 104, 111, 111, 107, 32, 112, 117, 114, 115, 101, 32, 107, 105, 110, 32, 100, 97, 121, 32, 112, 97, 115, 115, 101, 115, 32, 104, 111, 108, 100, 115, 32, 97, 115, 107, 115, 32, 119, 104, 101, 110, 32, 111, 114, 32, 97, 110, 100, 32, 110, 111, 116, 32, 111, 110, 32, 112, 101, 114, 115, 111, 110, 32, 104, 111, 114, 115, 101, 32, 97, 116, 32, 103, 108, 111, 118, 101, 32, 98, 97, 114, 101, 32, 115, 108, 105, 110, 103, 32, 112, 97, 121, 32, 99, 111, 108, 100, 32] : List Int32).getD j 0
def zRO (Z : zP) (U : State) (H : Heap) : Prop :=
  (va_X (zad Z 13 0 0) (zLn Z) (zxs Z) U H ∧ zad Z 13 0 0 < H.size ∧ ¬ zA Z (zad Z 13 0 0)) ∧ (va_Z "ClaspedFair$Puzzles" "HEAP" "[I" (.ref (zad Z 14 0 0)) (zA Z) U H ∧ va_T .int (zad Z 14 0 0) 21 (fun j => .int (zHV j)) (zA Z) U H) ∧
  (va_Z "java/lang/String" "COMPACT_STRINGS" "Z" (.int 1) (zA Z) U H ∧ va_Z "jdk/internal/util/Preconditions" "SIOOBE_FORMATTER" "Ljava/util/function/BiFunction;" (zfv Z) (zA Z) U H) ∧
  vk_R "ClaspedFair$Tape" 48 zTX (zad Z 15 0 0) U ∧ va_O "java/lang/String" (zad Z 15 0 0) (zA Z) U H ∧ va_OF "java/lang/String" "coder" "B" (.int 0) (zad Z 15 0 0) (zA Z) U H ∧ va_OF "java/lang/String" "value" "[B" (.ref (zad Z 15 0 1)) (zad Z 15 0 0) (zA Z) U H ∧ va_T .byte (zad Z 15 0 1) 139 (fun j => .int (zWB j)) (zA Z) U H
def zG (Z : zP) (U : State) : Prop := va_K (zD Z) zcl (ztys Z) U ∧ (∀ w ∈ lw_tbl, zisN w = true → va_Nw w U) ∧ zRO Z U U.heap
def zHI (Z : zP) (h : zH) : Prop := (h 9 0 0 4).toNatClampNeg < 9 ∧ (∀ j, j < zLn Z → h 13 0 0 j = zxs Z j) ∧ (∀ j, h 14 0 0 j = zHV j) ∧ (∀ j, h 15 0 1 j = zWB j) ∧ h 15 0 0 1 = 0
def zHC (Z : zP) (h : zH) (H : Heap) : Prop := zHI Z h ∧ va_P (zD Z) zcl (zws Z h) H
/-- the addresses: apart where something is written -/
def zAD (Z : zP) : Prop := (∀ (i j : Nat) (p q : Nat × Nat × Nat), zIDS[i]? = some p → zIDS[j]? = some q → zad Z p.1 p.2.1 p.2.2 = zad Z q.1 q.2.1 q.2.2 → i = j) ∧ (∀ q ∈ zIDS, zA Z (zad Z q.1 q.2.1 q.2.2)) ∧ (zfv Z = .null ∨ ∃ t, zfv Z = .ref t)
def zROI : List (Nat × Nat × Nat) := [(13, 0, 0), (14, 0, 0), (15, 0, 0), (15, 0, 1), (16, 0, 0)]
def zvok (v : zV) : Prop := match v with
  | .inr (.inl q) => q ∈ zIDS ∨ q ∈ zROI
  | _ => True
def zLV (Z : zP) (nL : Nat) (ls : zLS) (lA : Array Slot) : Prop := lA.size = nL ∧ lv_wf lA ∧ ls.length = nL ∧ (∀ (i : Nat) (v : zV), ls[i]? = some (some v) → lA[i]? = some (.val (zcv Z v)) ∧ zvok v)
def zSO (st : List zV) : Prop := ∀ v ∈ st, zvok v
theorem zws_at {Z : zP} {h : zH} {n : Nat} {q : Nat × Nat × Nat} (hn : zIDS[n]? = some q) : (zws Z h)[n]? = some (zad Z q.1 q.2.1 q.2.2, zcell Z q h) := by
  unfold zws
  rw [List.getElem?_map, hn]
  rfl
theorem zD_of {Z : zP} (hZ : zAD Z) (h : zH) : va_D (zA Z) (zws Z h) := by
  have key : ∀ (n : Nat) (x : Nat × va_E), (zws Z h)[n]? = some x → ∃ q, zIDS[n]? = some q ∧ x.1 = zad Z q.1 q.2.1 q.2.2 := by
    intro n x hx
    unfold zws at hx
    rw [List.getElem?_map] at hx
    cases hq : zIDS[n]? with
    | none => rw [hq] at hx; cases hx
    | some q => rw [hq] at hx; cases hx; exact ⟨q, rfl, rfl⟩
  refine ⟨fun i j x y hi hj e => ?_, fun n x hx => ?_⟩
  · obtain ⟨q, h1, h2⟩ := key i x hi
    obtain ⟨q', h3, h4⟩ := key j y hj
    exact hZ.1 i j q q' h1 h3 (by rw [← h2, ← h4]; exact e)
  · obtain ⟨q, h1, h2⟩ := key n x hx
    rw [h2]
    exact hZ.2.1 q (List.mem_of_getElem? h1)
theorem zcell_ne {Z : zP} {h h' : zH} {q : Nat × Nat × Nat} (e : ∀ j, h' q.1 q.2.1 q.2.2 j = h q.1 q.2.1 q.2.2 j) : zcell Z q h' = zcell Z q h := by
  obtain ⟨k, i, s⟩ := q
  unfold zcell
  by_cases hs : s = 0
  · subst hs
    simp only [if_true]
    congr 2
    apply List.map_congr_left
    intro f _
    unfold zfval
    simp only at e
    rw [e f]
  · simp only [hs, if_false]
    have : h' k i s = h k i s := funext e
    rw [this]
theorem zws_set {Z : zP} {h h' : zH} {n : Nat} {q : Nat × Nat × Nat} (hn : zIDS[n]? = some q) (hne : ∀ k i s j, (k, i, s) ≠ q → h' k i s j = h k i s j) : (zws Z h).set n (zad Z q.1 q.2.1 q.2.2, zcell Z q h') = zws Z h' := by
  apply List.ext_getElem?
  intro j
  rw [List.getElem?_set]
  by_cases hj : n = j
  · subst hj
    rw [if_pos rfl, zws_at (h := h') hn]
    have : n < (zws Z h).length := by
      unfold zws
      rw [List.length_map]
      exact (List.getElem?_eq_some_iff.mp hn).1
    rw [if_pos this]
  · rw [if_neg hj]
    unfold zws
    rw [List.getElem?_map, List.getElem?_map]
    cases hq : zIDS[j]? with
    | none => rfl
    | some q' =>
      have hqq : q' ≠ q := by
        intro e
        subst e
        exact hj ((List.getElem?_inj (List.getElem?_eq_some_iff.mp hn).1 zIDS_nd).mp (hn.trans hq.symm))
      have e9 : zcell Z q' h' = zcell Z q' h := zcell_ne (fun j => hne _ _ _ j (by simpa using hqq))
      show some (zad Z q'.1 q'.2.1 q'.2.2, zcell Z q' h) = some (zad Z q'.1 q'.2.1 q'.2.2, zcell Z q' h')
      rw [e9]
theorem zRO.moved {Z : zP} {u U : State} {H : Heap} (hvm : u.vm.Alike U.vm) (hW : ∀ a, vk_R "ClaspedFair$Tape" 48 zTX a u → vk_R "ClaspedFair$Tape" 48 zTX a U) (h : zRO Z u H) : zRO Z U H := by
  obtain ⟨⟨h1, h2, h3⟩, ⟨h4, h5⟩, ⟨h6, h7⟩, h8, h9, h10, h11, h12⟩ := h
  exact ⟨⟨h1.moved hvm, h2, h3⟩, ⟨h4.moved hvm, h5.moved hvm⟩, ⟨h6.moved hvm, h7.moved hvm⟩, hW _ h8, h9.moved hvm, h10.moved hvm, h11.moved hvm, h12.moved hvm⟩
theorem zRO.kept {Z : zP} {U : State} {H H1 : Heap} (hz : H.size ≤ H1.size) (hq : ∀ a : Nat, a < H.size → ¬ zA Z a → H1[a]? = H[a]?) (h : zRO Z U H) : zRO Z U H1 := by
  obtain ⟨⟨h1, h2, h3⟩, ⟨h4, h5⟩, ⟨h6, h7⟩, h8, h9, h10, h11, h12⟩ := h
  exact ⟨⟨h1.kept (hq _ h2 h3), Nat.lt_of_lt_of_le h2 hz, h3⟩, ⟨h4.kept hq, h5.kept hq⟩, ⟨h6.kept hq, h7.kept hq⟩, h8, h9.kept hq, h10.kept hq, h11.kept hq, h12.kept hq⟩
/-- from a caller's state to a callee's -/
theorem zG.to {Z : zP} {s U : State} {H : Heap} {locs : List Loc} (h : zG Z s) (hS : va_S (zA Z) s.heap H locs) (hU : U.heap = H) (hW : s.WarmedH U.vm) : zG Z U := by
  obtain ⟨h1, h2, h3⟩ := h
  refine ⟨va_K.moved hW.alike h1, fun w hw hn => ?_, ?_⟩
  · have h4 := h2 w hw hn
    cases w with
    | fieldLinkNest a i b n d o => exact va_Nw.warmF hW h4
    | methodLinkNest a i y o => exact va_Nw.warmM hW h4
    | _ => cases hn
  · rw [hU]
    exact (h3.kept hS.1 hS.2.1).moved hW.alike (fun a q => vk_R.warm hW q)
theorem zG.same {Z : zP} {u U : State} (hv : U.vm = u.vm) (hh : U.heap = u.heap) (h : zG Z u) : zG Z U := by
  obtain ⟨h1, h2, h3⟩ := h
  have al : u.vm.Alike U.vm := by rw [hv]; exact Vm.Alike.refl _
  refine ⟨va_K.moved al h1, fun w hw hn => ?_, ?_⟩
  · have h4 := h2 w hw hn
    cases w with
    | fieldLinkNest a i b n d o => exact va_Nw.same rfl hv.symm h4
    | methodLinkNest a i y o => exact va_Nw.same rfl hv.symm h4
    | _ => cases hn
  · rw [hh]
    exact h3.moved al (fun a q => vk_R.same hv q)
/-! SOUNDNESS 2: what the tables give -/
def zGW : List Cond := lw_tbl.filter goodWord
theorem zat_in {n : Nat} {w : Cond} (h : zat n w = true) : w ∈ zGW := by
  unfold zat at h
  rw [Bool.and_eq_true] at h
  exact List.mem_filter.mpr ⟨List.mem_of_getElem? (of_decide_eq_true h.1), h.2⟩
theorem zrange {n : Nat} {f : Nat → Bool} (h : (List.range n).all f = true) {j : Nat} (hj : j < n) : f j = true := List.all_eq_true.mp h j (List.mem_range.mpr hj)
theorem zflk_ok {o x k f : Nat} (h : zflk o x = some (k, f)) : (k = 15 ∧ o = 15 ∧ Cond.fieldLink "java/lang/String" x "java/lang/String" (if f = 0 then "value" else "coder") (if f = 0 then "[B" else "B") ∈ zGW) ∨
    (k < 13 ∧ f < znf k ∧ (Cond.fieldLinkNest (znm o) x (zT (zfd_ k) f).1 (zT (zfd_ k) f).2.1 (zT (zfd_ k) f).2.2.1 "ClaspedFair" ∈ lw_tbl ∨ Cond.fieldLink (znm o) x (zT (zfd_ k) f).1 (zT (zfd_ k) f).2.1 (zT (zfd_ k) f).2.2.1 ∈ zGW)) := by
  unfold zflk at h
  split at h
  · next q hq =>
    have hm := List.mem_of_find?_eq_some hq
    have hb := List.find?_some hq
    rw [Bool.and_eq_true] at hb
    have e1 := Nat.eq_of_beq_eq_true hb.1
    have e2 := Nat.eq_of_beq_eq_true hb.2
    obtain ⟨q1, q2, q3⟩ := q
    cases h
    simp only at e1 e2
    subst e1; subst e2
    obtain ⟨j, hj⟩ := List.getElem?_of_mem hm
    have hk := zrange zL_ok (List.getElem?_eq_some_iff.mp hj).1
    unfold zokL at hk
    rw [hj] at hk
    simp only at hk
    split at hk
    · next h15 =>
      rw [Bool.and_eq_true] at hk
      exact Or.inl ⟨h15, of_decide_eq_true hk.1, zat_in hk.2⟩
    · rw [Bool.and_eq_true, Bool.and_eq_true] at hk
      refine Or.inr ⟨of_decide_eq_true hk.1.1, of_decide_eq_true hk.1.2, ?_⟩
      have hk := hk.2
      split at hk
      · exact Or.inl (List.mem_of_getElem? (of_decide_eq_true hk))
      · exact Or.inr (zat_in hk)
  · cases h
theorem zmlk_ok {o x m : Nat} (h : zmlk o x = some m) : ∃ j, zMLK[j]? = some (o, x, m) ∧ zokC j = true := by
  unfold zmlk at h
  split at h
  · next q hq =>
    have hm := List.mem_of_find?_eq_some hq
    have hb := List.find?_some hq
    rw [Bool.and_eq_true] at hb
    have e1 := Nat.eq_of_beq_eq_true hb.1
    have e2 := Nat.eq_of_beq_eq_true hb.2
    obtain ⟨q1, q2, q3⟩ := q
    cases h
    simp only at e1 e2
    subst e1; subst e2
    obtain ⟨j, hj⟩ := List.getElem?_of_mem hm
    have hlen : zMLK.length = 353 := by decide +kernel
    have hjl : j < zMLK.length := (List.getElem?_eq_some_iff.mp hj).1
    rw [hlen] at hjl
    exact ⟨j, hj, zC_ok j hjl⟩
  · cases h
theorem zmlk_m {o x m : Nat} (h : zmlk o x = some m) (hm : m < 900) : Cond.methodLinkNest (znm o) x (zy m) "ClaspedFair" ∈ lw_tbl ∨ Cond.methodLink (znm o) x (zy m) ∈ zGW := by
  obtain ⟨j, hj, hk⟩ := zmlk_ok h
  unfold zokC at hk
  rw [hj] at hk
  simp only at hk
  rw [if_pos hm] at hk
  split at hk
  · exact Or.inl (List.mem_of_getElem? (of_decide_eq_true hk))
  · exact Or.inr (zat_in hk)
theorem zmlk_999 {o x : Nat} (h : zmlk o x = some 999) : Cond.methodLink (znm o) x arraycopyName ∈ zGW := by
  obtain ⟨j, hj, hk⟩ := zmlk_ok h
  unfold zokC at hk
  rw [hj] at hk
  exact zat_in hk
theorem zmlk_997 {o x : Nat} (h : zmlk o x = some 997) : Cond.methodLink (znm o) x Lib.Math.max.name ∈ zGW := by
  obtain ⟨j, hj, hk⟩ := zmlk_ok h
  unfold zokC at hk
  rw [hj] at hk
  exact zat_in hk
theorem zmlk_996 {o x : Nat} (h : zmlk o x = some 996) : Cond.methodLink (znm o) x Lib.Math.min.name ∈ zGW := by
  obtain ⟨j, hj, hk⟩ := zmlk_ok h
  unfold zokC at hk
  rw [hj] at hk
  exact zat_in hk
theorem zmlk_995 {o x : Nat} (h : zmlk o x = some 995) : Cond.methodLink (znm o) x Lib.Math.abs.name ∈ zGW := by
  obtain ⟨j, hj, hk⟩ := zmlk_ok h
  unfold zokC at hk
  rw [hj] at hk
  exact zat_in hk
theorem zclk_ok {o x : Nat} {v : Int32} (h : zclk o x = some v) : Cond.constant (znm o) x v ∈ zGW := by
  unfold zclk at h
  split at h
  · next q hq =>
    have hm := List.mem_of_find?_eq_some hq
    have hb := List.find?_some hq
    rw [Bool.and_eq_true] at hb
    have e1 := Nat.eq_of_beq_eq_true hb.1
    have e2 := Nat.eq_of_beq_eq_true hb.2
    obtain ⟨q1, q2, q3⟩ := q
    cases h
    simp only at e1 e2
    subst e1; subst e2
    obtain ⟨j, hj⟩ := List.getElem?_of_mem hm
    have hk := zrange zK_ok (List.getElem?_eq_some_iff.mp hj).1
    unfold zokK at hk
    rw [hj] at hk
    exact zat_in hk
  · cases h
theorem zllk_ok {o x : Nat} {v : Int64} (h : zllk o x = some v) : Cond.constantLong (znm o) x v ∈ zGW := by
  unfold zllk at h
  split at h
  · next q hq =>
    have hm := List.mem_of_find?_eq_some hq
    have hb := List.find?_some hq
    rw [Bool.and_eq_true] at hb
    have e1 := Nat.eq_of_beq_eq_true hb.1
    have e2 := Nat.eq_of_beq_eq_true hb.2
    obtain ⟨q1, q2, q3⟩ := q
    cases h
    simp only at e1 e2
    subst e1; subst e2
    obtain ⟨j, hj⟩ := List.getElem?_of_mem hm
    have hk := zrange zQ_ok (List.getElem?_eq_some_iff.mp hj).1
    unfold zokQ at hk
    rw [hj] at hk
    exact zat_in hk
  · cases h
theorem zin_k {k : Nat} (hk : k < 13) : ∀ w ∈ u_ws (znm k) (zT (zfd_ k)) (znf k), w ∈ zGW := by
  intro w hw
  unfold u_ws at hw
  obtain ⟨f, hf, rfl⟩ := List.mem_map.mp hw
  have h := zrange zF_ok hk
  unfold zokF at h
  exact zat_in (zrange h (List.mem_range.mp hf))
theorem zcl_at {k : Nat} (hk : k < 13) : zcl[k]? = some (znm k, zT (zfd_ k), znf k) := by
  unfold zcl
  rw [List.getElem?_map, List.getElem?_range hk]
  rfl
def zty0 (k f : Nat) : FieldType := (parseFieldDescriptor (zT (zfd_ k) f).2.2.1).getD .int
theorem zty_ok {k : Nat} (hk : k < 13) : ∀ f, f < znf k → parseFieldDescriptor (zT (zfd_ k) f).2.2.1 = some (zty0 k f) := by
  intro f hf
  have h := zrange (zrange zT_ok hk) hf
  unfold zty0
  cases hp : parseFieldDescriptor (zT (zfd_ k) f).2.2.1 with
  | none => rw [hp] at h; cases h
  | some t => rfl
theorem znm_ok {k : Nat} (hk : k < 13) : ∀ a, a < znf k → ∀ b, b < znf k → a ≠ b → (zT (zfd_ k) a).2.1 ≠ (zT (zfd_ k) b).2.1 := by
  intro a ha b hb hne
  have h := zrange (zrange (zrange zN_ok hk) ha) hb
  rcases Bool.or_eq_true _ _ ▸ h with h | h
  · exact absurd (of_decide_eq_true h) hne
  · exact of_decide_eq_true h
/-- the type of a field that can be written -/
theorem zty_w {k f : Nat} (hk : k < 13) (hf : f < znf k) : (zfty k f = 0 → parseFieldDescriptor (zT (zfd_ k) f).2.2.1 = some .int ∧ (zT (zfd_ k) f).2.2.2 = false) ∧ (zfty k f = 1 → parseFieldDescriptor (zT (zfd_ k) f).2.2.1 = some .boolean ∧ (zT (zfd_ k) f).2.2.2 = false) ∧ (zfty k f = 3 → parseFieldDescriptor (zT (zfd_ k) f).2.2.1 = some (.object (znm 3)) ∧ (zT (zfd_ k) f).2.2.2 = false) := by
  have h := zrange (zrange zT_ok hk) hf
  cases hp : parseFieldDescriptor (zT (zfd_ k) f).2.2.1 with
  | none => rw [hp] at h; cases h
  | some t =>
    rw [hp] at h
    cases t with
    | int =>
      simp only [Bool.or_eq_true, Bool.and_eq_true, decide_eq_true_eq, Bool.not_eq_true'] at h
      refine ⟨fun e => ⟨rfl, ?_⟩, fun e => ?_, fun e => ?_⟩
      · rcases h with h | h
        · omega
        · exact h.2
      · rcases h with h | h
        · omega
        · omega
      · rcases h with h | h
        · omega
        · omega
    | boolean =>
      simp only [Bool.and_eq_true, decide_eq_true_eq, Bool.not_eq_true'] at h
      refine ⟨fun e => ?_, fun e => ⟨rfl, h.2⟩, fun e => ?_⟩
      · omega
      · omega
    | object c =>
      simp only [Bool.or_eq_true, Bool.and_eq_true, decide_eq_true_eq, Bool.not_eq_true'] at h
      refine ⟨fun e => ?_, fun e => ?_, fun e => ?_⟩
      · omega
      · omega
      · rcases h with h | h
        · rw [h.2]; exact ⟨rfl, h.1.2⟩
        · omega
    | array t =>
      simp only [decide_eq_true_eq] at h
      refine ⟨fun e => ?_, fun e => ?_, fun e => ?_⟩ <;> omega
    | _ => cases h
theorem zIDS_q {q : Nat × Nat × Nat} (h : q ∈ zIDS) : q.1 ≤ 12 ∧ (q.2.2 = 0 ∨ zaty q.1 q.2.2 ≤ 2) ∧ (q.2.2 = 0 → q.2.1 < zNIN.getD q.1 0 ∧ ∀ f, f < znf q.1 → zfty q.1 f = 2 → ztgt q.1 q.2.1 f ∈ zIDS) := by
  have h1 := List.all_eq_true.mp zIDS_ok q h
  simp only [Bool.and_eq_true, Bool.or_eq_true, decide_eq_true_eq, Bool.not_eq_true', decide_eq_false_iff_not] at h1
  refine ⟨h1.1.1, h1.1.2, fun e => ?_⟩
  rcases h1.2 with h2 | h2
  · exact absurd e h2
  · refine ⟨h2.1, fun f hf e2 => ?_⟩
    have h3 := zrange h2.2 hf
    simp only [Bool.or_eq_true, decide_eq_true_eq, Bool.not_eq_true', decide_eq_false_iff_not] at h3
    rcases h3 with h3 | h3
    · exact absurd e2 h3
    · exact h3
theorem zaty_0 : ∀ k, k < 13 → zaty k 0 = 9 := by decide +kernel
theorem zfty_3 : ∀ k, k < 13 → ∀ f, f < znf k → zfty k f = 3 → k = 9 ∧ f = 4 := by decide +kernel
theorem zid_9 : ∀ q ∈ zIDS, q.1 = 9 → q.2.1 = 0 := by decide +kernel
theorem zid_3 : ∀ i, i < 9 → (3, i, 0) ∈ zIDS := by decide +kernel
theorem zid_4 : ∀ q ∈ zIDS, zaty q.1 q.2.2 = 2 → q = (4, 0, 1) := by decide +kernel
theorem zid_s : ∀ q ∈ zIDS, q.2.2 = 0 ∨ zaty q.1 q.2.2 = 0 ∨ zaty q.1 q.2.2 = 1 ∨ q = (4, 0, 1) := by decide +kernel
/-! SOUNDNESS 3: locals -/
theorem zlg_at {ls : zLS} {i : Nat} {v : zV} (h : zlg ls i = some v) : ls[i]? = some (some v) := by
  unfold zlg at h
  split at h
  · next w hw => cases h; exact hw
  · cases h
theorem zcat1 {Z : zP} (hZ : zAD Z) (q : Nat × Nat × Nat) : (zcv Z (.inr (.inl q))).category = 1 := by
  show (if q.1 = 16 then zfv Z else Value.ref _).category = 1
  split
  · rcases hZ.2.2 with h | ⟨t, h⟩ <;> rw [h] <;> rfl
  · rfl
theorem zcv_ref {Z : zP} {k i s : Nat} (h : k ≤ 15) : zcv Z (.inr (.inl (k, i, s))) = .ref (zad Z k i s) := by
  show (if k = 16 then zfv Z else Value.ref _) = _
  rw [if_neg (by omega)]
def zlv (Z : zP) (ls : zLS) : List (Nat × Value) := (List.range ls.length).filterMap fun i => match ls[i]? with
  | some (some v) => some (i, zcv Z v)
  | _ => none
theorem zlv_mem {Z : zP} {ls : zLS} {q : Nat × Value} : q ∈ zlv Z ls ↔ ∃ (i : Nat) (v : zV), ls[i]? = some (some v) ∧ q = (i, zcv Z v) := by
  unfold zlv
  rw [List.mem_filterMap]
  constructor
  · rintro ⟨i, hi, h⟩
    split at h
    · next v hv => cases h; exact ⟨i, v, hv, rfl⟩
    · cases h
  · rintro ⟨i, v, hv, rfl⟩
    refine ⟨i, List.mem_range.mpr (List.getElem?_eq_some_iff.mp hv).1, ?_⟩
    rw [hv]
theorem zLV.has {Z : zP} {nL : Nat} {ls : zLS} {lA : Array Slot} (h : zLV Z nL ls lA) : lv_has lA nL (zlv Z ls) := by
  refine ⟨h.1, h.2.1, fun q hq => ?_⟩
  obtain ⟨i, v, hv, rfl⟩ := zlv_mem.mp hq
  exact (h.2.2.2 i v hv).1
theorem znotL_cat {Z : zP} (hZ : zAD Z) {ls : zLS} {i j : Nat} {v : zV} (h : znotL ls i = true) (hj : j + 1 = i) (hv : ls[j]? = some (some v)) : ¬ (zcv Z v).category = 2 := by
  subst hj
  unfold znotL at h
  simp only at h
  rw [hv] at h
  obtain x | q | x := v
  · exact fun e => by cases e
  · rw [zcat1 hZ]; exact fun e => by cases e
  · cases h
def zNL (m : Nat) (ls : zLS) : Prop := zhl m = false → ∀ (i : Nat) (x : Int64), ¬ ls[i]? = some (some (.inr (.inr x)))
theorem zlsI_ok {Z : zP} (hZ : zAD Z) {nL m : Nat} {ls ls' : zLS} (hm : zNL m ls) {lA lA' : Array Slot} {i : Nat} {v : zV} (h : zLV Z nL ls lA) (hv : zvok v) (e : zlsJ m ls i v = some ls') (h' : lv_has lA' nL ((i, zcv Z v) :: (zlv Z ls).filter (fun q => !(q.1 == i) && !(q.1 + 1 == i && q.2.category == 2)))) : zLV Z nL ls' lA' := by
  unfold zlsJ at e
  split at e
  · next hc =>
    cases e
    refine ⟨h'.1, h'.2.1, by rw [List.length_set]; exact h.2.2.1, fun j w hw => ?_⟩
    rw [List.getElem?_set] at hw
    by_cases hj : i = j
    · subst hj
      rw [if_pos rfl] at hw
      split at hw
      · cases hw
        exact ⟨h'.2.2 _ List.mem_cons_self, hv⟩
      · cases hw
    · rw [if_neg hj] at hw
      refine ⟨h'.2.2 (j, zcv Z w) (List.mem_cons_of_mem _ (List.mem_filter.mpr ⟨zlv_mem.mpr ⟨j, w, hw, rfl⟩, ?_⟩)), (h.2.2.2 j w hw).2⟩
      have h1 : (j == i) = false := by simpa using fun e => hj e.symm
      simp only [h1, Bool.not_false, Bool.true_and, Bool.not_eq_true', Bool.and_eq_false_iff]
      by_cases hj2 : j + 1 = i
      · rcases hc.2 with hc2 | hc2
        · refine Or.inr ?_
          have hn2 := hm hc2 j
          obtain y | q | y := w
          · rfl
          · rw [zcat1 hZ q]; rfl
          · exact absurd hw (hn2 y)
        · exact Or.inr (by simpa using znotL_cat hZ hc2 hj2 hw)
      · exact Or.inl (by simpa using hj2)
  · cases e
theorem zNL.set {m : Nat} {ls ls' : zLS} {i : Nat} {v : zV} (h : zNL m ls) (hv : znl v = true) (e : zlsJ m ls i v = some ls') : zNL m ls' := by
  unfold zlsJ at e
  split at e
  · cases e
    intro hm j x hj
    rw [List.getElem?_set] at hj
    split at hj
    · split at hj
      · cases hj
        cases hv
      · cases hj
    · exact h hm j x hj
  · cases e
theorem zlsL_ok {Z : zP} (hZ : zAD Z) {nL : Nat} {ls ls' : zLS} {lA lA' : Array Slot} {i : Nat} {x : Int64} (h : zLV Z nL ls lA) (e : zlsL ls i x = some ls') (h' : lv_has lA' nL ((i, Value.long x) :: (zlv Z ls).filter (fun q => !(q.1 == i) && (!(q.1 == i + 1) && !(q.1 + 1 == i && q.2.category == 2))))) : zLV Z nL ls' lA' := by
  unfold zlsL at e
  split at e
  · next hc =>
    cases e
    refine ⟨h'.1, h'.2.1, by rw [List.length_set, List.length_set]; exact h.2.2.1, fun j w hw => ?_⟩
    rw [List.getElem?_set] at hw
    by_cases hj1 : i + 1 = j
    · rw [if_pos hj1] at hw
      split at hw <;> cases hw
    · rw [if_neg hj1, List.getElem?_set] at hw
      by_cases hj : i = j
      · subst hj
        rw [if_pos rfl] at hw
        split at hw
        · cases hw
          exact ⟨h'.2.2 _ List.mem_cons_self, trivial⟩
        · cases hw
      · rw [if_neg hj] at hw
        refine ⟨h'.2.2 (j, zcv Z w) (List.mem_cons_of_mem _ (List.mem_filter.mpr ⟨zlv_mem.mpr ⟨j, w, hw, rfl⟩, ?_⟩)), (h.2.2.2 j w hw).2⟩
        have h1 : (j == i) = false := by simpa using fun e => hj e.symm
        have h2 : (j == i + 1) = false := by simpa using fun e => hj1 e.symm
        simp only [h1, h2, Bool.not_false, Bool.true_and, Bool.not_eq_true', Bool.and_eq_false_iff]
        by_cases hj2 : j + 1 = i
        · exact Or.inr (by simpa using znotL_cat hZ hc.2 hj2 hw)
        · exact Or.inl (by simpa using hj2)
  · cases e
theorem zlsI_lt {m : Nat} {ls ls' : zLS} {i : Nat} {v : zV} (e : zlsJ m ls i v = some ls') : i < ls.length := by
  unfold zlsJ at e
  split at e
  · next hc => exact hc.1
  · cases e
theorem zlsL_lt {ls ls' : zLS} {i : Nat} {x : Int64} (e : zlsL ls i x = some ls') : i + 1 < ls.length := by
  unfold zlsL at e
  split at e
  · next hc => exact hc.1
  · cases e
theorem zjt_ok {pc t : Nat} {off : Int} (h : zjt pc off = some t) : (pc : Int) + off = (t : Int) := by
  unfold zjt at h
  split at h
  · next n hn => cases h; exact hn
  · cases h
theorem znx_inv {pc pc' : Nat} {ls ls' : zLS} {h h' : zH} {o : Option (List zV)} {st' : List zV} (e : znx pc ls h o = some (.inl (pc', ls', st', h'))) : o = some st' ∧ pc' = pc ∧ ls' = ls ∧ h' = h := by
  unfold znx at e
  split at e
  · cases e; exact ⟨rfl, rfl, rfl, rfl⟩
  · cases e
theorem zop2_inv {st st' : List zV} {f : Int32 → Int32 → Option zV} (e : zop2 st f = some st') : ∃ (x y : Int32) (r : List zV) (v : zV), st = .inl y :: .inl x :: r ∧ f x y = some v ∧ st' = v :: r := by
  unfold zop2 at e
  split at e
  · next y x r =>
    split at e
    · next v hv => cases e; exact ⟨x, y, r, v, rfl, hv, rfl⟩
    · cases e
  · cases e
theorem zop1_inv {st st' : List zV} {f : Int32 → Option zV} (e : zop1 st f = some st') : ∃ (x : Int32) (r : List zV) (v : zV), st = .inl x :: r ∧ f x = some v ∧ st' = v :: r := by
  unfold zop1 at e
  split at e
  · next x r =>
    split at e
    · next v hv => cases e; exact ⟨x, r, v, rfl, hv, rfl⟩
    · cases e
  · cases e
theorem zopL_inv {st st' : List zV} {f : Int64 → Int64 → Option zV} (e : zopL st f = some st') : ∃ (x y : Int64) (r : List zV) (v : zV), st = .inr (.inr y) :: .inr (.inr x) :: r ∧ f x y = some v ∧ st' = v :: r := by
  unfold zopL at e
  split at e
  · next y x r =>
    split at e
    · next v hv => cases e; exact ⟨x, y, r, v, rfl, hv, rfl⟩
    · cases e
  · cases e
theorem zld_inv {ls : zLS} {i : Nat} {st st' : List zV} (e : zld ls i st = some st') : ∃ x : Int32, ls[i]? = some (some (.inl x)) ∧ st' = .inl x :: st := by
  unfold zld at e
  split at e
  · next x hx => cases e; exact ⟨x, zlg_at hx, rfl⟩
  · cases e
theorem zlda_inv {ls : zLS} {i : Nat} {st st' : List zV} (e : zlda ls i st = some st') : ∃ (k j s : Nat), ls[i]? = some (some (.inr (.inl (k, j, s)))) ∧ k ≤ 15 ∧ st' = .inr (.inl (k, j, s)) :: st := by
  unfold zlda at e
  split at e
  · next k j s hx =>
    split at e
    · next hk => cases e; exact ⟨k, j, s, zlg_at hx, hk, rfl⟩
    · cases e
  · cases e
theorem zldl_inv {ls : zLS} {i : Nat} {st st' : List zV} (e : zldl ls i st = some st') : ∃ x : Int64, ls[i]? = some (some (.inr (.inr x))) ∧ st' = .inr (.inr x) :: st := by
  unfold zldl at e
  split at e
  · next x hx => cases e; exact ⟨x, zlg_at hx, rfl⟩
  · cases e
theorem zSO.tl {v : zV} {st : List zV} (h : zSO (v :: st)) : zSO st := fun w hw => h w (List.mem_cons_of_mem _ hw)
theorem zSO.hd {v : zV} {st : List zV} (h : zSO (v :: st)) : zvok v := h v List.mem_cons_self
theorem zSO.cons {v : zV} {st : List zV} (hv : zvok v) (h : zSO st) : zSO (v :: st) := fun w hw => (List.mem_cons.mp hw).elim (fun e => e ▸ hv) (h w)
theorem zIn_ok {j : Int32} {n : Nat} (h : zIn j n = true) : vp_in j n := by
  have h1 : decide (¬ (j < 0 ∨ n ≤ j.toNatClampNeg)) = true := h
  have h2 : ¬ (j < 0 ∨ n ≤ j.toNatClampNeg) := of_decide_eq_true h1
  exact h2
