/-! the constructors' machine is right -/
def clv (Z : cP) (ls : cLS) : List (Nat × Value) := (List.range ls.length).filterMap fun i => match ls[i]? with
  | some (some v) => some (i, ccv Z.1 v)
  | _ => none
theorem clv_mem {Z : cP} {ls : cLS} {q : Nat × Value} : q ∈ clv Z ls ↔ ∃ (i : Nat) (v : cV), ls[i]? = some (some v) ∧ q = (i, ccv Z.1 v) := by
  unfold clv
  rw [List.mem_filterMap]
  constructor
  · rintro ⟨i, hi, h⟩
    split at h
    · next v hv => cases h; exact ⟨i, v, hv, rfl⟩
    · cases h
  · rintro ⟨i, v, hv, rfl⟩
    refine ⟨i, List.mem_range.mpr (List.getElem?_eq_some_iff.mp hv).1, ?_⟩
    rw [hv]
theorem cLV.has {Z : cP} {nL : Nat} {ls : cLS} {lA : Array Slot} (h : cLV Z nL ls lA) : lv_has lA nL (clv Z ls) := by
  refine ⟨h.1, h.2.1, fun q hq => ?_⟩
  obtain ⟨i, v, hv, rfl⟩ := clv_mem.mp hq
  exact h.2.2.2 i v hv
theorem cLV.set {Z : cP} {nL : Nat} {ls : cLS} {lA lA' : Array Slot} {i : Nat} {v : cV} (h : cLV Z nL ls lA) (hi : i < ls.length) (h' : lv_has lA' nL ((i, ccv Z.1 v) :: (clv Z ls).filter (fun q => !(q.1 == i) && !(q.1 + 1 == i && q.2.category == 2)))) : cLV Z nL (ls.set i (some v)) lA' := by
  refine ⟨h'.1, h'.2.1, by rw [List.length_set]; exact h.2.2.1, fun j w hw => ?_⟩
  rw [List.getElem?_set] at hw
  by_cases hj : i = j
  · subst hj
    rw [if_pos rfl, if_pos hi] at hw
    cases hw
    exact h'.2.2 _ List.mem_cons_self
  · rw [if_neg hj] at hw
    refine h'.2.2 (j, ccv Z.1 w) (List.mem_cons_of_mem _ (List.mem_filter.mpr ⟨clv_mem.mpr ⟨j, w, hw, rfl⟩, ?_⟩))
    have h1 : (j == i) = false := by simpa using fun e => hj e.symm
    simp only [h1, Bool.not_false, Bool.true_and, Bool.not_eq_true', Bool.and_eq_false_iff, ccat]
    exact Or.inr rfl
theorem clget_at {ls : cLS} {i : Nat} {v : cV} (h : clget ls i = some v) : ls[i]? = some (some v) := by
  unfold clget at h
  split at h
  · next w hw => cases h; exact hw
  · cases h
/-- the type of a field, and what may be put there -/
theorem cfit_ok {b0 k f : Nat} {v : cV} (hk : k < 13) (hf : f < znf k) (h : cfit k f v = true) : narrow (zty0 k f) (ccv b0 v) = ccv b0 v ∧ fits (zty0 k f) (ccv b0 v) = true := by
  have h1 := zrange (zrange zT_ok hk) hf
  unfold zty0
  cases hp : parseFieldDescriptor (zT (zfd_ k) f).2.2.1 with
  | none => rw [hp] at h1; cases h1
  | some t =>
    rw [hp] at h1
    unfold cfit at h
    cases t with
    | int =>
      simp only [Bool.or_eq_true, Bool.and_eq_true, decide_eq_true_eq] at h1
      rcases h1 with h1 | h1
      · rw [h1] at h
        obtain x | q := v
        · exact ⟨rfl, rfl⟩
        · cases q <;> cases h
      · rw [h1.1] at h
        obtain x | q := v
        · exact ⟨rfl, rfl⟩
        · cases q <;> cases h
    | boolean =>
      simp only [Bool.and_eq_true, decide_eq_true_eq] at h1
      rw [h1.1] at h
      obtain x | q := v
      · cases h
      · cases q <;> cases h
    | object c =>
      simp only [Bool.or_eq_true, Bool.and_eq_true, decide_eq_true_eq] at h1
      rcases h1 with h1 | h1
      · rw [h1.1.1] at h
        obtain x | q := v
        · cases h
        · cases q with
          | none => cases h
          | some j => exact ⟨rfl, rfl⟩
      · rw [h1] at h
        obtain x | q := v
        · cases h
        · cases q with
          | none => cases h
          | some j => exact ⟨rfl, rfl⟩
    | array c =>
      simp only [decide_eq_true_eq] at h1
      rw [h1] at h
      obtain x | q := v
      · cases h
      · cases q with
        | none => cases h
        | some j => exact ⟨rfl, rfl⟩
    | _ => cases h1
theorem cdef_ok {b0 k f : Nat} (hk : k < 13) (hf : f < znf k) : defaultValue (zty0 k f) = ccv b0 (cdef k f) := by
  have h1 := zrange (zrange zT_ok hk) hf
  unfold zty0 cdef
  cases hp : parseFieldDescriptor (zT (zfd_ k) f).2.2.1 with
  | none => rw [hp] at h1; cases h1
  | some t =>
    rw [hp] at h1
    cases t with
    | int =>
      simp only [Bool.or_eq_true, Bool.and_eq_true, decide_eq_true_eq] at h1
      rcases h1 with h1 | h1
      · rw [h1]; rfl
      · rw [h1.1]; rfl
    | boolean =>
      simp only [Bool.and_eq_true, decide_eq_true_eq] at h1
      rw [h1.1]; rfl
    | object c =>
      simp only [Bool.or_eq_true, Bool.and_eq_true, decide_eq_true_eq] at h1
      rcases h1 with h1 | h1
      · rw [h1.1.1]; rfl
      · rw [h1]; rfl
    | array c =>
      simp only [decide_eq_true_eq] at h1
      rw [h1]; rfl
    | _ => cases h1
theorem clg_cons {log : List (Nat × Int32)} {x j : Nat} {v : Int32} : clg ((x, v) :: log) j = if j = x then some v else clg log j := by
  unfold clg
  by_cases h : j = x
  · subst h
    rw [if_pos rfl, List.find?_cons_of_pos (by simp)]
  · rw [if_neg h, List.find?_cons_of_neg (by simpa using fun e => h e.symm)]
theorem cG.to {Z : cP} {s U : State} (h : cG Z s) (hW : s.WarmedH U.vm) : cG Z U := by
  obtain ⟨h1, h2, h3⟩ := h
  refine ⟨va_K.moved hW.alike h1, fun w hw hn => ?_, va_AO.moved hW.alike h3⟩
  have h4 := h2 w hw hn
  cases w with
  | fieldLinkNest a i b n d o => exact va_Nw.warmF hW h4
  | methodLinkNest a i y o => exact va_Nw.warmM hW h4
  | _ => cases hn
theorem cG.same {Z : cP} {u U : State} (hv : U.vm = u.vm) (h : cG Z u) : cG Z U := by
  obtain ⟨h1, h2, h3⟩ := h
  have al : u.vm.Alike U.vm := by rw [hv]; exact Vm.Alike.refl _
  refine ⟨va_K.moved al h1, fun w hw hn => ?_, va_AO.moved al h3⟩
  have h4 := h2 w hw hn
  cases w with
  | fieldLinkNest a i b n d o => exact va_Nw.same rfl hv.symm h4
  | methodLinkNest a i y o => exact va_Nw.same rfl hv.symm h4
  | _ => cases hn
theorem cw_ai : Cond.arrayClass .int ∈ zGW := zat_in (n := 244) (by decide +kernel)
theorem cw_ab : Cond.arrayClass .byte ∈ zGW := zat_in (n := 383) (by decide +kernel)
theorem cw_o1 : Cond.instanceMethod Lib.objectInit ∈ zGW := zat_in (n := 156) (by decide +kernel)
theorem cw_o2 : Cond.code Lib.objectInit ⟨#[0xb1]⟩ 1 none ∈ zGW := zat_in (n := 157) (by decide +kernel)
theorem zmlk_998 {o x : Nat} (h : zmlk o x = some 998) : Cond.methodLink (znm o) x Lib.objectInit ∈ zGW := by
  obtain ⟨j, hj, hk⟩ := zmlk_ok h
  unfold zokC at hk
  rw [hj] at hk
  exact zat_in hk
section CW
variable {Z : cP} {p : Program} {l : Launch} {e : Env} {R : Room} {s : State} {m : MethodId} {args : Array Value} {below : List Frame} {meth : Method} {c : Code} {cells slots : Nat} {Q : State → Prop} {cc : ByteArray} {mi pc : Nat} {ls ls' : cLS} {st st' : List cV} {cs cs' : List cC} {pc' : Nat} {H : Heap} {locs : List Loc} {lA : Array Slot}
set_option maxHeartbeats 2000000 in
theorem cW_next (hx : p.tables.exec = Jvm.exec) (hb : c.code = cc) (hml : c.maxLocals = zmxl mi) (hown : s.vm.findClass (znm (zown mi)) = some m.cls) (hts : ∀ w ∈ zGW, w.before args s = true) (hin : zown mi ≤ 12 → meth.name = "<init>") (hG : cG Z s) (hZs : Z.1 ≤ s.heap.size) (hRf : 1 ≤ R.frames) (hRl : 64 ≤ R.locals) {i : Instr} (hd : decode cc pc = .ok (i, cwd i))
    (hs : cstep mi pc i ls st cs = some (.inl (pc', ls', st', cs'))) (hRc : cells + (cs'.length - cs.length) ≤ R.cells) (hRs : slots + (ctot cs' - ctot cs) ≤ R.slots) (hH : cHC Z cs H) (hS : va_S (cA Z) s.heap H locs) (hl : cLV Z (zmxl mi) ls lA)
    (K : ∀ (H' : Heap) (locs' : List Loc) (lA' : Array Slot), cHC Z cs' H' → va_S (cA Z) s.heap H' locs' → cLV Z (zmxl mi) ls' lA' → W p l e R s m args below meth c H' locs' (cells + (cs'.length - cs.length)) (slots + (ctot cs' - ctot cs)) Q (F0 m pc' lA' (st'.map (ccv Z.1)))) : W p l e R s m args below meth c H locs cells slots Q (F0 m pc lA (st.map (ccv Z.1))) := by
  have K0 : cs' = cs → ∀ (H' : Heap) (locs' : List Loc) (lA' : Array Slot), cHC Z cs' H' → va_S (cA Z) s.heap H' locs' → cLV Z (zmxl mi) ls' lA' → W p l e R s m args below meth c H' locs' cells slots Q (F0 m pc' lA' (st'.map (ccv Z.1))) := by
    intro q H' locs' lA' a1 a2 a3
    have := K H' locs' lA' a1 a2 a3
    rw [q, Nat.sub_self, Nat.sub_self] at this
    exact this
  cases i with
  | iconst n =>
    cases hs
    exact lv_iconst hx hb hd rfl (K0 rfl H locs lA hH hS hl)
  | bipush n =>
    cases hs
    exact lv_bipush hx hb hd rfl (K0 rfl H locs lA hH hS hl)
  | sipush n =>
    cases hs
    exact lv_sipush hx hb hd rfl (K0 rfl H locs lA hH hS hl)
  | iload_n x =>
    unfold cstep at hs
    simp only at hs
    split at hs
    · next v hv =>
      cases hs
      exact lv_iload_n hx hb hd rfl (hl.2.2.2 _ _ (clget_at hv)) (K0 rfl H locs lA hH hS hl)
    · cases hs
  | aload_n x =>
    unfold cstep at hs
    simp only at hs
    split at hs
    · next v hv =>
      cases hs
      exact lv_aload_n hx hb hd rfl (hl.2.2.2 _ _ (clget_at hv)) (K0 rfl H locs lA hH hS hl)
    · cases hs
  | istore_n x =>
    unfold cstep at hs
    simp only at hs
    split at hs
    · next v r =>
      split at hs
      · next hlt =>
        cases hs
        exact lv_istore_n hx hb hd rfl hl.has (by rw [← hl.2.2.1]; exact hlt) rfl (fun lA' hh => K0 rfl H locs lA' hH hS (hl.set (v := .inl v) hlt hh))
      · cases hs
    · cases hs
  | astore_n x =>
    unfold cstep at hs
    simp only at hs
    split at hs
    · next j r =>
      split at hs
      · next hlt =>
        cases hs
        exact lv_astore_n hx hb hd rfl hl.has (by rw [← hl.2.2.1]; exact hlt) rfl (fun lA' hh => K0 rfl H locs lA' hH hS (hl.set (v := .inr (some j)) hlt hh))
      · cases hs
    · cases hs
  | iinc x n =>
    unfold cstep at hs
    simp only at hs
    split at hs
    · next v hv =>
      split at hs
      · next hlt =>
        cases hs
        obtain ⟨kk, hkk⟩ := List.getElem?_of_mem (clv_mem (Z := Z).mpr ⟨x, .inl v, clget_at hv, rfl⟩)
        exact lv_iinc hx hb hd hl.has hkk rfl (by rw [← hl.2.2.1]; exact hlt) rfl (fun lA' hh => K0 rfl H locs lA' hH hS (hl.set (v := .inl (v + Int32.ofInt n)) hlt hh))
      · cases hs
    · cases hs
  | dup =>
    unfold cstep at hs
    simp only at hs
    split at hs
    · next v r =>
      cases hs
      exact lv_dup hx hb hd (ccat _ v) (K0 rfl H locs lA hH hS hl)
    · cases hs
  | if_icmp cd off =>
    cases cd with
    | ge =>
      unfold cstep at hs
      simp only at hs
      split at hs
      · cases hs
      · next t ht =>
        split at hs
        · next y x r =>
          split at hs
          · next hc =>
            cases hs
            exact lv_icmp_ge hx hb hd (zjt_ok ht) (fun _ => K0 rfl H locs lA hH hS hl) (fun q => absurd hc q)
          · next hc =>
            cases hs
            exact lv_icmp_ge hx hb hd (zjt_ok ht) (fun q => absurd q hc) (fun _ => K0 rfl H locs lA hH hS hl)
        · cases hs
    | _ => cases hs
  | goto off =>
    unfold cstep at hs
    simp only at hs
    split at hs
    · cases hs
    · next t ht =>
      cases hs
      exact lv_goto hx hb hd (zjt_ok ht) (K0 rfl H locs lA hH hS hl)
  | new x =>
    unfold cstep at hs
    simp only at hs
    split at hs
    · next k hk =>
      cases hs
      obtain ⟨hk13, hcl⟩ := cnw_ok hk
      have hI := zrange cI_ok hk13
      unfold cokI at hI
      rw [Bool.and_eq_true] at hI
      rw [List.length_append, List.length_singleton, Nat.add_sub_cancel_left] at hRc K
      rw [ctot_push, Nat.add_sub_cancel_left] at hRs K
      have hcz : csz (.inr (k, (List.range (znf k)).map (cdef k))) = znf k := by unfold csz; simp
      rw [hcz] at hRs K
      have hKn := hG.1.1 k _ (zcl_at hk13)
      refine W.newcK hx hb hown (hts _ hcl) (hts _ (zat_in hI.1)) (hts _ (zat_in hI.2)) rfl hd hRc hRs hKn.2.1 rfl fun H1 kC hkC e1 z1 o1 => ?_
      have e9 : H.size = Z.1 + cs.length := hH.1
      have K1 := K H1 locs lA ⟨by rw [z1, e9, List.length_append, List.length_singleton]; omega, ?_⟩ ⟨by have := hS.1; omega, fun q h1 h2 => (o1 q (Nat.lt_of_lt_of_le h1 hS.1)).trans (hS.2.1 q h1 h2), hS.2.2⟩ hl
      · rw [List.map_cons, show ccv Z.1 (.inr (some cs.length)) = .ref (Z.1 + cs.length) from rfl, ← e9] at K1
        exact K1
      · rw [cws_push]
        refine (hH.2.kept (fun j x hx9 => o1 x.1 ((hH.2 j x hx9).lt))).app (fun j x hx9 => ?_)
        have hz : j < 1 := (List.getElem?_eq_some_iff.mp hx9).1
        rw [show j = 0 by omega] at hx9
        cases hx9
        refine ⟨_, zcl_at hk13, ?_⟩
        rw [← e9]
        refine (u_born (zty0 k) hts (zin_k hk13) hKn hkC e1 (zty_ok hk13)).to (fun f hf => ?_)
        rw [cdef_ok (b0 := Z.1) hk13 hf]
        show _ = vp_V (((List.range (znf k)).map (cdef k)).map (ccv Z.1)) f
        unfold vp_V
        rw [List.getD_eq_getElem?_getD, List.getElem?_map, List.getElem?_map, List.getElem?_range hf]
        rfl
    · cases hs
  | newarray t =>
    unfold cstep at hs
    simp only at hs
    split at hs
    · next n r =>
      split at hs
      · next hc =>
        obtain ⟨hn, hn2, ht⟩ := hc
        cases hs
        rw [List.length_append, List.length_singleton, Nat.add_sub_cancel_left] at hRc K
        rw [ctot_push, Nat.add_sub_cancel_left] at hRs K
        have hcz : csz (.inl (if t = .int then 0 else 1, n.toNatClampNeg, [])) = n.toNatClampNeg := rfl
        rw [hcz] at hRs K
        have e9 : H.size = Z.1 + cs.length := hH.1
        have fin : ∀ (H1 : Heap) (cA1 : ClassId), H1[H.size]? = some (arrV cA1 n.toNatClampNeg (fun _ => Value.int 0)) → H1.size = H.size + 1 → (∀ q, q < H.size → H1[q]? = H[q]?) → cA1 = (if t = .int then Z.2.2.1 else Z.2.2.2.1) → W p l e R s m args below meth c H1 locs (cells + 1) (slots + n.toNatClampNeg) Q (F0 m (pc + 2) lA (.ref H.size :: r.map (ccv Z.1))) := by
          intro H1 cA1 e1 z1 o1 hcA
          have K1 := K H1 locs lA ⟨by rw [z1, e9, List.length_append, List.length_singleton]; omega, ?_⟩ ⟨by have := hS.1; omega, fun q h1 h2 => (o1 q (Nat.lt_of_lt_of_le h1 hS.1)).trans (hS.2.1 q h1 h2), hS.2.2⟩ hl
          · rw [List.map_cons, show ccv Z.1 (.inr (some cs.length)) = .ref (Z.1 + cs.length) from rfl, ← e9] at K1
            exact K1
          · rw [cws_push]
            refine (hH.2.kept (fun j x hx9 => o1 x.1 ((hH.2 j x hx9).lt))).app (fun j x hx9 => ?_)
            have hz : j < 1 := (List.getElem?_eq_some_iff.mp hx9).1
            rw [show j = 0 by omega] at hx9
            cases hx9
            rw [← e9]
            have hce : ccell Z (.inl (if t = .int then 0 else 1, n.toNatClampNeg, [])) = .inl (if t = .int then Z.2.2.1 else Z.2.2.2.1, n.toNatClampNeg, .inl (fun _ => 0)) := by
              unfold ccell
              simp only
              rw [if_neg (by split <;> omega)]
              rcases ht with rfl | rfl <;> rfl
            rw [hce]
            show H1[H.size]? = some (vp_cell _ _)
            rw [e1, hcA, vp_cell_i]
        rcases ht with rfl | rfl
        · refine va_newaK (atype := .int) hx hb (hts _ cw_ai) rfl hd rfl hn rfl (by show n.toNatClampNeg * 4 ≤ 536870912; omega) hRc hRs rfl fun H1 cA1 e1 z1 o1 hAr hNm => ?_
          refine fin H1 cA1 e1 z1 o1 ?_
          have h2 : s.vm.findClass ("[" ++ FieldType.int.toString) = some Z.2.2.1 := (hG.1.2 0 _ rfl).2
          exact Option.some.inj (hNm.symm.trans h2)
        · refine va_newaK (atype := .byte) hx hb (hts _ cw_ab) rfl hd rfl hn rfl (by show n.toNatClampNeg * 1 ≤ 536870912; omega) hRc hRs rfl fun H1 cA1 e1 z1 o1 hAr hNm => ?_
          refine fin H1 cA1 e1 z1 o1 ?_
          have h2 : s.vm.findClass ("[" ++ FieldType.byte.toString) = some Z.2.2.2.1 := (hG.1.2 1 _ rfl).2
          exact Option.some.inj (hNm.symm.trans h2)
      · cases hs
    · cases hs
  | anewarray x =>
    unfold cstep at hs
    simp only at hs
    split at hs
    · next n r =>
      split at hs
      · next hc =>
        obtain ⟨hn, hn2, hk⟩ := hc
        cases hs
        obtain ⟨hk13, hcl⟩ := cnw_ok hk
        rw [List.length_append, List.length_singleton, Nat.add_sub_cancel_left] at hRc K
        rw [ctot_push, Nat.add_sub_cancel_left] at hRs K
        have hcz : csz (.inl (2, n.toNatClampNeg, [])) = n.toNatClampNeg := rfl
        rw [hcz] at hRs K
        have e9 : H.size = Z.1 + cs.length := hH.1
        refine W.anew hx hb hown (hts _ hcl) (va_AO.use hG.2.2) rfl hd rfl hn (by omega) hRc hRs fun cA1 kA comp f1 f2 f3 f4 => ?_
        have hcA : cA1 = Z.2.2.2.2 := by
          obtain ⟨kA2, comp2, g1, g2, g3, g4⟩ := (hG.1.2 2 _ rfl).2
          exact Option.some.inj (f1.symm.trans g4)
        generalize hH1 : H.push ({ cls := cA1, slots := Array.replicate n.toNatClampNeg .null, vm := .none } : Cell) = H1
        have z1 : H1.size = H.size + 1 := by rw [← hH1, Array.size_push]
        have e1 : H1[H.size]? = some (arrV cA1 n.toNatClampNeg (fun _ => .null)) := by rw [← hH1, Array.getElem?_push_size, ← arrV_new]
        have o1 : ∀ q : Nat, q < H.size → H1[q]? = H[q]? := fun q hq => by rw [← hH1, Array.getElem?_push, if_neg (Nat.ne_of_lt hq)]
        have K1 := K H1 locs lA ⟨by rw [z1, e9, List.length_append, List.length_singleton]; omega, ?_⟩ ⟨by have := hS.1; omega, fun q h1 h2 => (o1 q (Nat.lt_of_lt_of_le h1 hS.1)).trans (hS.2.1 q h1 h2), hS.2.2⟩ hl
        · rw [List.map_cons, show ccv Z.1 (.inr (some cs.length)) = .ref (Z.1 + cs.length) from rfl, ← e9] at K1
          exact K1
        · rw [cws_push]
          refine (hH.2.kept (fun j x hx9 => o1 x.1 ((hH.2 j x hx9).lt))).app (fun j x hx9 => ?_)
          have hz : j < 1 := (List.getElem?_eq_some_iff.mp hx9).1
          rw [show j = 0 by omega] at hx9
          cases hx9
          rw [← e9]
          show H1[H.size]? = some (vp_cell _ _)
          rw [e1, hcA]
          rfl
      · cases hs
    · cases hs
  | putfield x =>
    unfold cstep at hs
    simp only at hs
    split at hs
    · next k f v j r hq =>
      split at hs
      · next k' fs hj =>
        split at hs
        · next hc =>
          obtain ⟨rfl, hk12, hok, hf, hfit⟩ := hc
          cases hs
          have hk13 : k' < 13 := by omega
          rw [hok] at hq hown
          obtain ⟨hfn, hlk⟩ := zflk_own hk13 hq
          have hT := cfit_ok (b0 := Z.1) hk13 hfn hfit
          have htot : ctot (cs.set j (.inr (k', fs.set f v))) = ctot cs := ctot_set hj (by unfold csz; simp)
          rw [List.length_set, htot, Nat.sub_self, Nat.sub_self] at K
          have he := cws_at (Z := Z) hj
          have fin : ∀ (H1 : Heap) (locs1 : List Loc), va_P Z.2.1 zcl ((cws Z cs).set j (Z.1 + j, .inr (k', (fs.map (ccv Z.1)).set f (ccv Z.1 v)))) H1 → va_D (cA Z) ((cws Z cs).set j (Z.1 + j, .inr (k', (fs.map (ccv Z.1)).set f (ccv Z.1 v)))) → va_S (cA Z) s.heap H1 locs1 → H1.size = H.size → W p l e R s m args below meth c H1 locs1 cells slots Q (F0 m (pc + 3) lA (st'.map (ccv Z.1))) := by
            intro H1 locs1 hP1 _ hS1 hz1
            refine K H1 locs1 lA ⟨by rw [List.length_set, hz1]; exact hH.1, ?_⟩ hS1 hl
            rw [cws_set hj]
            have : ccell Z (.inr (k', fs.set f v)) = .inr (k', (fs.map (ccv Z.1)).set f (ccv Z.1 v)) := by
              show Sum.inr (k', (fs.set f v).map (ccv Z.1)) = _
              rw [List.map_set]
            rw [this]
            exact hP1
          have hKn := hG.1.1 k' _ (zcl_at hk13)
          have hap := va_apart (own := znm k') (args := args) hts (zin_k hk13) (zty0 k') (zty_ok hk13) (znm_ok hk13) hG.1 (zcl_at hk13)
          obtain ⟨r', h1', cell, q1, q2, q3, q4⟩ := hH.2 j _ he
          have hr' : r' = (znm k', zT (zfd_ k'), znf k') := Option.some.inj (h1'.symm.trans (zcl_at hk13))
          subst hr'
          obtain ⟨hSl, hfc, kC, hkC, hkind⟩ := hKn
          obtain ⟨cf, kf, fi, fd, hi, hsl⟩ := hSl f hfn
          have hst := (u_facts hfc hkC (u_lays hts (zin_k hk13) hfn) hi).1
          have hlay := hts _ (zin_k hk13 _ (u_in_lay hfn))
          have fin2 : ∀ H' : Heap, H'[Z.1 + j]? = some (cell.setSlot fd.slot (ccv Z.1 v)) → H'.size = H.size → (∀ q, q ≠ Z.1 + j → H'[q]? = H[q]?) → W p l e R s m args below meth c H' (locs ++ [⟨Z.1 + j, fd.slot⟩]) cells slots Q (F0 m (pc + 3) lA (st'.map (ccv Z.1))) := by
            intro H' e1 e2 e3
            rw [hsl] at e1
            refine fin H' _ (hH.2.set (cD_of cs) he ⟨_, zcl_at hk13, t_OB.to (V := updV (vp_V (fs.map (ccv Z.1))) f (ccv Z.1 v)) ⟨_, e1, q2, q3, t_set q4 hap hfn (ccv Z.1 v)⟩ (fun j _ => vp_updV_set (by simpa using hf) (ccv Z.1 v) j)⟩ e3) ((cD_of cs).set he) (hS.put e2 e3 (show Z.1 ≤ Z.1 + j by omega)) e2
          by_cases hfin : (zT (zfd_ k') f).2.2.2 = true
          · unfold u_lay at hlay
            rw [if_pos hfin] at hlay
            have hde : (zT (zfd_ k') f).1 = znm k' := of_decide_eq_true (zrange (zrange cdecl hk13) hfn)
            have hcf : m.cls = cf := by
              obtain ⟨_, _, c', _, _, _, -, -, hf', -, -, -, hown2, -⟩ := Cond.laysFinal_spec hlay
              have e1 : c' = cf := by have := hi.symm.trans hf'; simp at this; exact this.1.symm
              rw [hde] at hown2
              rw [← e1]; exact Option.some.inj (hown.symm.trans hown2)
            have h6 := u_fits hfc hkC hkind (Or.inr hlay) hi (zty_ok hk13 f hfn) hT.1 hT.2
            exact W.putFinK hx hb hown (hts _ hlk) hi hst hcf (hin (by omega)) (by rw [q2]; exact h6) q1 q3 (by rw [hsl]; exact k2_hasslot (q4 f hfn)) rfl rfl hd fin2
          · unfold u_lay at hlay
            rw [if_neg hfin] at hlay
            have h6 := u_store hfc hkC hkind hlay hi (zty_ok hk13 f hfn) hT.1 hT.2
            exact W.putK hx hb (f := fd) ⟨hown, hts _ hlk, ⟨_, _, _, hi⟩, hst⟩ (by rw [q2]; exact h6) q1 q3 (by rw [hsl]; exact k2_hasslot (q4 f hfn)) rfl rfl hd fin2
        · cases hs
      · cases hs
    · cases hs
  | getfield x =>
    unfold cstep at hs
    simp only at hs
    split at hs
    · next k f j r hq =>
      split at hs
      · next k' fs hj =>
        split at hs
        · next hc =>
          obtain ⟨rfl, hk12⟩ := hc
          split at hs
          · next v hv =>
            cases hs
            rcases zflk_ok hq with ⟨h15, -⟩ | ⟨hk, hf, hw⟩
            · omega
            · have he := cws_at (Z := Z) hj
              have hv2 : (fs.map (ccv Z.1))[f]? = some (ccv Z.1 v) := by rw [List.getElem?_map, hv]; rfl
              have K1 := K0 rfl H locs lA hH hS hl
              rcases hw with hw | hw
              · exact va_getN hx hb hts (zin_k hk) hown hG.1 hH.2 j he (zcl_at hk) f hf (va_Nw.use rfl (hG.2.1 _ hw rfl)) (fun _ q => q) hv2 hd K1
              · exact va_get hx hb hts (zin_k hk) hown hG.1 hH.2 j he (zcl_at hk) f hf (hts _ hw) (fun _ q => q) hv2 hd K1
          · cases hs
        · cases hs
      · cases hs
    · cases hs
  | iastore =>
    unfold cstep at hs
    simp only at hs
    split at hs
    · next v x j r =>
      split at hs
      · next t n log hj =>
        split at hs
        · next hc =>
          obtain ⟨rfl, hin2⟩ := hc
          cases hs
          have hin3 := zIn_ok hin2
          have htot : ctot (cs.set j (.inl (0, n, (x.toNatClampNeg, v) :: log))) = ctot cs := ctot_set hj rfl
          rw [List.length_set, htot, Nat.sub_self, Nat.sub_self] at K
          have he := cws_at (Z := Z) hj
          have hcell : H[Z.1 + j]? = some (vp_cell Z.2.2.1 (n, .inl (fun q => (clg log q).getD 0))) := hH.2 j _ he
          refine W.iast hx hb hcell ((hG.1.2 0 _ rfl).1 n (fun q => .int ((clg log q).getD 0))) (fun q => by cases q) (by show ¬ (x < 0 ∨ (arrV _ _ _).slots.size ≤ _); rw [arrV_size]; exact hin3) rfl rfl hd fun H1 e1 e2 e3 => ?_
          refine K H1 _ lA ⟨by rw [List.length_set, e2]; exact hH.1, ?_⟩ (hS.put e2 e3 (show Z.1 ≤ Z.1 + j by omega)) hl
          rw [cws_set hj]
          refine hH.2.set (cD_of cs) he ?_ e3
          show H1[Z.1 + j]? = some (vp_cell Z.2.2.1 (n, .inl (fun q => (clg ((x.toNatClampNeg, v) :: log) q).getD 0)))
          rw [e1, vp_cell_i, vp_cell_i, arrV_store]
          congr 2
          funext q
          rw [clg_cons]
          by_cases hq : q = x.toNatClampNeg
          · subst hq
            simp [updV]
          · simp [updV, hq]
        · cases hs
      · cases hs
    · cases hs
  | aastore =>
    unfold cstep at hs
    simp only at hs
    split at hs
    · next q x j r =>
      split at hs
      · next t n log k fs hj hq =>
        split at hs
        · next hc =>
          obtain ⟨rfl, rfl, hin2, hq9⟩ := hc
          cases hs
          have hin3 := zIn_ok hin2
          have hlt : x.toNatClampNeg < n := Nat.not_le.mp fun q => hin3 (Or.inr q)
          have h0 : ¬ x < 0 := fun q => hin3 (Or.inl q)
          have htot : ctot (cs.set j (.inl (2, n, (x.toNatClampNeg, Int32.ofNat q) :: log))) = ctot cs := ctot_set hj rfl
          rw [List.length_set, htot, Nat.sub_self, Nat.sub_self] at K
          have he := cws_at (Z := Z) hj
          have heq := cws_at (Z := Z) hq
          have hcell : H[Z.1 + j]? = some (vp_cell Z.2.2.2.2 (n, .inr (.inr (.inr (.inr (fun j => match clg log j with | some v => some (Z.1 + v.toNatClampNeg) | none => none)))))) := hH.2 j _ he
          obtain ⟨r', hr', cellV, g1, g2, g3, -⟩ := hH.2 q _ heq
          have hcls := (hG.1.1 3 _ (zcl_at (by omega))).2
          obtain ⟨kA, comp, k1, k2, k3, -⟩ := (hG.1.2 2 _ rfl).2
          have hcomp : comp = Z.2.1.1 3 := Option.some.inj (k3.symm.trans hcls.1)
          subst hcomp
          obtain ⟨kC, hkC, -⟩ := hcls.2
          refine W.aast hx hb hcell (fun q h => by cases h) (fun h => by cases h) k1 k2 rfl hkC ⟨h0, by show _ < (arrV _ _ _).slots.size; rw [arrV_size]; exact hlt⟩ g1 (fun q h => by rw [g3] at h; cases h) (by rw [g2]; exact hkC) (by rw [g2]; exact va_assign hcls) rfl rfl hd fun H1 e1 e2 e3 => ?_
          refine K H1 _ lA ⟨by rw [List.length_set, e2]; exact hH.1, ?_⟩ (hS.put e2 e3 (show Z.1 ≤ Z.1 + j by omega)) hl
          rw [cws_set hj]
          refine hH.2.set (cD_of cs) he ?_ e3
          show H1[Z.1 + j]? = some (vp_cell Z.2.2.2.2 (n, .inr (.inr (.inr (.inr (fun i => match clg ((x.toNatClampNeg, Int32.ofNat q) :: log) i with | some v => some (Z.1 + v.toNatClampNeg) | none => none))))))
          rw [e1, vp_cell_q, vp_cell_q, arrV_store]
          congr 2
          funext i
          rw [clg_cons]
          have hcl : (Int32.ofNat q).toNatClampNeg = q := nI_clamp (n := q) (by omega)
          by_cases hi : i = x.toNatClampNeg
          · subst hi
            simp [updV, va_rf, hcl]
          · simp [updV, hi]
        · cases hs
      · cases hs
    · cases hs
  | invokespecial x =>
    unfold cstep at hs
    simp only at hs
    split at hs
    · next m2 hm2 =>
      split at hs
      · next h9 =>
        subst h9
        split at hs
        · next j r =>
          split at hs
          · next hr =>
            cases hs
            have hcs := ccatsum Z.1 st'
            exact W.objInit hx hb hown (hts _ (zmlk_998 hm2)) (hts _ cw_o1) (hts _ cw_o2) rfl (by show lA.size = c.maxLocals; rw [hml]; exact hl.1) rfl hd hRf (by show 2 * 0 + _ + 12 ≤ _; omega) (K0 rfl H locs lA hH hS hl)
          · cases hs
        · cases hs
      · split at hs
        · split at hs <;> cases hs
        · cases hs
    · cases hs
  | return_ =>
    unfold cstep at hs
    simp only at hs
    split at hs <;> cases hs
  | _ => cases hs
end CW
def cisI (i : Instr) : Bool := match i with
  | .invokespecial _ => true
  | _ => false
theorem cstep_ic {m pc : Nat} {i : Instr} {ls : cLS} {st : List cV} {cs : List cC} {y : (Nat × List cV × List cV) ⊕ Unit} (hs : cstep m pc i ls st cs = some (.inr y)) : cisI i = true ∨ (i = .return_ ∧ st = []) := by
  cases i with
  | invokespecial x => exact Or.inl rfl
  | return_ =>
    unfold cstep at hs
    simp only at hs
    split at hs
    · exact Or.inr ⟨rfl, rfl⟩
    · cases hs
  | iload_n x =>
    unfold cstep at hs
    simp only at hs
    split at hs <;> cases hs
  | aload_n x =>
    unfold cstep at hs
    simp only at hs
    split at hs <;> cases hs
  | istore_n x =>
    unfold cstep at hs
    simp only at hs
    split at hs
    · split at hs <;> cases hs
    · cases hs
  | astore_n x =>
    unfold cstep at hs
    simp only at hs
    split at hs
    · split at hs <;> cases hs
    · cases hs
  | iinc x n =>
    unfold cstep at hs
    simp only at hs
    split at hs
    · split at hs <;> cases hs
    · cases hs
  | dup =>
    unfold cstep at hs
    simp only at hs
    split at hs <;> cases hs
  | if_icmp c off =>
    cases c with
    | ge =>
      unfold cstep at hs
      simp only at hs
      split at hs
      · cases hs
      · split at hs
        · split at hs <;> cases hs
        · cases hs
    | _ => cases hs
  | goto off =>
    unfold cstep at hs
    simp only at hs
    split at hs <;> cases hs
  | new x =>
    unfold cstep at hs
    simp only at hs
    split at hs <;> cases hs
  | newarray t =>
    unfold cstep at hs
    simp only at hs
    split at hs
    · split at hs <;> cases hs
    · cases hs
  | anewarray x =>
    unfold cstep at hs
    simp only at hs
    split at hs
    · split at hs <;> cases hs
    · cases hs
  | putfield x =>
    unfold cstep at hs
    simp only at hs
    split at hs
    · split at hs
      · split at hs <;> cases hs
      · cases hs
    · cases hs
  | getfield x =>
    unfold cstep at hs
    simp only at hs
    split at hs
    · split at hs
      · split at hs
        · split at hs <;> cases hs
        · cases hs
      · cases hs
    · cases hs
  | iastore =>
    unfold cstep at hs
    simp only at hs
    split at hs
    · split at hs
      · split at hs <;> cases hs
      · cases hs
    · cases hs
  | aastore =>
    unfold cstep at hs
    simp only at hs
    split at hs
    · split at hs
      · split at hs <;> cases hs
      · cases hs
    · cases hs
  | _ => cases hs
theorem cstep_nc {m pc : Nat} {i : Instr} {ls : cLS} {st : List cV} {cs : List cC} {y : Nat × List cV × List cV} (hc : cisI i = false) : ¬ cstep m pc i ls st cs = some (.inr (.inl y)) := by
  intro hs
  rcases cstep_ic hs with h | ⟨rfl, rfl⟩
  · rw [hc] at h; cases h
  · cases hs
theorem cstep_ret {m pc : Nat} {i : Instr} {ls : cLS} {st : List cV} {cs : List cC} {u : Unit} (hs : cstep m pc i ls st cs = some (.inr (.inr u))) : i = .return_ ∧ st = [] := by
  rcases cstep_ic hs with h | h
  · exfalso
    cases i with
    | invokespecial x =>
      unfold cstep at hs
      simp only at hs
      split at hs
      · split at hs
        · split at hs
          · split at hs <;> cases hs
          · cases hs
        · split at hs
          · split at hs <;> cases hs
          · cases hs
      · cases hs
    | _ => cases h
  · exact h
/-! constructors: calls, contracts -/
theorem cU_ok {m : Nat} (hu : cinC m = true) : ∃ (y : MethodName) (cc : ByteArray), zy m = y ∧ zcode m = cc ∧ Cond.code y cc (zmxl m) none ∈ zGW ∧ (parseMethodDescriptor y.desc).map (fun d => d.parameters.length) = some (znar m - 1) ∧ y.cls = znm (zown m) ∧ plainName y.cls = true ∧ (y.cls ≠ "java/lang/invoke/MethodHandle" ∧ y.cls ≠ "java/lang/invoke/VarHandle") ∧ znar m ≤ zmxl m ∧ zmxl m ≤ 12 ∧ Cond.initialized (znm (zown m)) ∈ zGW ∧ Cond.instanceMethod y ∈ zGW ∧ y.name = "<init>" ∧ 1 ≤ znar m := by
  obtain ⟨-, hk⟩ := cinC_ok hu
  unfold cokM at hk
  simp only [Bool.and_eq_true, decide_eq_true_eq, Bool.not_eq_true'] at hk
  obtain ⟨⟨⟨⟨⟨⟨⟨⟨h1, h2⟩, h3⟩, h4⟩, h5⟩, h6⟩, h7⟩, -⟩, -⟩ := hk
  unfold zokM at h1
  cases hc : zcd m with
  | none => rw [hc] at h1; cases h1
  | some w =>
    rw [hc] at h1
    cases w with
    | code y cc n r =>
      simp only [Bool.and_eq_true, decide_eq_true_eq] at h1
      obtain ⟨⟨⟨⟨⟨⟨⟨g1, g2⟩, g3⟩, g4⟩, g5⟩, g6⟩, g7⟩, g8⟩ := h1
      have e1 : zy m = y := by unfold zy; rw [hc]
      have e2 : zcode m = cc := by unfold zcode; rw [hc]
      rw [h6] at g2
      subst g1; subst g2
      rw [h5] at g3
      rw [e1] at h2 h4
      exact ⟨y, cc, e1, e2, List.mem_filter.mpr ⟨List.mem_of_getElem? hc, rfl⟩, g3, g4, g5, g6, g7, g8, zat_in h3, zat_in h2, h4, h7⟩
    | _ => cases h1
def cWst (Z : cP) (l : Launch) (n : Nat) : Prop := ∀ (d mi pc : Nat) (ls : cLS) (st : List cV) (cs cs' : List cC), ccx n d mi pc ls st cs = some cs' →
  ∀ (p : Program) (e : Env) (R : Room) (s : State) (m : MethodId) (args : Array Value) (below : List Frame) (meth : Method) (c : Code) (cells slots : Nat) (Q : State → Prop) (cc : ByteArray), p.tables.exec = Jvm.exec → c.code = cc → c.maxLocals = zmxl mi → s.vm.findClass (znm (zown mi)) = some m.cls → (∀ w ∈ zGW, w.before args s = true) → (zown mi ≤ 12 → meth.name = "<init>") → cG Z s → Z.1 ≤ s.heap.size → (∀ q ∈ zTAB.getD mi [], decode cc q.1 = .ok q.2) → d + 1 ≤ R.frames → 64 * (d + 1) ≤ R.locals → cells + (cs'.length - cs.length) ≤ R.cells → slots + (ctot cs' - ctot cs) ≤ R.slots →
  ∀ (H : Heap) (locs : List Loc) (lA : Array Slot), cHC Z cs H → va_S (cA Z) s.heap H locs → cLV Z (zmxl mi) ls lA →
  (∀ (H' : Heap) (locs' : List Loc) (lA' : Array Slot) (pc' : Nat), cHC Z cs' H' → va_S (cA Z) s.heap H' locs' → decode cc pc' = .ok (.return_, 1) → W p l e R s m args below meth c H' locs' (cells + (cs'.length - cs.length)) (slots + (ctot cs' - ctot cs)) Q (F0 m pc' lA' [])) →
  W p l e R s m args below meth c H locs cells slots Q (F0 m pc lA (st.map (ccv Z.1)))
def crm (d mc ms : Nat) : Room := { frames := d + 1, cells := mc, slots := ms, locals := 64 * (d + 1) }
def cPc (Z : cP) (as : List cV) (cs : List cC) : Array Value → State → Prop := va_Pc (as.map (ccv Z.1)) (fun U => cG Z U ∧ Z.1 ≤ U.heap.size ∧ cHC Z cs U.heap)
def cQc (Z : cP) (cs : List cC) : Array Value → State → Outcome → State → Prop := fun _ st oc t => oc = .returned none ∧ cHC Z cs t.heap ∧ va_F (cA Z) st t
theorem cent_LV {Z : cP} {mi : Nat} {as : List cV} (hlen : as.length ≤ zmxl mi) : cLV Z (zmxl mi) (cent mi as) ((lg_sl (as.map (ccv Z.1)) ++ List.replicate (zmxl mi - (lg_sl (as.map (ccv Z.1))).length) Slot.unset).toArray) := by
  have hc : ∀ v ∈ as.map (ccv Z.1), v.category = 1 := by
    intro v hv
    obtain ⟨w, hw, rfl⟩ := List.mem_map.mp hv
    exact ccat _ w
  have hl := lv_entry (as.map (ccv Z.1)) (n := zmxl mi) (by rw [zsl_len hc, List.length_map]; exact hlen)
  refine ⟨hl.1, hl.2.1, ?_, fun i v hv => ?_⟩
  · unfold cent
    simp only [List.length_append, List.length_map, List.length_replicate]
    omega
  · unfold cent at hv
    by_cases hi : i < as.length
    · rw [List.getElem?_append_left (by simpa using hi), List.getElem?_map] at hv
      cases ha : as[i]? with
      | none => rw [ha] at hv; cases hv
      | some w =>
        rw [ha] at hv
        cases hv
        have := zargs_at hc 0 i (ccv Z.1 v) (by rw [List.getElem?_map, ha]; rfl)
        rw [Nat.zero_add] at this
        exact hl.2.2 _ this
    · rw [List.getElem?_append_right (by simpa using Nat.not_lt.mp hi)] at hv
      have := List.mem_of_getElem? hv
      rw [List.mem_replicate] at this
      cases this.2
theorem cMet_of {Z : cP} {l : Launch} {n : Nat} (ih : cWst Z l n) {d mi : Nat} {as : List cV} {cs cs' : List cC} (hu : cinC mi = true) (hlen : as.length = znar mi) (he : ccx n d mi 0 (cent mi as) [] cs = some cs') : Met l (zy mi) (zwS mi) (crm d (cs'.length - cs.length) (ctot cs' - ctot cs)) (cPc Z as cs) (cQc Z cs') (cs'.length - cs.length) (ctot cs' - ctot cs) (cA Z) := by
  obtain ⟨y, cc, e1, e2, hcw, hpd, hcls, hpl, hne, hna, hmx, hini, hin, hnm, h1⟩ := cU_ok hu
  have hr0 : zret mi = none := by
    obtain ⟨-, hk⟩ := cinC_ok hu
    unfold cokM at hk
    simp only [Bool.and_eq_true, decide_eq_true_eq] at hk
    exact hk.1.1.1.2
  unfold zwS
  rw [e1, e2, hr0]
  refine Met.ofW (cc := cc) (maxL := zmxl mi) (ret := none) hpl rfl ?_
  intro p e s m args below meth c s₁ B hml hv
  obtain ⟨rfl, hG, hzs, hH⟩ := hv
  have hts := atoms_spec (ws := Cond.code y cc (zmxl mi) none :: zGW) B.pre
  have hown : s.vm.findClass y.cls = some m.cls := findClass_of_methodNamed B.named
  rw [hcls] at hown
  rw [lg_entry_eq]
  have hl := cent_LV (Z := Z) (mi := mi) (as := as) (by omega)
  have hlk : meth.locks = false := B.notSynchronized
  have hin0 : meth.name = "<init>" := by rw [← hnm]; exact (name_of_methodNamed B.named B.method).1
  have hdec : ∀ q ∈ zTAB.getD mi [], decode cc q.1 = .ok q.2 := by
    rw [← e2]
    exact cdec_m hu
  refine ih d mi 0 (cent mi as) [] cs cs' he p e (headSpec (Cond.code y cc (zmxl mi) none :: zGW) (crm d (cs'.length - cs.length) (ctot cs' - ctot cs))).room s m _ below meth c 0 0 _ cc B.exec B.bytes hml hown (fun w hw => hts w (List.mem_cons_of_mem _ hw)) (fun _ => hin0) hG hzs hdec (Nat.le_refl _) (Nat.le_refl _) (by show 0 + _ ≤ cs'.length - cs.length; omega) (by show 0 + _ ≤ ctot cs' - ctot cs; omega) s.heap [] _ hH va_S.rf hl ?_
  intro H' locs' lA' pc' hH' hS' hd
  rw [Nat.zero_add, Nat.zero_add]
  exact W.vret B.exec B.bytes B.returns (fun t ht hW => ⟨rfl, by rw [ht]; exact hH', hS'.F ht⟩) hS'.2.2 hd
theorem cPc_blind {Z : cP} {as : List cV} {cs : List cC} : FrameBlind (cPc Z as cs) := by
  intro a U g mk hP
  obtain ⟨rfl, hG, hz, hH⟩ := hP
  exact ⟨rfl, cG.same (u := U) (U := U.calling g mk _) rfl hG, hz, hH⟩
/-- a constructor's call, by its contract -/
theorem cW_call {Z : cP} {p : Program} {l : Launch} {e : Env} {R : Room} {s : State} {m : MethodId} {args : Array Value} {below : List Frame} {meth : Method} {c : Code} {cells slots : Nat} {Q : State → Prop} {cc : ByteArray} {mi pc m' d x nL : Nat} {as' r : List cV} {cs cs' : List cC} {H : Heap} {locs : List Loc} {lA : Array Slot} {j : Nat}
    (hM : Met l (zy m') (zwS m') (crm d (cs'.length - cs.length) (ctot cs' - ctot cs)) (cPc Z (.inr (some j) :: as') cs) (cQc Z cs') (cs'.length - cs.length) (ctot cs' - ctot cs) (cA Z)) (hu : cinC m' = true) (hlen : as'.length + 1 = znar m') (hr : r.length ≤ 4) (hq : zmlk (zown mi) x = some m')
    (hx : p.tables.exec = Jvm.exec) (hb : c.code = cc) (hml : c.maxLocals = nL) (hown : s.vm.findClass (znm (zown mi)) = some m.cls) (hts : ∀ w ∈ zGW, w.before args s = true) (hG : cG Z s) (hzs : Z.1 ≤ s.heap.size) (hRf : d + 1 + 1 ≤ R.frames) (hRl : 64 * (d + 1 + 1) ≤ R.locals) (hRc : cells + (cs'.length - cs.length) ≤ R.cells) (hRs : slots + (ctot cs' - ctot cs) ≤ R.slots) (hH : cHC Z cs H) (hS : va_S (cA Z) s.heap H locs) (hsz : lA.size = nL) (hd : decode cc pc = .ok (.invokespecial x, 3))
    (K : ∀ (H' : Heap) (locs' : List Loc), cHC Z cs' H' → va_S (cA Z) s.heap H' locs' → W p l e R s m args below meth c H' locs' (cells + (cs'.length - cs.length)) (slots + (ctot cs' - ctot cs)) Q (F0 m (pc + 3) lA (r.map (ccv Z.1)))) : W p l e R s m args below meth c H locs cells slots Q (F0 m pc lA ((as'.reverse ++ .inr (some j) :: r).map (ccv Z.1))) := by
  obtain ⟨y, cy, e1, e2, hcw, hpd, hcls, hpl, hne, hna, hmx, hini, hin, hnm, h1⟩ := cU_ok hu
  have hr0 : zret m' = none := by
    obtain ⟨-, hk⟩ := cinC_ok hu
    unfold cokM at hk
    simp only [Bool.and_eq_true, decide_eq_true_eq] at hk
    exact hk.1.1.1.2
  have hm9 := (cinC_ok hu).1
  unfold zwS at hM
  rw [e1, e2, hr0] at hM
  have hpre : PreS s H (cPc Z (.inr (some j) :: as') cs) (.ref (Z.1 + j) :: as'.map (ccv Z.1)) := ⟨cPc_blind, fun U hU hW => ⟨rfl, hG.to hW, by rw [hU]; exact Nat.le_trans hzs hS.1, by rw [hU]; exact hH⟩⟩
  have hstk : (F0 m pc lA ((as'.reverse ++ .inr (some j) :: r).map (ccv Z.1))).stack = (as'.map (ccv Z.1)).reverse ++ .ref (Z.1 + j) :: r.map (ccv Z.1) := by
    show (as'.reverse ++ .inr (some j) :: r).map (ccv Z.1) = _
    rw [List.map_append, List.map_reverse, List.map_cons]
    rfl
  have hlen2 : (as'.map (ccv Z.1)).length = znar m' - 1 := by
    rw [List.length_map]
    omega
  have hW8 : ((r.map (ccv Z.1)).map fun v => v.category).sum ≤ 8 := by rw [ccatsum]; omega
  have hR : (crm d (cs'.length - cs.length) (ctot cs' - ctot cs)).frames + 1 ≤ R.frames ∧ 8 + (zmxl m' + 11) + (crm d (cs'.length - cs.length) (ctot cs' - ctot cs)).locals ≤ R.locals := by
    constructor
    · exact hRf
    · show 8 + (zmxl m' + 11) + 64 * (d + 1) ≤ R.locals
      omega
  have hwords : ∀ w ∈ Cond.code y cy (zmxl m') none :: zGW, w ∈ zGW := fun w hw => (List.mem_cons.mp hw).elim (fun q => by rw [q]; exact hcw) id
  have run : va_Run p l e R s m args below meth c H locs cells slots (cs'.length - cs.length) (ctot cs' - ctot cs) (F0 m pc lA ((as'.reverse ++ .inr (some j) :: r).map (ccv Z.1))) (r.map (ccv Z.1)) (cQc Z cs' (Value.ref (Z.1 + j) :: as'.map (ccv Z.1)).toArray) (cA Z) := by
    rcases zmlk_m hq hm9 with hw | hw
    · rw [e1] at hw
      exact va_runIN (n := znar m' - 1) (Ts := zGW) (nL := nL) ⟨hx, hb, hml, hown, hts⟩ hM ⟨va_cnB _ hts (zGoodIn hwords) rfl rfl rfl (hG.2.1 _ hw rfl) (by rw [hcls]; exact hts _ hini) ⟨hne.1, hne.2, hpd⟩ hR, hnm, hts _ hin⟩ hpre rfl hlen2 hsz hstk (lv_room hW8) hd ⟨hRc, hRs⟩
    · rw [e1] at hw
      exact va_runI (n := znar m' - 1) (Ts := zGW) (nL := nL) ⟨hx, hb, hml, hown, hts⟩ hM (cwI _ hts (zGoodIn hwords) rfl rfl rfl (by rw [hcls]; exact hts _ hini) (hts _ hw) (hts _ hin) hnm ⟨hne.1, hne.2, hpd⟩ hR) hpre rfl hlen2 hsz hstk (lv_room hW8) hd ⟨hRc, hRs⟩
  intro T hT X
  obtain ⟨v, st₀, t, T', L, h0, X', hL, g1, g2, ⟨hv, hH1, hz, hk⟩, st⟩ := run T hT X
  have hv := Outcome.returned.inj hv
  subst hv
  rw [h0] at hz hk
  have hS' : va_S (cA Z) s.heap T'.heap (locs ++ L) := by
    refine ⟨Nat.le_trans hS.1 (by rw [g1]; exact hz), fun q h1 h2 => by rw [g1, hk q (Nat.lt_of_lt_of_le h1 hS.1) h2]; exact hS.2.1 q h1 h2, fun q hq => ?_⟩
    rcases List.mem_append.mp hq with h | h
    · exact hS.2.2 q h
    · exact hL q h
  obtain ⟨t2, a1, b1⟩ := K T'.heap (locs ++ L) (by rw [g1]; exact hH1) hS' T' rfl X'
  exact ⟨t2, st t2 a1, b1⟩
set_option maxHeartbeats 2000000 in
theorem cW_main {Z : cP} (l : Launch) : ∀ n, cWst Z l n := by
  intro n
  induction n with
  | zero => intro d mi pc ls st cs cs' he; cases he
  | succ n ih =>
    intro d mi pc ls st cs cs' he p e R s m args below meth c cells slots Q cc hx hb hml hown hts hin hG hzs hdec hRf hRl hRc hRs H locs lA hH hS hl hQ
    rw [ccx] at he
    cases hi : cfet mi pc with
    | none => rw [hi] at he; cases he
    | some i =>
      rw [hi] at he
      simp only at he
      have hd := cfet_dec hdec hi
      cases hs : cstep mi pc i ls st cs with
      | none => rw [hs] at he; cases he
      | some x =>
        rw [hs] at he
        obtain ⟨pc', ls', st', cs1⟩ | ⟨m', as, rest⟩ | u := x
        · have m1 := cstep_mono hs
          have m2 := ccx_mono _ _ _ _ _ _ _ _ he
          refine cW_next hx hb hml hown hts hin hG hzs (by omega) (by omega) hd hs (by omega) (by omega) hH hS hl (fun H' locs' lA' a1 a2 a3 => ?_)
          refine ih d mi pc' ls' st' cs1 cs' he p e R s m args below meth c _ _ Q cc hx hb hml hown hts hin hG hzs hdec hRf hRl (by omega) (by omega) H' locs' lA' a1 a2 a3 (fun H2 locs2 lA2 pc2 b1 b2 b3 => ?_)
          have := hQ H2 locs2 lA2 pc2 b1 b2 b3
          rw [show cells + (cs1.length - cs.length) + (cs'.length - cs1.length) = cells + (cs'.length - cs.length) by omega, show slots + (ctot cs1 - ctot cs) + (ctot cs' - ctot cs1) = slots + (ctot cs' - ctot cs) by omega]
          exact this
        · cases d with
          | zero => cases he
          | succ d =>
            simp only at he
            cases hc : ccx n d m' 0 (cent m' as) [] cs with
            | none => rw [hc] at he; cases he
            | some cs1 =>
              rw [hc] at he
              simp only at he
              have m1 := ccx_mono _ _ _ _ _ _ _ _ hc
              have m2 := ccx_mono _ _ _ _ _ _ _ _ he
              cases i with
              | invokespecial x =>
                unfold cstep at hs
                simp only at hs
                split at hs
                · next m2' hm2 =>
                  split at hs
                  · split at hs
                    · split at hs <;> cases hs
                    · cases hs
                  · split at hs
                    · next hcond =>
                      obtain ⟨hu, hn1, hn2⟩ := hcond
                      split at hs
                      · next j as' has =>
                        cases hs
                        have hst : st = as'.reverse ++ .inr (some j) :: st.drop (znar m') := by
                          have h1 : st.take (znar m') = (.inr (some j) :: as').reverse := by rw [← has, List.reverse_reverse]
                          conv => lhs; rw [← List.take_append_drop (znar m') st, h1]
                          simp
                        have hlen : as'.length + 1 = znar m' := by
                          have h1 := congrArg List.length has
                          rw [List.length_reverse, List.length_take] at h1
                          simp only [List.length_cons] at h1
                          omega
                        have hM := cMet_of ih hu (by simpa using hlen) hc
                        rw [hst]
                        refine cW_call hM hu hlen (by rw [List.length_drop]; omega) hm2 hx hb hml hown hts hG hzs hRf hRl (by omega) (by omega) hH hS hl.1 hd (fun H' locs' a1 a2 => ?_)
                        refine ih (d + 1) mi (pc + 3) ls _ cs1 cs' he p e R s m args below meth c _ _ Q cc hx hb hml hown hts hin hG hzs hdec hRf hRl (by omega) (by omega) H' locs' lA a1 a2 hl (fun H2 locs2 lA2 pc2 b1 b2 b3 => ?_)
                        have := hQ H2 locs2 lA2 pc2 b1 b2 b3
                        rw [show cells + (cs1.length - cs.length) + (cs'.length - cs1.length) = cells + (cs'.length - cs.length) by omega, show slots + (ctot cs1 - ctot cs) + (ctot cs' - ctot cs1) = slots + (ctot cs' - ctot cs) by omega]
                        exact this
                      · cases hs
                    · cases hs
                · cases hs
              | _ => exact absurd hs (cstep_nc rfl)
        · cases he
          have hri : i = .return_ ∧ st = [] := cstep_ret hs
          obtain ⟨rfl, rfl⟩ := hri
          have := hQ H locs lA pc hH hS hd
          rw [Nat.sub_self, Nat.sub_self] at this
          exact this
