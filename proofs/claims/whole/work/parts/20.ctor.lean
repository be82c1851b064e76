/-! THE CONSTRUCTORS: a machine of their own, that makes cells; all of it concrete -/
abbrev cV : Type := Int32 ⊕ Option Nat
abbrev cC : Type := (Nat × Nat × List (Nat × Int32)) ⊕ (Nat × List cV)
abbrev cLS : Type := List (Option cV)
def clg (log : List (Nat × Int32)) (j : Nat) : Option Int32 := match log.find? (fun q => Nat.beq q.1 j) with
  | some q => some q.2
  | none => none
def ccv (b0 : Nat) (v : cV) : Value := match v with
  | .inl x => .int x
  | .inr none => .null
  | .inr (some j) => .ref (b0 + j)
abbrev cP : Type := Nat × va_G × (ClassId × ClassId × ClassId)
def ccell (Z : cP) (c : cC) : va_E := match c with
  | .inr (k, fs) => .inr (k, fs.map (ccv Z.1))
  | .inl (t, n, log) => if t = 2 then .inl (Z.2.2.2.2, n, .inr (.inr (.inr (.inr (fun j => match clg log j with
      | some v => some (Z.1 + v.toNatClampNeg)
      | none => none)))))
    else .inl (if t = 0 then Z.2.2.1 else Z.2.2.2.1, n, .inl (fun j => (clg log j).getD 0))
def cws (Z : cP) (cs : List cC) : va_W := cs.zipIdx.map fun q => (Z.1 + q.2, ccell Z q.1)
def csz (c : cC) : Nat := match c with
  | .inr (_, fs) => fs.length
  | .inl (_, n, _) => n
def ctot (cs : List cC) : Nat := (cs.map csz).sum
def clget (ls : cLS) (i : Nat) : Option cV := match ls[i]? with
  | some (some v) => some v
  | _ => none
/-- what a field holds when its object is made -/
def cdef (k f : Nat) : cV := match zfty k f with
  | 2 => .inr none
  | 3 => .inr none
  | _ => .inl 0
def cNW : List (Nat × Nat × Nat) := [(13, 7, 11), (11, 7, 10), (10, 9, 3), (10, 22, 2), (10, 40, 8), (11, 19, 3), (11, 26, 4), (4, 9, 3), (11, 33, 7), (11, 40, 6), (6, 9, 2), (11, 49, 9), (9, 22, 1), (11, 58, 0), (11, 65, 5), (13, 10, 12)]
def cnw (o x : Nat) : Option Nat := match cNW.find? (fun q => Nat.beq q.1 o && Nat.beq q.2.1 x) with
  | some q => some q.2.2
  | none => none
def cwd (i : Instr) : Nat := match i with
  | .bipush _ | .newarray _ => 2
  | .sipush _ | .getfield _ | .putfield _ | .invokespecial _ | .if_icmp _ _ | .goto _ | .iinc _ _ | .new _ | .anewarray _ => 3
  | _ => 1
def cCT : List Nat := [0, 11, 17, 22, 36, 40, 56, 73, 82, 85, 104, 108, 154]
def cinC (m : Nat) : Bool := cCT.any (fun q => Nat.beq q m)
def cfet (m pc : Nat) : Option Instr := match (zTAB.getD m []).find? (fun q => Nat.beq q.1 pc) with
  | some q => if Nat.beq q.2.2 (cwd q.2.1) && !zsw q.2.1 then some q.2.1 else none
  | none => none
abbrev cAR : Type := (Nat × cLS × List cV × List cC) ⊕ ((Nat × List cV × List cV) ⊕ Unit)
/-- may this value be put there? -/
def cfit (k f : Nat) (v : cV) : Bool := match zfty k f, v with
  | 0, .inl _ => true
  | 5, .inl _ => true
  | 2, .inr (some _) => true
  | 3, .inr (some _) => true
  | _, _ => false
def cstep (m pc : Nat) (i : Instr) (ls : cLS) (st : List cV) (cs : List cC) : Option cAR := match i with
  | .iconst n => some (.inl (pc + 1, ls, .inl (Int32.ofInt n) :: st, cs))
  | .bipush n => some (.inl (pc + 2, ls, .inl (Int8.ofInt n).toInt32 :: st, cs))
  | .sipush n => some (.inl (pc + 3, ls, .inl (Int16.ofInt n).toInt32 :: st, cs))
  | .iload_n x => (match clget ls x.val with
    | some (.inl v) => some (.inl (pc + 1, ls, .inl v :: st, cs))
    | _ => none)
  | .aload_n x => (match clget ls x.val with
    | some (.inr (some j)) => some (.inl (pc + 1, ls, .inr (some j) :: st, cs))
    | _ => none)
  | .istore_n x => (match st with
    | .inl v :: r => if x.val < ls.length then some (.inl (pc + 1, ls.set x.val (some (.inl v)), r, cs)) else none
    | _ => none)
  | .astore_n x => (match st with
    | .inr (some j) :: r => if x.val < ls.length then some (.inl (pc + 1, ls.set x.val (some (.inr (some j))), r, cs)) else none
    | _ => none)
  | .iinc x n => (match clget ls x with
    | some (.inl v) => if x < ls.length then some (.inl (pc + 3, ls.set x (some (.inl (v + Int32.ofInt n))), st, cs)) else none
    | _ => none)
  | .dup => (match st with
    | v :: r => some (.inl (pc + 1, ls, v :: v :: r, cs))
    | _ => none)
  | .if_icmp .ge off => (match zjt pc off with
    | none => none
    | some t => (match st with
      | .inl y :: .inl x :: r => if y ≤ x then some (.inl (t, ls, r, cs)) else some (.inl (pc + 3, ls, r, cs))
      | _ => none))
  | .goto off => (match zjt pc off with
    | none => none
    | some t => some (.inl (t, ls, st, cs)))
  | .new x => (match cnw (zown m) x with
    | some k => some (.inl (pc + 3, ls, .inr (some cs.length) :: st, cs ++ [.inr (k, (List.range (znf k)).map (cdef k))]))
    | none => none)
  | .newarray t => (match st with
    | .inl n :: r => if ¬ n < 0 ∧ n.toNatClampNeg ≤ 100000 ∧ (t = .int ∨ t = .byte) then some (.inl (pc + 2, ls, .inr (some cs.length) :: r, cs ++ [.inl (if t = .int then 0 else 1, n.toNatClampNeg, [])])) else none
    | _ => none)
  | .anewarray x => (match st with
    | .inl n :: r => if ¬ n < 0 ∧ n.toNatClampNeg ≤ 100000 ∧ cnw (zown m) x = some 3 then some (.inl (pc + 3, ls, .inr (some cs.length) :: r, cs ++ [.inl (2, n.toNatClampNeg, [])])) else none
    | _ => none)
  | .putfield x => (match zflk (zown m) x, st with
    | some (k, f), v :: .inr (some j) :: r => (match cs[j]? with
      | some (.inr (k', fs)) => if k' = k ∧ k ≤ 12 ∧ zown m = k ∧ f < fs.length ∧ cfit k f v = true then some (.inl (pc + 3, ls, r, cs.set j (.inr (k', fs.set f v)))) else none
      | _ => none)
    | _, _ => none)
  | .getfield x => (match zflk (zown m) x, st with
    | some (k, f), .inr (some j) :: r => (match cs[j]? with
      | some (.inr (k', fs)) => if k' = k ∧ k ≤ 12 then (match fs[f]? with
        | some v => some (.inl (pc + 3, ls, v :: r, cs))
        | none => none) else none
      | _ => none)
    | _, _ => none)
  | .iastore => (match st with
    | .inl v :: .inl x :: .inr (some j) :: r => (match cs[j]? with
      | some (.inl (t, n, log)) => if t = 0 ∧ zIn x n = true then some (.inl (pc + 1, ls, r, cs.set j (.inl (t, n, (x.toNatClampNeg, v) :: log)))) else none
      | _ => none)
    | _ => none)
  | .aastore => (match st with
    | .inr (some q) :: .inl x :: .inr (some j) :: r => (match cs[j]?, cs[q]? with
      | some (.inl (t, n, log)), some (.inr (k, _)) => if t = 2 ∧ k = 3 ∧ zIn x n = true ∧ q < 100000 then some (.inl (pc + 1, ls, r, cs.set j (.inl (t, n, (x.toNatClampNeg, Int32.ofNat q) :: log)))) else none
      | _, _ => none)
    | _ => none)
  | .invokespecial x => (match zmlk (zown m) x with
    | some m' => if m' = 998 then (match st with
        | .inr (some _) :: r => if r.length ≤ 4 then some (.inl (pc + 3, ls, r, cs)) else none
        | _ => none)
      else if cinC m' = true ∧ znar m' ≤ st.length ∧ st.length ≤ znar m' + 4 then (match (st.take (znar m')).reverse with
        | .inr (some j) :: as => some (.inr (.inl (m', .inr (some j) :: as, st.drop (znar m'))))
        | _ => none) else none
    | none => none)
  | .return_ => (match st with
    | [] => some (.inr (.inr ()))
    | _ => none)
  | _ => none
def cent (m : Nat) (as : List cV) : cLS := as.map some ++ List.replicate (zmxl m - as.length) none
def ccx : Nat → Nat → Nat → Nat → cLS → List cV → List cC → Option (List cC)
  | 0, _, _, _, _, _, _ => none
  | n + 1, d, m, pc, ls, st, cs => match cfet m pc with
    | none => none
    | some i => match cstep m pc i ls st cs with
      | none => none
      | some (.inl (pc', ls', st', cs')) => ccx n d m pc' ls' st' cs'
      | some (.inr (.inl (m', as, r))) => match d with
        | 0 => none
        | d' + 1 => match ccx n d' m' 0 (cent m' as) [] cs with
          | none => none
          | some cs' => ccx n (d' + 1) m (pc + 3) ls r cs'
      | some (.inr (.inr _)) => some cs
def cNX : List Nat := [150, 158, 164, 245, 272, 339, 341, 347, 361, 384, 390, 420, 426, 477, 493, 1225]
def cNI : List Nat := [478, 427, 246, 165, 342, 494, 385, 362, 273, 421, 159, 151, 1226]
def cNJ : List Nat := [140, 139, 133, 132, 135, 141, 137, 136, 134, 138, 131, 130, 142]
/-! what the tables say of constructors and of what they make -/
def cokM (m : Nat) : Bool := zokM m && zat (zWI.getD m (0, 0, 0)).1 (.instanceMethod (zy m)) && zat (zWI.getD m (0, 0, 0)).2.2 (.initialized (znm (zown m))) && decide ((zy m).name = "<init>") && !zsta m && decide (zret m = none) && decide (1 ≤ znar m) && zchk 0 (zcode m).data.toList (zTAB.getD m []) && (zTAB.getD m []).all (fun q => !zsw q.2.1)
set_option maxRecDepth 100000 in
theorem cCT_a : ∀ m ∈ cCT.take 12, cokM m = true := by decide +kernel
set_option maxRecDepth 100000 in
theorem cCT_b : ∀ m ∈ cCT.drop 12, cokM m = true := by decide +kernel
def cokN (j : Nat) : Bool := match cNW[j]? with
  | some (o, x, k) => zat (cNX.getD j 0) (.classLink (znm o) x (znm k)) && decide (k < 13)
  | none => false
theorem cN_ok : ((List.range cNW.length).all cokN) = true := by decide +kernel
def cokI (k : Nat) : Bool := zat (cNI.getD k 0) (.instantiable (znm k) (znf k)) && zat (cNJ.getD k 0) (.initialized (znm k))
theorem cI_ok : ((List.range 13).all cokI) = true := by decide +kernel
theorem cdecl : ((List.range 13).all fun k => (List.range (znf k)).all fun f => decide ((zT (zfd_ k) f).1 = znm k)) = true := by decide +kernel
theorem cplain : ((List.range zFLK.length).all fun j => match zFLK[j]? with
  | some (o, _, k, _) => !decide (o = k) || !(zFLN.getD j false)
  | none => true) = true := by decide +kernel
theorem cinC_ok {m : Nat} (h : cinC m = true) : m < 900 ∧ cokM m = true := by
  unfold cinC at h
  rw [List.any_eq_true] at h
  obtain ⟨q, hq, e⟩ := h
  have e := Nat.eq_of_beq_eq_true e
  subst e
  refine ⟨(show ∀ q ∈ cCT, q < 900 by decide +kernel) q hq, ?_⟩
  rw [← List.take_append_drop 12 cCT] at hq
  rcases List.mem_append.mp hq with h | h
  · exact cCT_a q h
  · exact cCT_b q h
theorem cnw_ok {o x k : Nat} (h : cnw o x = some k) : k < 13 ∧ Cond.classLink (znm o) x (znm k) ∈ zGW := by
  unfold cnw at h
  split at h
  · next q hq =>
    have hm := List.mem_of_find?_eq_some hq
    have hb := List.find?_some hq
    rw [Bool.and_eq_true] at hb
    have e1 := Nat.eq_of_beq_eq_true hb.1
    have e2 := Nat.eq_of_beq_eq_true hb.2
    obtain ⟨q1, q2, q3⟩ := q
    cases h
    simp only at e1 e2
    subst e1; subst e2
    obtain ⟨j, hj⟩ := List.getElem?_of_mem hm
    have hk := zrange cN_ok (List.getElem?_eq_some_iff.mp hj).1
    unfold cokN at hk
    rw [hj] at hk
    simp only [Bool.and_eq_true, decide_eq_true_eq] at hk
    exact ⟨hk.2, zat_in hk.1⟩
  · cases h
theorem zflk_own {x k f : Nat} (hk : k < 13) (h : zflk k x = some (k, f)) : f < znf k ∧ Cond.fieldLink (znm k) x (zT (zfd_ k) f).1 (zT (zfd_ k) f).2.1 (zT (zfd_ k) f).2.2.1 ∈ zGW := by
  unfold zflk at h
  split at h
  · next q hq =>
    have hm := List.mem_of_find?_eq_some hq
    have hb := List.find?_some hq
    rw [Bool.and_eq_true] at hb
    have e1 := Nat.eq_of_beq_eq_true hb.1
    have e2 := Nat.eq_of_beq_eq_true hb.2
    obtain ⟨q1, q2, q3⟩ := q
    cases h
    simp only at e1 e2
    subst e1; subst e2
    obtain ⟨j, hj⟩ := List.getElem?_of_mem hm
    have hjl := (List.getElem?_eq_some_iff.mp hj).1
    have hk2 := zrange zL_ok hjl
    have hk3 := zrange cplain hjl
    simp only [hj, decide_true, Bool.not_true, Bool.false_or, Bool.not_eq_true'] at hk3
    unfold zokL at hk2
    rw [hj] at hk2
    simp only at hk2
    rw [if_neg (by omega), hk3] at hk2
    simp only [Bool.and_eq_true, decide_eq_true_eq, Bool.false_eq_true, if_false] at hk2
    exact ⟨hk2.1.2, zat_in hk2.2⟩
  · cases h
theorem cdec_m {m : Nat} (h : cinC m = true) : ∀ q ∈ zTAB.getD m [], decode (zcode m) q.1 = .ok q.2 := by
  obtain ⟨-, hk⟩ := cinC_ok h
  unfold cokM at hk
  simp only [Bool.and_eq_true] at hk
  refine zdec_of hk.1.2 ?_
  rw [List.all_eq_true]
  intro q hq
  have := List.all_eq_true.mp hk.2 q hq
  rw [this]
  rfl
theorem cfet_dec {m pc : Nat} {i : Instr} {code : ByteArray} (hd : ∀ q ∈ zTAB.getD m [], decode code q.1 = .ok q.2) (h : cfet m pc = some i) : decode code pc = .ok (i, cwd i) := by
  unfold cfet at h
  split at h
  · next q hq =>
    split at h
    · next hw =>
      cases h
      rw [Bool.and_eq_true] at hw
      have hm := List.mem_of_find?_eq_some hq
      have hb0 : Nat.beq q.1 pc = true := by have hh := List.find?_some hq; exact hh
      rw [← Nat.eq_of_beq_eq_true hb0, ← Nat.eq_of_beq_eq_true hw.1]
      exact hd q hm
    · cases h
  · cases h
/-! the worlds of cells made so far -/
def cG (Z : cP) (U : State) : Prop := va_K Z.2.1 zcl [(Z.2.2.1, .int), (Z.2.2.2.1, .byte), (Z.2.2.2.2, .object (znm 3))] U ∧ (∀ w ∈ lw_tbl, zisN w = true → va_Nw w U) ∧ va_AO (znm 3) U
def cHC (Z : cP) (cs : List cC) (H : Heap) : Prop := H.size = Z.1 + cs.length ∧ va_P Z.2.1 zcl (cws Z cs) H
def cA (Z : cP) : Nat → Prop := fun q => Z.1 ≤ q
def cLV (Z : cP) (nL : Nat) (ls : cLS) (lA : Array Slot) : Prop := lA.size = nL ∧ lv_wf lA ∧ ls.length = nL ∧ ∀ (i : Nat) (v : cV), ls[i]? = some (some v) → lA[i]? = some (.val (ccv Z.1 v))
theorem ccat (b0 : Nat) (v : cV) : (ccv b0 v).category = 1 := by
  obtain x | q := v
  · rfl
  · cases q <;> rfl
theorem ccatsum (b0 : Nat) : ∀ (r : List cV), ((r.map (ccv b0)).map fun v => v.category).sum = r.length
  | [] => rfl
  | v :: r => by
    simp only [List.map_cons, List.sum_cons, List.length_cons, ccat, ccatsum b0 r]
    omega
theorem cws_get {Z : cP} {cs : List cC} {j : Nat} : (cws Z cs)[j]? = (cs[j]?).map fun c => (Z.1 + j, ccell Z c) := by
  unfold cws
  rw [List.getElem?_map, List.getElem?_zipIdx]
  cases cs[j]? <;> simp
theorem cws_at {Z : cP} {cs : List cC} {j : Nat} {c : cC} (h : cs[j]? = some c) : (cws Z cs)[j]? = some (Z.1 + j, ccell Z c) := by rw [cws_get, h]; rfl
theorem cws_push {Z : cP} {cs : List cC} {c : cC} : cws Z (cs ++ [c]) = cws Z cs ++ [(Z.1 + cs.length, ccell Z c)] := by
  unfold cws
  rw [List.zipIdx_append, List.map_append]
  simp
theorem cws_set {Z : cP} {cs : List cC} {c c' : cC} {j : Nat} (h : cs[j]? = some c) : cws Z (cs.set j c') = (cws Z cs).set j (Z.1 + j, ccell Z c') := by
  apply List.ext_getElem?
  intro n
  rw [cws_get, List.getElem?_set, List.getElem?_set]
  have hl := (List.getElem?_eq_some_iff.mp h).1
  by_cases hn : j = n
  · subst hn
    have : j < (cws Z cs).length := by unfold cws; simpa using hl
    rw [if_pos rfl, if_pos hl, if_pos rfl, if_pos this]
    rfl
  · rw [if_neg hn, if_neg hn, cws_get]
theorem cD_of {Z : cP} (cs : List cC) : va_D (cA Z) (cws Z cs) := by
  have key : ∀ (n : Nat) (x : Nat × va_E), (cws Z cs)[n]? = some x → x.1 = Z.1 + n := by
    intro n x hx
    rw [cws_get] at hx
    cases hc : cs[n]? with
    | none => rw [hc] at hx; cases hx
    | some c => rw [hc] at hx; cases hx; rfl
  refine ⟨fun i j x y hi hj e => ?_, fun n x hx => ?_⟩
  · have h1 := key i x hi
    have h2 := key j y hj
    omega
  · show Z.1 ≤ x.1
    have := key n x hx
    omega
theorem ctot_push {cs : List cC} {c : cC} : ctot (cs ++ [c]) = ctot cs + csz c := by
  unfold ctot
  simp
theorem ctot_set {cs : List cC} {c c' : cC} {j : Nat} (h : cs[j]? = some c) (he : csz c' = csz c) : ctot (cs.set j c') = ctot cs := by
  have : (cs.set j c').map csz = cs.map csz := by
    apply List.ext_getElem?
    intro n
    rw [List.getElem?_map, List.getElem?_map, List.getElem?_set]
    have hl := (List.getElem?_eq_some_iff.mp h).1
    by_cases hn : j = n
    · subst hn
      rw [if_pos rfl, if_pos hl, h]
      show some _ = some _
      rw [he]
    · rw [if_neg hn]
  unfold ctot
  rw [this]
theorem cstep_mono {m pc pc' : Nat} {i : Instr} {ls ls' : cLS} {st st' : List cV} {cs cs' : List cC} (hs : cstep m pc i ls st cs = some (.inl (pc', ls', st', cs'))) : cs.length ≤ cs'.length ∧ ctot cs ≤ ctot cs' := by
  have hr : cs.length ≤ cs.length ∧ ctot cs ≤ ctot cs := ⟨Nat.le_refl _, Nat.le_refl _⟩
  have hp : ∀ c : cC, cs.length ≤ (cs ++ [c]).length ∧ ctot cs ≤ ctot (cs ++ [c]) := fun c => ⟨by simp, by rw [ctot_push]; omega⟩
  have hset : ∀ (j : Nat) (c c' : cC), cs[j]? = some c → csz c' = csz c → cs.length ≤ (cs.set j c').length ∧ ctot cs ≤ ctot (cs.set j c') := fun j c c' h e => ⟨by simp, by rw [ctot_set h e]; exact Nat.le_refl _⟩
  cases i with
  | iconst n => cases hs; exact hr
  | bipush n => cases hs; exact hr
  | sipush n => cases hs; exact hr
  | iload_n x =>
    unfold cstep at hs
    simp only at hs
    split at hs
    · cases hs; exact hr
    · cases hs
  | aload_n x =>
    unfold cstep at hs
    simp only at hs
    split at hs
    · cases hs; exact hr
    · cases hs
  | istore_n x =>
    unfold cstep at hs
    simp only at hs
    split at hs
    · split at hs
      · cases hs; exact hr
      · cases hs
    · cases hs
  | astore_n x =>
    unfold cstep at hs
    simp only at hs
    split at hs
    · split at hs
      · cases hs; exact hr
      · cases hs
    · cases hs
  | iinc x n =>
    unfold cstep at hs
    simp only at hs
    split at hs
    · split at hs
      · cases hs; exact hr
      · cases hs
    · cases hs
  | dup =>
    unfold cstep at hs
    simp only at hs
    split at hs
    · cases hs; exact hr
    · cases hs
  | if_icmp c off =>
    cases c with
    | ge =>
      unfold cstep at hs
      simp only at hs
      split at hs
      · cases hs
      · split at hs
        · split at hs <;> (cases hs; exact hr)
        · cases hs
    | _ => cases hs
  | goto off =>
    unfold cstep at hs
    simp only at hs
    split at hs
    · cases hs
    · cases hs; exact hr
  | new x =>
    unfold cstep at hs
    simp only at hs
    split at hs
    · cases hs; exact hp _
    · cases hs
  | newarray t =>
    unfold cstep at hs
    simp only at hs
    split at hs
    · split at hs
      · cases hs; exact hp _
      · cases hs
    · cases hs
  | anewarray x =>
    unfold cstep at hs
    simp only at hs
    split at hs
    · split at hs
      · cases hs; exact hp _
      · cases hs
    · cases hs
  | putfield x =>
    unfold cstep at hs
    simp only at hs
    split at hs
    · split at hs
      · next hj =>
        split at hs
        · cases hs
          refine hset _ _ _ hj ?_
          unfold csz
          simp
        · cases hs
      · cases hs
    · cases hs
  | getfield x =>
    unfold cstep at hs
    simp only at hs
    split at hs
    · split at hs
      · split at hs
        · split at hs
          · cases hs; exact hr
          · cases hs
        · cases hs
      · cases hs
    · cases hs
  | iastore =>
    unfold cstep at hs
    simp only at hs
    split at hs
    · split at hs
      · next hj =>
        split at hs
        · cases hs
          exact hset _ _ _ hj rfl
        · cases hs
      · cases hs
    · cases hs
  | aastore =>
    unfold cstep at hs
    simp only at hs
    split at hs
    · split at hs
      · next hj _ =>
        split at hs
        · cases hs
          exact hset _ _ _ hj rfl
        · cases hs
      · cases hs
    · cases hs
  | invokespecial x =>
    unfold cstep at hs
    simp only at hs
    split at hs
    · split at hs
      · split at hs
        · split at hs
          · cases hs; exact hr
          · cases hs
        · cases hs
      · split at hs
        · split at hs <;> cases hs
        · cases hs
    · cases hs
  | return_ =>
    unfold cstep at hs
    simp only at hs
    split at hs <;> cases hs
  | _ => cases hs
theorem ccx_mono : ∀ (n d m pc : Nat) (ls : cLS) (st : List cV) (cs cs' : List cC), ccx n d m pc ls st cs = some cs' → cs.length ≤ cs'.length ∧ ctot cs ≤ ctot cs' := by
  intro n
  induction n with
  | zero => intro d m pc ls st cs cs' h; cases h
  | succ n ih =>
    intro d m pc ls st cs cs' h
    rw [ccx] at h
    cases hi : cfet m pc with
    | none => rw [hi] at h; cases h
    | some i =>
      rw [hi] at h
      simp only at h
      cases hs : cstep m pc i ls st cs with
      | none => rw [hs] at h; cases h
      | some x =>
        rw [hs] at h
        obtain ⟨pc', ls', st', cs1⟩ | ⟨m', as, r⟩ | u := x
        · have h1 := cstep_mono hs
          have h2 := ih _ _ _ _ _ _ _ h
          exact ⟨Nat.le_trans h1.1 h2.1, Nat.le_trans h1.2 h2.2⟩
        · cases d with
          | zero => cases h
          | succ d =>
            simp only at h
            cases hc : ccx n d m' 0 (cent m' as) [] cs with
            | none => rw [hc] at h; cases h
            | some cs1 =>
              rw [hc] at h
              have h1 := ih _ _ _ _ _ _ _ hc
              have h2 := ih _ _ _ _ _ _ _ h
              exact ⟨Nat.le_trans h1.1 h2.1, Nat.le_trans h1.2 h2.2⟩
        · cases h
          exact ⟨Nat.le_refl _, Nat.le_refl _⟩
