/-! THE SEMANTICS of the abstract machine -/
/-- how long an instruction is, where its kind says it -/
def zwd (i : Instr) : Nat := match i with
  | .bipush _ | .ldc _ | .iload _ | .aload _ | .istore _ | .astore _ | .lload _ | .lstore _ => 2
  | .sipush _ | .ldc_w _ | .ldc2_w _ | .getstatic _ | .getfield _ | .putfield _ | .invokevirtual _ | .invokespecial _ | .invokestatic _ | .ifCond _ _ | .if_icmp _ _ | .goto _ | .iinc _ _ => 3
  | _ => 1
def zfet (m pc : Nat) : Option Instr := match (zTAB.getD m []).find? (fun q => Nat.beq q.1 pc) with
  | some q => if zsw q.2.1 || Nat.beq q.2.2 (zwd q.2.1) then some q.2.1 else none
  | none => none
/-- what the machine fetches stands in the code -/
theorem zfet_dec {m pc : Nat} {i : Instr} {code : ByteArray} (hd : ∀ q ∈ zTAB.getD m [], decode code q.1 = .ok q.2) (h : zfet m pc = some i) : ∃ w, decode code pc = .ok (i, w) ∧ (zsw i = true ∨ w = zwd i) := by
  unfold zfet at h
  split at h
  · next q hq =>
    split at h
    · next hw =>
      cases h
      have hm := List.mem_of_find?_eq_some hq
      have hb0 : Nat.beq q.1 pc = true := by have hh := List.find?_some hq; exact hh
      have hb := Nat.eq_of_beq_eq_true hb0
      refine ⟨q.2.2, ?_, ?_⟩
      · rw [← hb]
        exact hd q hm
      · rcases Bool.or_eq_true _ _ ▸ hw with h | h
        · exact Or.inl h
        · exact Or.inr (Nat.eq_of_beq_eq_true h)
    · cases h
  · cases h
def zINU : List Bool := [false, true, true, true, true, true, true, true, true, true, true, false, true, true, true, true, true, false, true, true, true, true, false, true, true, true, true, true, true, true, true, true, true, true, true, true, false, true, true, true, false, true, true, true, true, true, true, true, true, true, true, true, true, true, true, true, false, true, true, true, true, true, true, true, true, true, true, true, true, true, true, true, true, false, true, true, true, true, true, true, true, true, false, true, true, false, true, true, true, true, true, true, true, true, true, true, true, true, true, true, true, true, true, true, false, true, true, true, false, true, true, true, true, true, true, true, true, true, true, true, true, true, true, true, true, true, true, true, true, true, true, true, true, true, true, true, true, true, true, true, true, true, true, true, true, true, true, true, true, true, true, true, true, true, false, true, true, true, true, true, true, true, true, true, true, true, true, true, true, true, true, true, true, true, true, true, true, true, true, true, true, true, true, true, true, true, true, true, true, true, true, true, true, true, true, true, true, true, true, true, true, true, true, true, true, true, true, true, true, true, true, true, true, true, true, true, true, true, true, true, true, true, true, true, true, true, true, true, true, true, true, true, true, true, true, true, true, true, true, true, true, true, true, true, true, true, true, true, true, true, true, true, true, true, true, true, true, true, true, true, true, true, true, true, true, true, true, true, true, true, true, true, true, true, true, true, true, true, true, true, true, true, true, true, true, true, true, true, true, true, true, true, true, true, true, false, true]
def zinU (m : Nat) : Bool := zINU.getD m false
theorem zinU_ok {m : Nat} (h : zinU m = true) : m < 297 ∧ m ∈ zUS := by
  have h1 : ∀ j, j < 297 → zINU.getD j false = true → j < 297 ∧ j ∈ zUS := by decide +kernel
  by_cases hm : m < 297
  · exact h1 m hm h
  · unfold zinU at h
    rw [List.getD_eq_getElem?_getD, List.getElem?_eq_none (by rw [show zINU.length = 297 by decide +kernel]; omega)] at h
    cases h
def zent (m : Nat) (as : List zV) : zLS := as.map some ++ List.replicate (zmxl m - as.length) none
/-- the one method with a long among its locals -/
def zhl (m : Nat) : Bool := Nat.beq m 47
def zlsJ (m : Nat) (ls : zLS) (i : Nat) (v : zV) : Option zLS := if i < ls.length ∧ (zhl m = false ∨ znotL ls i = true) then some (ls.set i (some v)) else none
def znx (pc : Nat) (ls : zLS) (h : zH) (o : Option (List zV)) : Option zAR := match o with
  | some st => some (.inl (pc, ls, st, h))
  | none => none
def zld (ls : zLS) (i : Nat) (st : List zV) : Option (List zV) := match zlg ls i with
  | some (.inl x) => some (.inl x :: st)
  | _ => none
def zlda (ls : zLS) (i : Nat) (st : List zV) : Option (List zV) := match zlg ls i with
  | some (.inr (.inl (k, j, s))) => if k ≤ 15 then some (.inr (.inl (k, j, s)) :: st) else none
  | _ => none
def zldl (ls : zLS) (i : Nat) (st : List zV) : Option (List zV) := match zlg ls i with
  | some (.inr (.inr x)) => some (.inr (.inr x) :: st)
  | _ => none
def zsti (m pc : Nat) (ls : zLS) (i : Nat) (st : List zV) (h : zH) : Option zAR := match st with
  | .inl x :: r => match zlsJ m ls i (.inl x) with
    | some ls' => some (.inl (pc, ls', r, h))
    | none => none
  | _ => none
def zsta_ (m pc : Nat) (ls : zLS) (i : Nat) (st : List zV) (h : zH) : Option zAR := match st with
  | .inr (.inl (k, j, s)) :: r => if k ≤ 15 then (match zlsJ m ls i (.inr (.inl (k, j, s))) with
    | some ls' => some (.inl (pc, ls', r, h))
    | none => none) else none
  | _ => none
def zstl (m pc : Nat) (ls : zLS) (i : Nat) (st : List zV) (h : zH) : Option zAR := match st with
  | .inr (.inr x) :: r => if zhl m = true then (match zlsL ls i x with
    | some ls' => some (.inl (pc, ls', r, h))
    | none => none) else none
  | _ => none
def zjmp (t : Option Nat) (ls : zLS) (st : List zV) (h : zH) : Option zAR := match t with
  | some p => some (.inl (p, ls, st, h))
  | none => none
def zgetf (q : Nat × Nat) (st : List zV) (h : zH) : Option (List zV) := match st with
  | .inr (.inl (k, i, s)) :: r => if k = q.1 ∧ s = 0 then (match zfty k q.2 with
      | 2 => some (.inr (.inl (ztgt k i q.2)) :: r)
      | 3 => some (.inr (.inl (3, (h k i 0 q.2).toNatClampNeg, 0)) :: r)
      | 9 => none
      | _ => some (.inl (h k i 0 q.2) :: r)) else none
  | _ => none
def zputf (q : Nat × Nat) (pc : Nat) (ls : zLS) (st : List zV) (h : zH) : Option zAR := match st with
  | .inl v :: .inr (.inl (k, i, s)) :: r => if k = q.1 ∧ s = 0 ∧ k ≤ 12 then (match zfty k q.2 with
      | 0 => some (.inl (pc, ls, r, zup h k i 0 q.2 v))
      | 1 => if v = 0 ∨ v = 1 then some (.inl (pc, ls, r, zup h k i 0 q.2 v)) else none
      | _ => none) else none
  | .inr (.inl (k', i', s')) :: .inr (.inl (k, i, s)) :: r => if k = q.1 ∧ s = 0 ∧ k' = 3 ∧ s' = 0 ∧ k ≤ 12 then (match zfty k q.2 with
      | 3 => some (.inl (pc, ls, r, zup h k i 0 q.2 (Int32.ofNat i')))
      | _ => none) else none
  | _ => none
def zaldi (L ty : Nat) (st : List zV) (h : zH) : Option (List zV) := match st with
  | .inl j :: .inr (.inl (k, i, s)) :: r => if zaty k s = ty ∧ zIn j (zaln L k i s) = true then some (.inl (h k i s j.toNatClampNeg) :: r) else none
  | _ => none
def zalda (L : Nat) (st : List zV) : Option (List zV) := match st with
  | .inl j :: .inr (.inl (k, i, s)) :: r => if zaty k s = 2 ∧ zIn j (zaln L k i s) = true then some (.inr (.inl (3, 3 + j.toNatClampNeg, 0)) :: r) else none
  | _ => none
def zasti (L pc : Nat) (ls : zLS) (st : List zV) (h : zH) : Option zAR := match st with
  | .inl v :: .inl j :: .inr (.inl (k, i, s)) :: r => if zaty k s = 0 ∧ k ≤ 12 ∧ zIn j (zaln L k i s) = true then some (.inl (pc, ls, r, zup h k i s j.toNatClampNeg v)) else none
  | _ => none
def zastb (L pc : Nat) (ls : zLS) (st : List zV) (h : zH) : Option zAR := match st with
  | .inl v :: .inl j :: .inr (.inl (k, i, s)) :: r => if zaty k s = 1 ∧ k ≤ 12 ∧ zIn j (zaln L k i s) = true then some (.inl (pc, ls, r, zup h k i s j.toNatClampNeg v.toInt8.toInt32)) else none
  | _ => none
def zalen (L : Nat) (st : List zV) : Option (List zV) := match st with
  | .inr (.inl (k, i, s)) :: r => if zaty k s ≤ 2 then some (.inl (Int32.ofNat (zaln L k i s)) :: r) else none
  | _ => none
def zcopy (L pc : Nat) (ls : zLS) (st : List zV) (h : zH) : Option zAR := match st with
  | .inl n :: .inl dp :: .inr (.inl (k, i, s)) :: .inl sp :: .inr (.inl (k', i', s')) :: r =>
    if zaty k s = 0 ∧ zaty k' s' = 0 ∧ k ≤ 12 ∧ k' ≤ 12 ∧ ¬ sp < 0 ∧ ¬ dp < 0 ∧ ¬ n < 0 ∧ sp.toNatClampNeg + n.toNatClampNeg ≤ zaln L k' i' s' ∧ dp.toNatClampNeg + n.toNatClampNeg ≤ zaln L k i s ∧ r.length ≤ 4
    then some (.inl (pc, ls, r, zupA h k i s (va_cpy (h k' i' s') (h k i s) sp.toNatClampNeg dp.toNatClampNeg n.toNatClampNeg))) else none
  | _ => none
def znl (v : zV) : Bool := match v with
  | .inr (.inr _) => false
  | _ => true
def zcallV (m' : Nat) (st : List zV) : Option zAR :=
  if zinU m' = true ∧ zsta m' = false ∧ znar m' ≤ st.length ∧ st.length ≤ znar m' + 4 ∧ (st.take (znar m')).all znl = true then (match (st.take (znar m')).reverse with
    | .inr (.inl (k, i, s)) :: as => if k = zown m' ∧ s = 0 ∧ k ≤ 15 then some (.inr (.inl (m', .inr (.inl (k, i, s)) :: as, st.drop (znar m')))) else none
    | _ => none) else none
def zcallS (m' : Nat) (st : List zV) : Option zAR :=
  if zinU m' = true ∧ zsta m' = true ∧ znar m' ≤ st.length ∧ st.length ≤ znar m' + 4 ∧ (st.take (znar m')).all znl = true then some (.inr (.inl (m', (st.take (znar m')).reverse, st.drop (znar m')))) else none
def zmath (st : List zV) (f : Int32 → Int32 → Int32) : Option (List zV) := match st with
  | .inl y :: .inl x :: r => if r.length ≤ 4 then some (.inl (f x y) :: r) else none
  | _ => none
def zabs (st : List zV) : Option (List zV) := match st with
  | .inl x :: r => if r.length ≤ 4 then some (.inl (if 0 ≤ x then x else 0 - x) :: r) else none
  | _ => none
def zgets (x : Nat) (st : List zV) : Option (List zV) := match x with
  | 0 => some (.inr (.inl (14, 0, 0)) :: st)
  | 1 => some (.inl 1 :: st)
  | 2 => some (.inr (.inl (16, 0, 0)) :: st)
  | _ => none
def zrOkB (rt : Option FieldType) (st : List zV) : Bool := zrOkA rt st && (match st with
  | [.inr (.inl q)] => decide (q ∈ zIDS)
  | _ => false)
/-- one instruction -/
def zstep (L m pc : Nat) (i : Instr) (ls : zLS) (st : List zV) (h : zH) : Option zAR := match i with
  | .iconst n => znx (pc + 1) ls h (some (.inl (Int32.ofInt n) :: st))
  | .bipush n => znx (pc + 2) ls h (some (.inl (Int8.ofInt n).toInt32 :: st))
  | .sipush n => znx (pc + 3) ls h (some (.inl (Int16.ofInt n).toInt32 :: st))
  | .lconst n => znx (pc + 1) ls h (some (.inr (.inr (Int64.ofNat n.val)) :: st))
  | .ldc x => if zown m = 7 ∧ x = 48 then some (.inl (pc + 2, ls, .inr (.inl (15, 0, 0)) :: st, h)) else (match zclk (zown m) x with
    | some v => some (.inl (pc + 2, ls, .inl v :: st, h))
    | none => none)
  | .ldc_w x => (match zclk (zown m) x with
    | some v => some (.inl (pc + 3, ls, .inl v :: st, h))
    | none => none)
  | .ldc2_w x => (match zllk (zown m) x with
    | some v => some (.inl (pc + 3, ls, .inr (.inr v) :: st, h))
    | none => none)
  | .iload x => znx (pc + 2) ls h (zld ls x st)
  | .iload_n x => znx (pc + 1) ls h (zld ls x.val st)
  | .aload x => znx (pc + 2) ls h (zlda ls x st)
  | .aload_n x => znx (pc + 1) ls h (zlda ls x.val st)
  | .lload_n x => znx (pc + 1) ls h (zldl ls x.val st)
  | .istore x => zsti m (pc + 2) ls x st h
  | .istore_n x => zsti m (pc + 1) ls x.val st h
  | .astore x => zsta_ m (pc + 2) ls x st h
  | .astore_n x => zsta_ m (pc + 1) ls x.val st h
  | .lstore_n x => zstl m (pc + 1) ls x.val st h
  | .iinc x n => (match zlg ls x with
    | some (.inl v) => (match zlsJ m ls x (.inl (v + Int32.ofInt n)) with
      | some ls' => some (.inl (pc + 3, ls', st, h))
      | none => none)
    | _ => none)
  | .iadd => znx (pc + 1) ls h (zop2 st fun x y => some (.inl (x + y)))
  | .isub => znx (pc + 1) ls h (zop2 st fun x y => some (.inl (x - y)))
  | .imul => znx (pc + 1) ls h (zop2 st fun x y => some (.inl (x * y)))
  | .idiv => znx (pc + 1) ls h (zop2 st fun x y => if y = 0 then none else some (.inl (x / y)))
  | .irem => znx (pc + 1) ls h (zop2 st fun x y => if y = 0 then none else some (.inl (x - x / y * y)))
  | .ineg => znx (pc + 1) ls h (zop1 st fun x => some (.inl (-x)))
  | .iand => znx (pc + 1) ls h (zop2 st fun x y => some (.inl (x &&& y)))
  | .ior => znx (pc + 1) ls h (zop2 st fun x y => some (.inl (x ||| y)))
  | .ixor => znx (pc + 1) ls h (zop2 st fun x y => some (.inl (x ^^^ y)))
  | .ishl => znx (pc + 1) ls h (zop2 st fun x y => some (.inl (x <<< (y &&& 31))))
  | .ishr => znx (pc + 1) ls h (zop2 st fun x y => some (.inl (x >>> (y &&& 31))))
  | .iushr => znx (pc + 1) ls h (zop2 st fun x y => some (.inl ((x.toUInt32 >>> (y.toUInt32 &&& Int32.toUInt32 31)).toInt32)))
  | .i2b => znx (pc + 1) ls h (zop1 st fun x => some (.inl x.toInt8.toInt32))
  | .i2c => znx (pc + 1) ls h (zop1 st fun x => some (.inl (x.toUInt32 % 65536).toInt32))
  | .i2l => znx (pc + 1) ls h (zop1 st fun x => some (.inr (.inr x.toInt64)))
  | .l2i => (match st with
    | .inr (.inr x) :: r => some (.inl (pc + 1, ls, .inl x.toInt32 :: r, h))
    | _ => none)
  | .lmul => znx (pc + 1) ls h (zopL st fun x y => some (.inr (.inr (x * y))))
  | .ldiv => znx (pc + 1) ls h (zopL st fun x y => if y = 0 then none else some (.inr (.inr (x / y))))
  | .lrem => znx (pc + 1) ls h (zopL st fun x y => if y = 0 then none else some (.inr (.inr (x - x / y * y))))
  | .dup => (match st with
    | .inl x :: r => some (.inl (pc + 1, ls, .inl x :: .inl x :: r, h))
    | .inr (.inl q) :: r => some (.inl (pc + 1, ls, .inr (.inl q) :: .inr (.inl q) :: r, h))
    | _ => none)
  | .dup2 => (match st with
    | .inl x :: .inr (.inl q) :: r => some (.inl (pc + 1, ls, .inl x :: .inr (.inl q) :: .inl x :: .inr (.inl q) :: r, h))
    | _ => none)
  | .pop => (match st with
    | .inl _ :: r => some (.inl (pc + 1, ls, r, h))
    | _ => none)
  | .ifCond c off => (match zjt pc off with
    | none => none
    | some t => (match st with
      | .inl x :: r => if zcmp c x 0 = true then some (.inl (t, ls, r, h)) else some (.inl (pc + 3, ls, r, h))
      | _ => none))
  | .if_icmp c off => (match zjt pc off with
    | none => none
    | some t => (match st with
      | .inl y :: .inl x :: r => if zcmp c x y = true then some (.inl (t, ls, r, h)) else some (.inl (pc + 3, ls, r, h))
      | _ => none))
  | .goto off => zjmp (zjt pc off) ls st h
  | .tableswitch d lo hi offs => (match st with
    | .inl x :: r => if x.toInt < lo ∨ hi < x.toInt then zjmp (zjt pc d) ls r h else (match offs[(x.toInt - lo).toNat]? with
      | some off => zjmp (zjt pc off) ls r h
      | none => none)
    | _ => none)
  | .lookupswitch d ps => (match st with
    | .inl x :: r => if (ps.toList.zip (ps.toList.drop 1)).all (fun (a, next) => a.1 < next.1) = true then zjmp (zjt pc (Op.lookupswitch.offset ps.toList d x.toInt)) ls r h else none
    | _ => none)
  | .getfield x => (match zflk (zown m) x with
    | some q => znx (pc + 3) ls h (zgetf q st h)
    | none => none)
  | .putfield x => (match zflk (zown m) x with
    | some q => zputf q (pc + 3) ls st h
    | none => none)
  | .getstatic x => (match zslk (zown m) x with
    | some q => znx (pc + 3) ls h (zgets q st)
    | none => none)
  | .iaload => znx (pc + 1) ls h (zaldi L 0 st h)
  | .baload => znx (pc + 1) ls h (zaldi L 1 st h)
  | .aaload => znx (pc + 1) ls h (zalda L st)
  | .iastore => zasti L (pc + 1) ls st h
  | .bastore => zastb L (pc + 1) ls st h
  | .arraylength => znx (pc + 1) ls h (zalen L st)
  | .invokevirtual x => (match zmlk (zown m) x with
    | some m' => zcallV m' st
    | none => none)
  | .invokestatic x => (match zmlk (zown m) x with
    | some m' => if m' = 999 then zcopy L (pc + 3) ls st h else if m' = 997 then znx (pc + 3) ls h (zmath st fun x y => if x < y then y else x) else if m' = 996 then znx (pc + 3) ls h (zmath st fun x y => if y < x then y else x) else if m' = 995 then znx (pc + 3) ls h (zabs st) else zcallS m' st
    | none => none)
  | .ireturn => (match st with
    | [.inl v] => if zrOk (zret m) st = true then some (.inr (.inr (some (.inl v)))) else none
    | _ => none)
  | .areturn => (match st with
    | [.inr (.inl q)] => if zrOkB (zret m) st = true then some (.inr (.inr (some (.inr (.inl q))))) else none
    | _ => none)
  | .return_ => (match st with
    | [] => if zret m = none then some (.inr (.inr none)) else none
    | _ => none)
  | _ => none
theorem znx_v {pc : Nat} {ls : zLS} {h : zH} {o : Option (List zV)} {y : (Nat × List zV × List zV) ⊕ Option zV} (hs : znx pc ls h o = some (.inr y)) : False := by
  unfold znx at hs
  split at hs <;> cases hs
/-- n instructions at most, d calls deep at most -/
def zex (L : Nat) : Nat → Nat → Nat → Nat → zLS → List zV → zH → Option zRS
  | 0, _, _, _, _, _, _ => none
  | n + 1, d, m, pc, ls, st, h => match zfet m pc with
    | none => none
    | some i => match zstep L m pc i ls st h with
      | none => none
      | some (.inl (pc', ls', st', h')) => zex L n d m pc' ls' st' h'
      | some (.inr (.inl (m', as, r))) => match d with
        | 0 => none
        | d' + 1 => match zex L n d' m' 0 (zent m' as) [] h with
          | none => none
          | some (v, h') => zex L n (d' + 1) m (pc + 3) ls (v.toList ++ r) h'
      | some (.inr (.inr v)) => some (v, h)
theorem zex_mono (L : Nat) : ∀ (n d m pc : Nat) (ls : zLS) (st : List zV) (h : zH) (r : zRS), zex L n d m pc ls st h = some r → zex L (n + 1) d m pc ls st h = some r := by
  intro n
  induction n with
  | zero => intro d m pc ls st h r e; cases e
  | succ n ih =>
    intro d m pc ls st h r e
    rw [zex] at e ⊢
    cases hi : zfet m pc with
    | none => rw [hi] at e; cases e
    | some i =>
      rw [hi] at e
      simp only at e ⊢
      cases hs : zstep L m pc i ls st h with
      | none => rw [hs] at e; cases e
      | some x =>
        rw [hs] at e
        obtain ⟨pc', ls', st', h'⟩ | ⟨m', as, r'⟩ | v := x
        · exact ih _ _ _ _ _ _ _ e
        · cases d with
          | zero => cases e
          | succ d' =>
            simp only at e ⊢
            cases hc : zex L n d' m' 0 (zent m' as) [] h with
            | none => rw [hc] at e; cases e
            | some q =>
              rw [hc] at e
              rw [ih _ _ _ _ _ _ _ hc]
              exact ih _ _ _ _ _ _ _ e
        · exact e
theorem zex_le {L n n' d m pc : Nat} {ls : zLS} {st : List zV} {h : zH} {r : zRS} (hn : n ≤ n') (e : zex L n d m pc ls st h = some r) : zex L n' d m pc ls st h = some r := by
  induction hn with
  | refl => exact e
  | step _ ih => exact zex_mono L _ _ _ _ _ _ _ _ ih

noncomputable def zev (L d m pc : Nat) (ls : zLS) (st : List zV) (h : zH) : Option zRS := @dite _ (∃ r : zRS, ∃ n, zex L n d m pc ls st h = some r) (Classical.propDecidable _) (fun hx => some (Classical.choose hx)) (fun _ => none)
theorem zev_of {L n d m pc : Nat} {ls : zLS} {st : List zV} {h : zH} {r : zRS} (e : zex L n d m pc ls st h = some r) : zev L d m pc ls st h = some r := by
  unfold zev
  have hx : ∃ r : zRS, ∃ n, zex L n d m pc ls st h = some r := ⟨r, n, e⟩
  rw [dif_pos hx]
  obtain ⟨n', e'⟩ := Classical.choose_spec hx
  have h1 := zex_le (Nat.le_max_left n n') e
  have h2 := zex_le (Nat.le_max_right n n') e'
  exact h2.symm.trans h1
theorem zev_ex {L d m pc : Nat} {ls : zLS} {st : List zV} {h : zH} {r : zRS} (e : zev L d m pc ls st h = some r) : ∃ n, zex L n d m pc ls st h = some r := by
  unfold zev at e
  split at e
  · next hx =>
    obtain ⟨n, e'⟩ := Classical.choose_spec hx
    cases e
    exact ⟨n, e'⟩
  · cases e
theorem zopt_ext {α : Type} {a b : Option α} (h1 : ∀ r, a = some r → b = some r) (h2 : ∀ r, b = some r → a = some r) : a = b := by
  cases a with
  | some r => exact (h1 r rfl).symm
  | none =>
    cases b with
    | some r => exact h2 r rfl
    | none => rfl
theorem zev_go {L d m pc pc' : Nat} {ls ls' : zLS} {st st' : List zV} {h h' : zH} {i : Instr} (hf : zfet m pc = some i) (hs : zstep L m pc i ls st h = some (.inl (pc', ls', st', h'))) : zev L d m pc ls st h = zev L d m pc' ls' st' h' := by
  refine zopt_ext (fun r e => ?_) (fun r e => ?_)
  · obtain ⟨n, e⟩ := zev_ex e
    cases n with
    | zero => cases e
    | succ n =>
      rw [zex, hf] at e
      simp only [hs] at e
      exact zev_of e
  · obtain ⟨n, e⟩ := zev_ex e
    refine zev_of (n := n + 1) ?_
    rw [zex, hf]
    simp only [hs]
    exact e
theorem zev_ret {L d m pc : Nat} {ls : zLS} {st : List zV} {h : zH} {v : Option zV} {i : Instr} (hf : zfet m pc = some i) (hs : zstep L m pc i ls st h = some (.inr (.inr v))) : zev L d m pc ls st h = some (v, h) := by
  refine zev_of (n := 1) ?_
  rw [zex, hf]
  simp only [hs]
theorem zev_call {L d m pc m' : Nat} {ls : zLS} {st as r : List zV} {h : zH} {i : Instr} (hf : zfet m pc = some i) (hs : zstep L m pc i ls st h = some (.inr (.inl (m', as, r)))) : zev L (d + 1) m pc ls st h = (zev L d m' 0 (zent m' as) [] h).bind fun q => zev L (d + 1) m (pc + 3) ls (q.1.toList ++ r) q.2 := by
  refine zopt_ext (fun x e => ?_) (fun x e => ?_)
  · obtain ⟨n, e⟩ := zev_ex e
    cases n with
    | zero => cases e
    | succ n =>
      rw [zex, hf] at e
      simp only [hs] at e
      cases hc : zex L n d m' 0 (zent m' as) [] h with
      | none => rw [hc] at e; cases e
      | some q =>
        rw [hc] at e
        rw [zev_of hc]
        exact zev_of e
  · cases hc : zev L d m' 0 (zent m' as) [] h with
    | none => rw [hc] at e; cases e
    | some q =>
      rw [hc] at e
      obtain ⟨n, e1⟩ := zev_ex hc
      obtain ⟨n', e2⟩ := zev_ex (show zev L (d + 1) m (pc + 3) ls (q.1.toList ++ r) q.2 = some x from e)
      refine zev_of (n := max n n' + 1) ?_
      rw [zex, hf]
      simp only [hs]
      rw [zex_le (Nat.le_max_left n n') e1]
      exact zex_le (Nat.le_max_right n n') e2
theorem znx_ni {pc : Nat} {ls : zLS} {h : zH} {o : Option (List zV)} {y : (Nat × List zV × List zV) ⊕ Option zV} : ¬ znx pc ls h o = some (.inr y) := by
  unfold znx
  intro hs
  split at hs <;> cases hs
theorem zjmp_ni {t : Option Nat} {ls : zLS} {st : List zV} {h : zH} {y : (Nat × List zV × List zV) ⊕ Option zV} : ¬ zjmp t ls st h = some (.inr y) := by
  unfold zjmp
  intro hs
  split at hs <;> cases hs
theorem zsti_ni {m pc i : Nat} {ls : zLS} {st : List zV} {h : zH} {y : (Nat × List zV × List zV) ⊕ Option zV} : ¬ zsti m pc ls i st h = some (.inr y) := by
  unfold zsti
  intro hs
  split at hs
  · split at hs <;> cases hs
  · cases hs
theorem zsta_ni {m pc i : Nat} {ls : zLS} {st : List zV} {h : zH} {y : (Nat × List zV × List zV) ⊕ Option zV} : ¬ zsta_ m pc ls i st h = some (.inr y) := by
  unfold zsta_
  intro hs
  split at hs
  · split at hs
    · split at hs <;> cases hs
    · cases hs
  · cases hs
theorem zstl_ni {m pc i : Nat} {ls : zLS} {st : List zV} {h : zH} {y : (Nat × List zV × List zV) ⊕ Option zV} : ¬ zstl m pc ls i st h = some (.inr y) := by
  unfold zstl
  intro hs
  split at hs
  · split at hs
    · split at hs <;> cases hs
    · cases hs
  · cases hs
theorem zputf_ni {q : Nat × Nat} {pc : Nat} {ls : zLS} {st : List zV} {h : zH} {y : (Nat × List zV × List zV) ⊕ Option zV} : ¬ zputf q pc ls st h = some (.inr y) := by
  unfold zputf
  intro hs
  split at hs
  · split at hs
    · split at hs
      · cases hs
      · split at hs <;> cases hs
      · cases hs
    · cases hs
  · split at hs
    · split at hs <;> cases hs
    · cases hs
  · cases hs
theorem zasti_ni {L pc : Nat} {ls : zLS} {st : List zV} {h : zH} {y : (Nat × List zV × List zV) ⊕ Option zV} : ¬ zasti L pc ls st h = some (.inr y) := by
  unfold zasti
  intro hs
  split at hs
  · split at hs <;> cases hs
  · cases hs
theorem zastb_ni {L pc : Nat} {ls : zLS} {st : List zV} {h : zH} {y : (Nat × List zV × List zV) ⊕ Option zV} : ¬ zastb L pc ls st h = some (.inr y) := by
  unfold zastb
  intro hs
  split at hs
  · split at hs <;> cases hs
  · cases hs
theorem zcopy_ni {L pc : Nat} {ls : zLS} {st : List zV} {h : zH} {y : (Nat × List zV × List zV) ⊕ Option zV} : ¬ zcopy L pc ls st h = some (.inr y) := by
  unfold zcopy
  intro hs
  split at hs
  · split at hs <;> cases hs
  · cases hs
/-- which instructions are calls or returns -/
def zcr (i : Instr) : Bool := match i with
  | .invokevirtual _ | .invokestatic _ | .ireturn | .areturn | .return_ => true
  | _ => false
theorem zstep_ni {L m pc : Nat} {i : Instr} {ls : zLS} {st : List zV} {h : zH} {y : (Nat × List zV × List zV) ⊕ Option zV} (hc : zcr i = false) : ¬ zstep L m pc i ls st h = some (.inr y) := by
  intro hs
  cases i with
  | iconst n => exact nomatch (show (some (Sum.inl (pc + 1, ls, _ :: st, h)) : Option zAR) = some (Sum.inr y) from hs)
  | bipush n => exact nomatch (show (some (Sum.inl (pc + 2, ls, _ :: st, h)) : Option zAR) = some (Sum.inr y) from hs)
  | sipush n => exact nomatch (show (some (Sum.inl (pc + 3, ls, _ :: st, h)) : Option zAR) = some (Sum.inr y) from hs)
  | lconst n => exact nomatch (show (some (Sum.inl (pc + 1, ls, _ :: st, h)) : Option zAR) = some (Sum.inr y) from hs)
  | ldc x =>
    unfold zstep at hs
    simp only at hs
    split at hs
    · cases hs
    · split at hs <;> cases hs
  | ldc_w x =>
    unfold zstep at hs
    simp only at hs
    split at hs <;> cases hs
  | ldc2_w x =>
    unfold zstep at hs
    simp only at hs
    split at hs <;> cases hs
  | istore x => exact zsti_ni hs
  | istore_n x => exact zsti_ni hs
  | astore x => exact zsta_ni hs
  | astore_n x => exact zsta_ni hs
  | lstore_n x => exact zstl_ni hs
  | iinc x n =>
    unfold zstep at hs
    simp only at hs
    split at hs
    · split at hs <;> cases hs
    · cases hs
  | l2i =>
    unfold zstep at hs
    simp only at hs
    split at hs <;> cases hs
  | dup =>
    unfold zstep at hs
    simp only at hs
    split at hs <;> cases hs
  | dup2 =>
    unfold zstep at hs
    simp only at hs
    split at hs <;> cases hs
  | pop =>
    unfold zstep at hs
    simp only at hs
    split at hs <;> cases hs
  | ifCond c off =>
    unfold zstep at hs
    simp only at hs
    split at hs
    · cases hs
    · split at hs
      · split at hs <;> cases hs
      · cases hs
  | if_icmp c off =>
    unfold zstep at hs
    simp only at hs
    split at hs
    · cases hs
    · split at hs
      · split at hs <;> cases hs
      · cases hs
  | goto off => exact zjmp_ni hs
  | tableswitch d lo hi offs =>
    unfold zstep at hs
    simp only at hs
    split at hs
    · split at hs
      · exact zjmp_ni hs
      · split at hs
        · exact zjmp_ni hs
        · cases hs
    · cases hs
  | lookupswitch d ps =>
    unfold zstep at hs
    simp only at hs
    split at hs
    · split at hs
      · exact zjmp_ni hs
      · cases hs
    · cases hs
  | getfield x =>
    unfold zstep at hs
    simp only at hs
    split at hs
    · exact znx_ni hs
    · cases hs
  | putfield x =>
    unfold zstep at hs
    simp only at hs
    split at hs
    · exact zputf_ni hs
    · cases hs
  | getstatic x =>
    unfold zstep at hs
    simp only at hs
    split at hs
    · exact znx_ni hs
    · cases hs
  | iastore => exact zasti_ni hs
  | bastore => exact zastb_ni hs
  | invokevirtual x => cases hc
  | invokestatic x => cases hc
  | ireturn => cases hc
  | areturn => cases hc
  | return_ => cases hc
  | _ => first | exact znx_ni hs | exact nomatch (show (none : Option zAR) = some _ from hs)
theorem zstep_val {L m pc : Nat} {i : Instr} {ls : zLS} {st : List zV} {h : zH} {q : Nat × Nat × Nat} (hs : zstep L m pc i ls st h = some (.inr (.inr (some (.inr (.inl q)))))) : q ∈ zIDS := by
  cases i with
  | areturn =>
    unfold zstep at hs
    simp only at hs
    split at hs
    · split at hs
      · next hc =>
        cases hs
        unfold zrOkB at hc
        rw [Bool.and_eq_true] at hc
        exact of_decide_eq_true hc.2
      · cases hs
    · cases hs
  | ireturn =>
    unfold zstep at hs
    simp only at hs
    split at hs
    · split at hs <;> cases hs
    · cases hs
  | return_ =>
    unfold zstep at hs
    simp only at hs
    split at hs
    · split at hs <;> cases hs
    · cases hs
  | invokevirtual x =>
    unfold zstep at hs
    simp only at hs
    split at hs
    · unfold zcallV at hs
      split at hs
      · split at hs
        · split at hs <;> cases hs
        · cases hs
      · cases hs
    · cases hs
  | invokestatic x =>
    unfold zstep at hs
    simp only at hs
    split at hs
    · split at hs
      · exact absurd hs zcopy_ni
      · split at hs
        · exact absurd hs znx_ni
        · split at hs
          · exact absurd hs znx_ni
          · split at hs
            · exact absurd hs znx_ni
            · unfold zcallS at hs
              split at hs <;> cases hs
    · cases hs
  | _ => exact absurd hs (zstep_ni rfl)
theorem zex_val (L : Nat) : ∀ (n d m pc : Nat) (ls : zLS) (st : List zV) (h : zH) (v : Option zV) (h' : zH), zex L n d m pc ls st h = some (v, h') → ∀ q, v = some (.inr (.inl q)) → q ∈ zIDS := by
  intro n
  induction n with
  | zero => intro d m pc ls st h v h' e; cases e
  | succ n ih =>
    intro d m pc ls st h v h' e q hv
    rw [zex] at e
    cases hi : zfet m pc with
    | none => rw [hi] at e; cases e
    | some i =>
      rw [hi] at e
      simp only at e
      cases hs : zstep L m pc i ls st h with
      | none => rw [hs] at e; cases e
      | some x =>
        rw [hs] at e
        obtain ⟨pc', ls', st', h1⟩ | ⟨m', as, r'⟩ | w := x
        · exact ih _ _ _ _ _ _ _ _ e q hv
        · cases d with
          | zero => cases e
          | succ d' =>
            simp only at e
            cases hc : zex L n d' m' 0 (zent m' as) [] h with
            | none => rw [hc] at e; cases e
            | some z =>
              rw [hc] at e
              exact ih _ _ _ _ _ _ _ _ e q hv
        · cases e
          subst hv
          exact zstep_val hs
