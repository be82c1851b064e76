/-! the world at the law's entry -/
theorem zdecL : ∀ q ∈ zTAB.getD zLAW [], decode code q.1 = .ok q.2 := by
  have e : zTAB.getD zLAW [] = zt295 := rfl
  rw [e]
  exact zdec_of zDL zDLs
set_option maxRecDepth 100000 in
theorem zmH : ∀ j, j < 21 → Cond.eq (.elem (.static "ClaspedFair$Puzzles" "HEAP" "[I") (.int (Int32.ofNat j))) (.int (zHV j)) ∈ flatC (Jvm.Cond.and given_1 narrow_1) := by decide +kernel
set_option maxRecDepth 100000 in
theorem zmS0 : ∀ j, j < 20 → (flatC (Jvm.Cond.and given_1 narrow_1))[37 + (0 + j)]? = some (Cond.eq (.elem (.field (.string "ClaspedFair$Tape" 48) "java/lang/String" "value" "[B") (.int (Int32.ofNat (0 + j)))) (.int (zWB (0 + j)))) := by decide +kernel
set_option maxRecDepth 100000 in
theorem zmS1 : ∀ j, j < 20 → (flatC (Jvm.Cond.and given_1 narrow_1))[37 + (20 + j)]? = some (Cond.eq (.elem (.field (.string "ClaspedFair$Tape" 48) "java/lang/String" "value" "[B") (.int (Int32.ofNat (20 + j)))) (.int (zWB (20 + j)))) := by decide +kernel
set_option maxRecDepth 100000 in
theorem zmS2 : ∀ j, j < 20 → (flatC (Jvm.Cond.and given_1 narrow_1))[37 + (40 + j)]? = some (Cond.eq (.elem (.field (.string "ClaspedFair$Tape" 48) "java/lang/String" "value" "[B") (.int (Int32.ofNat (40 + j)))) (.int (zWB (40 + j)))) := by decide +kernel
set_option maxRecDepth 100000 in
theorem zmS3 : ∀ j, j < 20 → (flatC (Jvm.Cond.and given_1 narrow_1))[37 + (60 + j)]? = some (Cond.eq (.elem (.field (.string "ClaspedFair$Tape" 48) "java/lang/String" "value" "[B") (.int (Int32.ofNat (60 + j)))) (.int (zWB (60 + j)))) := by decide +kernel
set_option maxRecDepth 100000 in
theorem zmS4 : ∀ j, j < 20 → (flatC (Jvm.Cond.and given_1 narrow_1))[37 + (80 + j)]? = some (Cond.eq (.elem (.field (.string "ClaspedFair$Tape" 48) "java/lang/String" "value" "[B") (.int (Int32.ofNat (80 + j)))) (.int (zWB (80 + j)))) := by decide +kernel
set_option maxRecDepth 100000 in
theorem zmS5 : ∀ j, j < 20 → (flatC (Jvm.Cond.and given_1 narrow_1))[37 + (100 + j)]? = some (Cond.eq (.elem (.field (.string "ClaspedFair$Tape" 48) "java/lang/String" "value" "[B") (.int (Int32.ofNat (100 + j)))) (.int (zWB (100 + j)))) := by decide +kernel
set_option maxRecDepth 100000 in
theorem zmS6 : ∀ j, j < 19 → (flatC (Jvm.Cond.and given_1 narrow_1))[37 + (120 + j)]? = some (Cond.eq (.elem (.field (.string "ClaspedFair$Tape" 48) "java/lang/String" "value" "[B") (.int (Int32.ofNat (120 + j)))) (.int (zWB (120 + j)))) := by decide +kernel
theorem zmS : ∀ j, j < 139 → Cond.eq (.elem (.field (.string "ClaspedFair$Tape" 48) "java/lang/String" "value" "[B") (.int (Int32.ofNat (j)))) (.int (zWB (j))) ∈ (flatC (Jvm.Cond.and given_1 narrow_1)) := fun j hj => by
  refine List.mem_of_getElem? (i := 37 + j) ?_
  by_cases h0 : j < 20
  · have := zmS0 (j - 0) (by omega)
    rw [show 0 + (j - 0) = j by omega] at this
    exact this
  by_cases h1 : j < 40
  · have := zmS1 (j - 20) (by omega)
    rw [show 20 + (j - 20) = j by omega] at this
    exact this
  by_cases h2 : j < 60
  · have := zmS2 (j - 40) (by omega)
    rw [show 40 + (j - 40) = j by omega] at this
    exact this
  by_cases h3 : j < 80
  · have := zmS3 (j - 60) (by omega)
    rw [show 60 + (j - 60) = j by omega] at this
    exact this
  by_cases h4 : j < 100
  · have := zmS4 (j - 80) (by omega)
    rw [show 80 + (j - 80) = j by omega] at this
    exact this
  by_cases h5 : j < 120
  · have := zmS5 (j - 100) (by omega)
    rw [show 100 + (j - 100) = j by omega] at this
    exact this
  have := zmS6 (j - 120) (by omega)
  rw [show 120 + (j - 120) = j by omega] at this
  exact this
set_option maxRecDepth 100000 in
theorem zmO : (Cond.arrayOf (.static "ClaspedFair$Puzzles" "HEAP" "[I") .int ∈ flatC (Jvm.Cond.and given_1 narrow_1) ∧ Cond.eq (.length (.static "ClaspedFair$Puzzles" "HEAP" "[I")) (.int (Int32.ofNat 21)) ∈ flatC (Jvm.Cond.and given_1 narrow_1)) ∧ (Cond.eq (.static "java/lang/String" "COMPACT_STRINGS" "Z") (.int 1) ∈ flatC (Jvm.Cond.and given_1 narrow_1) ∧ Cond.isRef (.static "jdk/internal/util/Preconditions" "SIOOBE_FORMATTER" "Ljava/util/function/BiFunction;") ∈ flatC (Jvm.Cond.and given_1 narrow_1)) ∧ (Cond.exactly (.string "ClaspedFair$Tape" 48) "java/lang/String" ∈ flatC (Jvm.Cond.and given_1 narrow_1) ∧ Cond.eq (.field (.string "ClaspedFair$Tape" 48) "java/lang/String" "coder" "B") (.int 0) ∈ flatC (Jvm.Cond.and given_1 narrow_1) ∧ Cond.arrayOf (.field (.string "ClaspedFair$Tape" 48) "java/lang/String" "value" "[B") .byte ∈ flatC (Jvm.Cond.and given_1 narrow_1) ∧ Cond.eq (.length (.field (.string "ClaspedFair$Tape" 48) "java/lang/String" "value" "[B")) (.int (Int32.ofNat 139)) ∈ flatC (Jvm.Cond.and given_1 narrow_1)) := by decide +kernel
set_option maxRecDepth 100000 in
theorem zmT : (Cond.laysStatic "ClaspedFair$Puzzles" "HEAP" "[I" ∈ lw_tbl ∧ Cond.initialized "ClaspedFair$Puzzles" ∈ lw_tbl) ∧ (Cond.laysStatic "java/lang/String" "COMPACT_STRINGS" "Z" ∈ lw_tbl ∧ Cond.initialized "java/lang/String" ∈ lw_tbl) ∧ (Cond.laysStatic "jdk/internal/util/Preconditions" "SIOOBE_FORMATTER" "Ljava/util/function/BiFunction;" ∈ lw_tbl ∧ Cond.initialized "jdk/internal/util/Preconditions" ∈ lw_tbl) ∧ (Cond.stringRef "ClaspedFair$Tape" 48 zTX ∈ lw_tbl) ∧ (Cond.arrayClass .int ∈ lw_tbl ∧ Cond.arrayClass .byte ∈ lw_tbl ∧ Cond.arrayOver (.object (znm 3)) ∈ lw_tbl) := by decide +kernel
section AW
variable {s : State} {b L : Nat} {xs : Nat → Int32}
theorem wK (hts : ∀ w ∈ lw_tbl, w.before #[Value.ref b] s = true) : ∃ (dC : Nat → ClassId) (dI : Nat → Nat → Nat), ∀ (k : Nat) (q : vw_C), zcl[k]? = some q → u_Kn s q.1 q.2.1 q.2.2 (dC k) (dI k) := by
  have h : ∀ k : Nat, ∃ x : ClassId × (Nat → Nat), k < 13 → u_Kn s (znm k) (zT (zfd_ k)) (znf k) x.1 x.2 := fun k => by
    by_cases hk : k < 13
    · have hI := zrange cI_ok hk
      unfold cokI at hI
      rw [Bool.and_eq_true] at hI
      obtain ⟨c, i, hh⟩ := u_known (C := znm k) (T := zT (zfd_ k)) (N := znf k) (n := znf k) hts (fun w hw => (List.mem_filter.mp (zin_k hk w hw)).1) (hts _ (List.mem_filter.mp (zat_in hI.1)).1)
      exact ⟨(c, i), fun _ => hh⟩
    · exact ⟨(0, fun _ => 0), fun q => absurd q hk⟩
  obtain ⟨f, hf⟩ := Classical.axiomOfChoice h
  refine ⟨fun k => (f k).1, fun k => (f k).2, fun k q hq => ?_⟩
  have hk : k < 13 := by
    apply Classical.byContradiction
    intro c
    rw [List.getElem?_eq_none (show zcl.length ≤ k by unfold zcl; rw [List.length_map, List.length_range]; omega)] at hq
    cases hq
  rw [zcl_at hk] at hq
  cases hq
  exact hf k hk
theorem wT (hts : ∀ w ∈ lw_tbl, w.before #[Value.ref b] s = true) : ∃ cI cB cM : ClassId, ∀ (k : Nat) (q : ClassId × FieldType), [(cI, FieldType.int), (cB, .byte), (cM, .object (znm 3))][k]? = some q → ArrOfT s q.1 q.2 ∧ va_RA s q.1 q.2 := by
  obtain ⟨-, -, -, -, ⟨w1, w2, w3⟩⟩ := zmT
  obtain ⟨cI, kI, compI, h1, h2, h3⟩ := Cond.arrayClass_spec (hts _ w1)
  obtain ⟨cB, kB, compB, h4, h5, h6⟩ := Cond.arrayClass_spec (hts _ w2)
  obtain ⟨comp, cM, kM, h7, -, h8, h9, h10⟩ := Cond.arrayOver_spec (hts _ w3)
  refine ⟨cI, cB, cM, fun k q hq => ?_⟩
  match k, hq with
  | 0, hq => cases hq; exact ⟨fun n z => ⟨fun k h => (by cases h), kI, h2, compI, h3⟩, h1⟩
  | 1, hq => cases hq; exact ⟨fun n z => ⟨fun k h => (by cases h), kB, h5, compB, h6⟩, h4⟩
  | 2, hq => cases hq; exact ⟨fun n z => ⟨fun k h => (by cases h), kM, h8, comp, h9⟩, kM, comp, h8, h9, h7, h10⟩
  | k + 3, hq => cases hq
theorem wRO (hts : ∀ w ∈ lw_tbl, w.before #[Value.ref b] s = true) (hgv : (Jvm.Cond.and given_1 narrow_1).before #[Value.ref b] s = true) : ∃ (t14 t15 t15v : Nat) (fv : Value), (fv = .null ∨ ∃ t, fv = .ref t) ∧ (va_Z "ClaspedFair$Puzzles" "HEAP" "[I" (.ref t14) (fun q => s.heap.size ≤ q) s s.heap ∧ va_T .int t14 21 (fun j => .int (zHV j)) (fun q => s.heap.size ≤ q) s s.heap) ∧ (va_Z "java/lang/String" "COMPACT_STRINGS" "Z" (.int 1) (fun q => s.heap.size ≤ q) s s.heap ∧ va_Z "jdk/internal/util/Preconditions" "SIOOBE_FORMATTER" "Ljava/util/function/BiFunction;" fv (fun q => s.heap.size ≤ q) s s.heap) ∧
    vk_R "ClaspedFair$Tape" 48 zTX t15 s ∧ va_O "java/lang/String" t15 (fun q => s.heap.size ≤ q) s s.heap ∧ va_OF "java/lang/String" "coder" "B" (.int 0) t15 (fun q => s.heap.size ≤ q) s s.heap ∧ va_OF "java/lang/String" "value" "[B" (.ref t15v) t15 (fun q => s.heap.size ≤ q) s s.heap ∧ va_T .byte t15v 139 (fun j => .int (zWB j)) (fun q => s.heap.size ≤ q) s s.heap := by
  have hq := flat_of_before _ hgv
  have hA : ∀ a : Nat, a < s.heap.size → ¬ (fun q => s.heap.size ≤ q) a := fun a h => Nat.not_le.mpr h
  obtain ⟨⟨o1, o2⟩, ⟨o3, o4⟩, ⟨o5, o6, o7, o8⟩⟩ := zmO
  obtain ⟨⟨w1, w2⟩, ⟨w3, w4⟩, ⟨w5, w6⟩, w7, -⟩ := zmT
  obtain ⟨t14, e14, T14⟩ := va_Tof (N := 21) (f := fun j => .int (zHV j)) (A := fun q => s.heap.size ≤ q) (by decide) (hq _ o1) (va_eqt (hq _ o2)) (fun j hj => va_eqt (hq _ (zmH j hj))) hA
  obtain ⟨t15, c, cA, kA, q1, -⟩ := Cond.exactly_spec (args := #[Value.ref b]) (first := s) (o := none) (s := s) (idx := []) (hq _ o5)
  obtain ⟨t15v, e15, T15⟩ := va_Tof (N := 139) (f := fun j => .int (zWB j)) (A := fun q => s.heap.size ≤ q) (by decide) (hq _ o7) (va_eqt (hq _ o8)) (fun j hj => va_eqt (hq _ (zmS j hj))) hA
  have Zq := va_Zqof (A := fun q => s.heap.size ≤ q) (hts _ w5) (hts _ w6) (hq _ o4) hA
  have rest : ∀ fv : Value, (fv = .null ∨ ∃ t, fv = .ref t) → va_Z "jdk/internal/util/Preconditions" "SIOOBE_FORMATTER" "Ljava/util/function/BiFunction;" fv (fun q => s.heap.size ≤ q) s s.heap → _ := fun fv h1 h2 => (⟨t14, t15, t15v, fv, h1, ⟨va_Zof (hts _ w1) (hts _ w2) e14 hA, T14⟩, ⟨va_Zof (hts _ w3) (hts _ w4) (va_eqt (hq _ o3)) hA, h2⟩, vk_R.of (hts _ w7) q1, va_Oof (hq _ o5) q1 hA, vk_OFof q1 (va_eqt (hq _ o6)) hA, vk_OFof q1 e15 hA, T15⟩ : ∃ (t14 t15 t15v : Nat) (fv : Value), (fv = .null ∨ ∃ t, fv = .ref t) ∧ (va_Z "ClaspedFair$Puzzles" "HEAP" "[I" (.ref t14) (fun q => s.heap.size ≤ q) s s.heap ∧ va_T .int t14 21 (fun j => .int (zHV j)) (fun q => s.heap.size ≤ q) s s.heap) ∧ (va_Z "java/lang/String" "COMPACT_STRINGS" "Z" (.int 1) (fun q => s.heap.size ≤ q) s s.heap ∧ va_Z "jdk/internal/util/Preconditions" "SIOOBE_FORMATTER" "Ljava/util/function/BiFunction;" fv (fun q => s.heap.size ≤ q) s s.heap) ∧
    vk_R "ClaspedFair$Tape" 48 zTX t15 s ∧ va_O "java/lang/String" t15 (fun q => s.heap.size ≤ q) s s.heap ∧ va_OF "java/lang/String" "coder" "B" (.int 0) t15 (fun q => s.heap.size ≤ q) s s.heap ∧ va_OF "java/lang/String" "value" "[B" (.ref t15v) t15 (fun q => s.heap.size ≤ q) s s.heap ∧ va_T .byte t15v 139 (fun j => .int (zWB j)) (fun q => s.heap.size ≤ q) s s.heap)
  rcases Zq with Zq | ⟨t, Zq⟩
  · exact rest .null (Or.inl rfl) Zq
  · exact rest (.ref t) (Or.inr ⟨t, rfl⟩) Zq
end AW
/-- where all stands -/
def wZ (b0 b t14 t15 t15v : Nat) (fv : Value) (D : va_G) (T : ClassId × ClassId × ClassId) (L : Nat) (xs : Nat → Int32) : zP := (fun k i s => if k = 13 then b else if k = 14 then t14 else if k = 15 then (if s = 1 then t15v else t15) else b0 + zidx (k, i, s), fv, D, T, fun q => b0 ≤ q, L, xs)
theorem wZ_c {b0 b t14 t15 t15v : Nat} {fv : Value} {D : va_G} {T : ClassId × ClassId × ClassId} {L : Nat} {xs : Nat → Int32} : ∀ q ∈ zIDS, zad (wZ b0 b t14 t15 t15v fv D T L xs) q.1 q.2.1 q.2.2 = b0 + zidx q := fun q hq => by
  have h := (zIDS_q hq).1
  show (if q.1 = 13 then b else if q.1 = 14 then t14 else if q.1 = 15 then (if q.2.2 = 1 then t15v else t15) else b0 + zidx (q.1, q.2.1, q.2.2)) = _
  rw [if_neg (by omega), if_neg (by omega), if_neg (by omega)]
theorem zIDS_inj : ∀ i, i < zIDS.length → ∀ j, j < zIDS.length → zIDS[i]? = zIDS[j]? → i = j := by decide +kernel
theorem wAD {b0 b t14 t15 t15v : Nat} {fv : Value} {D : va_G} {T : ClassId × ClassId × ClassId} {L : Nat} {xs : Nat → Int32} (hf : fv = .null ∨ ∃ t, fv = .ref t) : zAD (wZ b0 b t14 t15 t15v fv D T L xs) := by
  refine ⟨fun i j p q hi hj e => ?_, fun q hq => ?_, hf⟩
  · have mp := List.mem_of_getElem? hi
    have mq := List.mem_of_getElem? hj
    rw [wZ_c p mp, wZ_c q mq] at e
    have ez : zidx p = zidx q := by omega
    have h1 := (cQ_ok p mp).2
    have h2 := (cQ_ok q mq).2
    rw [ez, h2] at h1
    cases h1
    exact zIDS_inj i (List.getElem?_eq_some_iff.mp hi).1 j (List.getElem?_eq_some_iff.mp hj).1 (hi.trans hj.symm)
  · rw [wZ_c q hq]
    show b0 ≤ b0 + zidx q
    omega
section AX
variable {Z : cP} {p : Program} {l : Launch} {e : Env} {R : Room} {s : State} {m : MethodId} {args : Array Value} {below : List Frame} {meth : Method} {c : Code} {cells slots : Nat} {Q : State → Prop} {cc : ByteArray} {H : Heap} {locs : List Loc}
theorem cW_newL {o x k pc : Nat} {cs : List cC} {lA : Array Slot} {st : List Value} (hx : p.tables.exec = Jvm.exec) (hb : c.code = cc) (hown : s.vm.findClass (znm o) = some m.cls) (hts : ∀ w ∈ zGW, w.before args s = true) (hG : cG Z s) (hk : cnw o x = some k) (hd : decode cc pc = .ok (.new x, 3)) (hRc : cells + 1 ≤ R.cells) (hRs : slots + znf k ≤ R.slots) (hH : cHC Z cs H) (hS : va_S (cA Z) s.heap H locs)
    (K : ∀ H', cHC Z (cs ++ [.inr (k, (List.range (znf k)).map (cdef k))]) H' → va_S (cA Z) s.heap H' locs → W p l e R s m args below meth c H' locs (cells + 1) (slots + znf k) Q (F0 m (pc + 3) lA (.ref (Z.1 + cs.length) :: st))) : W p l e R s m args below meth c H locs cells slots Q (F0 m pc lA st) := by
  obtain ⟨hk13, hcl⟩ := cnw_ok hk
  have hI := zrange cI_ok hk13
  unfold cokI at hI
  rw [Bool.and_eq_true] at hI
  have hKn := hG.1.1 k _ (zcl_at hk13)
  refine W.newcK hx hb hown (hts _ hcl) (hts _ (zat_in hI.1)) (hts _ (zat_in hI.2)) rfl hd hRc hRs hKn.2.1 rfl fun H1 kC hkC e1 z1 o1 => ?_
  have e9 : H.size = Z.1 + cs.length := hH.1
  have K1 := K H1 ⟨by rw [z1, e9, List.length_append, List.length_singleton]; omega, ?_⟩ ⟨by have := hS.1; omega, fun q h1 h2 => (o1 q (Nat.lt_of_lt_of_le h1 hS.1)).trans (hS.2.1 q h1 h2), hS.2.2⟩
  · rw [← e9] at K1
    exact K1
  · rw [cws_push]
    refine (hH.2.kept (fun j x hx9 => o1 x.1 ((hH.2 j x hx9).lt))).app (fun j x hx9 => ?_)
    have hz : j < 1 := (List.getElem?_eq_some_iff.mp hx9).1
    rw [show j = 0 by omega] at hx9
    cases hx9
    refine ⟨_, zcl_at hk13, ?_⟩
    rw [← e9]
    refine (u_born (zty0 k) hts (zin_k hk13) hKn hkC e1 (zty_ok hk13)).to (fun f hf => ?_)
    rw [cdef_ok (b0 := Z.1) hk13 hf]
    show _ = vp_V (((List.range (znf k)).map (cdef k)).map (ccv Z.1)) f
    unfold vp_V
    rw [List.getD_eq_getElem?_getD, List.getElem?_map, List.getElem?_map, List.getElem?_range hf]
    rfl
end AX
