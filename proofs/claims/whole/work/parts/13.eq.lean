/-! EQUATIONS: an instruction, an equation of zev -/
section ZE
variable {L d m pc : Nat} {ls ls' : zLS} {st : List zV} {h : zH} {x y v : Int32} {k i s f : Nat}
theorem e_iconst {n : Int} (hf : zfet m pc = some (.iconst n)) (hv : Int32.ofInt n = v) : zev L d m pc ls st h = zev L d m (pc + 1) ls (.inl v :: st) h := by subst hv; exact zev_go hf rfl
theorem e_bipush {n : Int} (hf : zfet m pc = some (.bipush n)) (hv : (Int8.ofInt n).toInt32 = v) : zev L d m pc ls st h = zev L d m (pc + 2) ls (.inl v :: st) h := by subst hv; exact zev_go hf rfl
theorem e_sipush {n : Int} (hf : zfet m pc = some (.sipush n)) (hv : (Int16.ofInt n).toInt32 = v) : zev L d m pc ls st h = zev L d m (pc + 3) ls (.inl v :: st) h := by subst hv; exact zev_go hf rfl
theorem e_lconst {n : Fin 2} {w : Int64} (hf : zfet m pc = some (.lconst n)) (hv : Int64.ofNat n.val = w) : zev L d m pc ls st h = zev L d m (pc + 1) ls (.inr (.inr w) :: st) h := by subst hv; exact zev_go hf rfl
theorem e_ldc {c : Nat} (hf : zfet m pc = some (.ldc c)) (hv : ¬ (zown m = 7 ∧ c = 48) ∧ zclk (zown m) c = some v) : zev L d m pc ls st h = zev L d m (pc + 2) ls (.inl v :: st) h := by
  refine zev_go hf ?_
  show (if _ then _ else _) = _
  rw [if_neg hv.1, hv.2]
theorem e_ldcS (hf : zfet m pc = some (.ldc 48)) (hv : zown m = 7) : zev L d m pc ls st h = zev L d m (pc + 2) ls (.inr (.inl (15, 0, 0)) :: st) h := by
  refine zev_go hf ?_
  show (if _ then _ else _) = _
  rw [if_pos ⟨hv, rfl⟩]
theorem e_ldcw {c : Nat} (hf : zfet m pc = some (.ldc_w c)) (hv : zclk (zown m) c = some v) : zev L d m pc ls st h = zev L d m (pc + 3) ls (.inl v :: st) h := by
  refine zev_go hf ?_
  show (match zclk (zown m) c with | some v => _ | none => _) = _
  rw [hv]
theorem e_ldc2 {c : Nat} {w : Int64} (hf : zfet m pc = some (.ldc2_w c)) (hv : zllk (zown m) c = some w) : zev L d m pc ls st h = zev L d m (pc + 3) ls (.inr (.inr w) :: st) h := by
  refine zev_go hf ?_
  show (match zllk (zown m) c with | some v => _ | none => _) = _
  rw [hv]
theorem e_iload {j : Nat} (hf : zfet m pc = some (.iload j)) (hl : zlg ls j = some (.inl x)) : zev L d m pc ls st h = zev L d m (pc + 2) ls (.inl x :: st) h := zev_go hf (by show znx _ _ _ (match zlg ls j with | some (.inl x) => _ | _ => _) = _; rw [hl]; rfl)
theorem e_iload_n {j : Fin 4} (hf : zfet m pc = some (.iload_n j)) (hl : zlg ls j.val = some (.inl x)) : zev L d m pc ls st h = zev L d m (pc + 1) ls (.inl x :: st) h := zev_go hf (by show znx _ _ _ (match zlg ls j.val with | some (.inl x) => _ | _ => _) = _; rw [hl]; rfl)
theorem e_aload {j : Nat} (hf : zfet m pc = some (.aload j)) (hl : zlg ls j = some (.inr (.inl (k, i, s)))) (hk : k ≤ 15) : zev L d m pc ls st h = zev L d m (pc + 2) ls (.inr (.inl (k, i, s)) :: st) h := zev_go hf (by show znx _ _ _ (match zlg ls j with | some (.inr (.inl (k, j, s))) => _ | _ => _) = _; rw [hl]; show znx _ _ _ (if _ then _ else _) = _; rw [if_pos hk]; rfl)
theorem e_aload_n {j : Fin 4} (hf : zfet m pc = some (.aload_n j)) (hl : zlg ls j.val = some (.inr (.inl (k, i, s)))) (hk : k ≤ 15) : zev L d m pc ls st h = zev L d m (pc + 1) ls (.inr (.inl (k, i, s)) :: st) h := zev_go hf (by show znx _ _ _ (match zlg ls j.val with | some (.inr (.inl (k, j, s))) => _ | _ => _) = _; rw [hl]; show znx _ _ _ (if _ then _ else _) = _; rw [if_pos hk]; rfl)
theorem e_lload_n {j : Fin 4} {w : Int64} (hf : zfet m pc = some (.lload_n j)) (hl : zlg ls j.val = some (.inr (.inr w))) : zev L d m pc ls st h = zev L d m (pc + 1) ls (.inr (.inr w) :: st) h := zev_go hf (by show znx _ _ _ (match zlg ls j.val with | some (.inr (.inr x)) => _ | _ => _) = _; rw [hl]; rfl)
theorem e_istore {j : Nat} (hf : zfet m pc = some (.istore j)) (hl : zlsJ m ls j (.inl x) = some ls') : zev L d m pc ls (.inl x :: st) h = zev L d m (pc + 2) ls' st h := zev_go hf (by show (match zlsJ m ls j (.inl x) with | some ls' => _ | none => _) = _; rw [hl])
theorem e_istore_n {j : Fin 4} (hf : zfet m pc = some (.istore_n j)) (hl : zlsJ m ls j.val (.inl x) = some ls') : zev L d m pc ls (.inl x :: st) h = zev L d m (pc + 1) ls' st h := zev_go hf (by show (match zlsJ m ls j.val (.inl x) with | some ls' => _ | none => _) = _; rw [hl])
theorem e_astore {j : Nat} (hf : zfet m pc = some (.astore j)) (hk : k ≤ 15) (hl : zlsJ m ls j (.inr (.inl (k, i, s))) = some ls') : zev L d m pc ls (.inr (.inl (k, i, s)) :: st) h = zev L d m (pc + 2) ls' st h := zev_go hf (by show (if _ then (match zlsJ m ls j (.inr (.inl (k, i, s))) with | some ls' => _ | none => _) else _) = _; rw [if_pos hk, hl])
theorem e_astore_n {j : Fin 4} (hf : zfet m pc = some (.astore_n j)) (hk : k ≤ 15) (hl : zlsJ m ls j.val (.inr (.inl (k, i, s))) = some ls') : zev L d m pc ls (.inr (.inl (k, i, s)) :: st) h = zev L d m (pc + 1) ls' st h := zev_go hf (by show (if _ then (match zlsJ m ls j.val (.inr (.inl (k, i, s))) with | some ls' => _ | none => _) else _) = _; rw [if_pos hk, hl])
theorem e_lstore_n {j : Fin 4} {w : Int64} (hf : zfet m pc = some (.lstore_n j) ∧ zhl m = true) (hl : zlsL ls j.val w = some ls') : zev L d m pc ls (.inr (.inr w) :: st) h = zev L d m (pc + 1) ls' st h := zev_go hf.1 (by show (if _ then (match zlsL ls j.val w with | some ls' => _ | none => _) else _) = _; rw [if_pos hf.2, hl])
theorem e_iinc {j : Nat} {n : Int} (hf : zfet m pc = some (.iinc j n)) (hg : zlg ls j = some (.inl x)) (hv : x + Int32.ofInt n = v) (hl : zlsJ m ls j (.inl v) = some ls') : zev L d m pc ls st h = zev L d m (pc + 3) ls' st h := zev_go hf (by
  subst hv
  show (match zlg ls j with | some (.inl v) => _ | _ => _) = _
  rw [hg]
  show (match zlsJ m ls j (.inl (x + Int32.ofInt n)) with | some ls' => _ | none => _) = _
  rw [hl])
theorem e_iadd (hf : zfet m pc = some .iadd) : zev L d m pc ls (.inl y :: .inl x :: st) h = zev L d m (pc + 1) ls (.inl (x + y) :: st) h := zev_go hf rfl
theorem e_isub (hf : zfet m pc = some .isub) : zev L d m pc ls (.inl y :: .inl x :: st) h = zev L d m (pc + 1) ls (.inl (x - y) :: st) h := zev_go hf rfl
theorem e_imul (hf : zfet m pc = some .imul) : zev L d m pc ls (.inl y :: .inl x :: st) h = zev L d m (pc + 1) ls (.inl (x * y) :: st) h := zev_go hf rfl
theorem e_iand (hf : zfet m pc = some .iand) : zev L d m pc ls (.inl y :: .inl x :: st) h = zev L d m (pc + 1) ls (.inl (x &&& y) :: st) h := zev_go hf rfl
theorem e_ior (hf : zfet m pc = some .ior) : zev L d m pc ls (.inl y :: .inl x :: st) h = zev L d m (pc + 1) ls (.inl (x ||| y) :: st) h := zev_go hf rfl
theorem e_ixor (hf : zfet m pc = some .ixor) : zev L d m pc ls (.inl y :: .inl x :: st) h = zev L d m (pc + 1) ls (.inl (x ^^^ y) :: st) h := zev_go hf rfl
theorem e_ishl (hf : zfet m pc = some .ishl) : zev L d m pc ls (.inl y :: .inl x :: st) h = zev L d m (pc + 1) ls (.inl (x <<< (y &&& 31)) :: st) h := zev_go hf rfl
theorem e_ishr (hf : zfet m pc = some .ishr) : zev L d m pc ls (.inl y :: .inl x :: st) h = zev L d m (pc + 1) ls (.inl (x >>> (y &&& 31)) :: st) h := zev_go hf rfl
theorem e_iushr (hf : zfet m pc = some .iushr) : zev L d m pc ls (.inl y :: .inl x :: st) h = zev L d m (pc + 1) ls (.inl ((x.toUInt32 >>> (y.toUInt32 &&& Int32.toUInt32 31)).toInt32) :: st) h := zev_go hf rfl
theorem e_ineg (hf : zfet m pc = some .ineg) : zev L d m pc ls (.inl x :: st) h = zev L d m (pc + 1) ls (.inl (-x) :: st) h := zev_go hf rfl
theorem e_idiv (hf : zfet m pc = some .idiv) (hy : ¬ y = 0) : zev L d m pc ls (.inl y :: .inl x :: st) h = zev L d m (pc + 1) ls (.inl (x / y) :: st) h := zev_go hf (by show znx _ _ _ (match (if y = 0 then none else some (Sum.inl (x / y)) : Option zV) with | some v => _ | none => _) = _; rw [if_neg hy]; rfl)
theorem e_irem (hf : zfet m pc = some .irem) (hy : ¬ y = 0) : zev L d m pc ls (.inl y :: .inl x :: st) h = zev L d m (pc + 1) ls (.inl (x - x / y * y) :: st) h := zev_go hf (by show znx _ _ _ (match (if y = 0 then none else some (Sum.inl (x - x / y * y)) : Option zV) with | some v => _ | none => _) = _; rw [if_neg hy]; rfl)
theorem e_i2b (hf : zfet m pc = some .i2b) : zev L d m pc ls (.inl x :: st) h = zev L d m (pc + 1) ls (.inl x.toInt8.toInt32 :: st) h := zev_go hf rfl
theorem e_i2c (hf : zfet m pc = some .i2c) : zev L d m pc ls (.inl x :: st) h = zev L d m (pc + 1) ls (.inl (x.toUInt32 % 65536).toInt32 :: st) h := zev_go hf rfl
theorem e_i2l (hf : zfet m pc = some .i2l) : zev L d m pc ls (.inl x :: st) h = zev L d m (pc + 1) ls (.inr (.inr x.toInt64) :: st) h := zev_go hf rfl
theorem e_l2i {a : Int64} (hf : zfet m pc = some .l2i) : zev L d m pc ls (.inr (.inr a) :: st) h = zev L d m (pc + 1) ls (.inl a.toInt32 :: st) h := zev_go hf rfl
theorem e_lmul {a b : Int64} (hf : zfet m pc = some .lmul) : zev L d m pc ls (.inr (.inr b) :: .inr (.inr a) :: st) h = zev L d m (pc + 1) ls (.inr (.inr (a * b)) :: st) h := zev_go hf rfl
theorem e_ldiv {a b : Int64} (hf : zfet m pc = some .ldiv) (hy : ¬ b = 0) : zev L d m pc ls (.inr (.inr b) :: .inr (.inr a) :: st) h = zev L d m (pc + 1) ls (.inr (.inr (a / b)) :: st) h := zev_go hf (by show znx _ _ _ (match (if b = 0 then none else some (Sum.inr (Sum.inr (a / b))) : Option zV) with | some v => _ | none => _) = _; rw [if_neg hy]; rfl)
theorem e_lrem {a b : Int64} (hf : zfet m pc = some .lrem) (hy : ¬ b = 0) : zev L d m pc ls (.inr (.inr b) :: .inr (.inr a) :: st) h = zev L d m (pc + 1) ls (.inr (.inr (a - a / b * b)) :: st) h := zev_go hf (by show znx _ _ _ (match (if b = 0 then none else some (Sum.inr (Sum.inr (a - a / b * b))) : Option zV) with | some v => _ | none => _) = _; rw [if_neg hy]; rfl)
theorem e_dupI (hf : zfet m pc = some .dup) : zev L d m pc ls (.inl x :: st) h = zev L d m (pc + 1) ls (.inl x :: .inl x :: st) h := zev_go hf rfl
theorem e_dupR {q : Nat × Nat × Nat} (hf : zfet m pc = some .dup) : zev L d m pc ls (.inr (.inl q) :: st) h = zev L d m (pc + 1) ls (.inr (.inl q) :: .inr (.inl q) :: st) h := zev_go hf rfl
theorem e_dup2 {q : Nat × Nat × Nat} (hf : zfet m pc = some .dup2) : zev L d m pc ls (.inl x :: .inr (.inl q) :: st) h = zev L d m (pc + 1) ls (.inl x :: .inr (.inl q) :: .inl x :: .inr (.inl q) :: st) h := zev_go hf rfl
theorem e_pop (hf : zfet m pc = some .pop) : zev L d m pc ls (.inl x :: st) h = zev L d m (pc + 1) ls st h := zev_go hf rfl
theorem e_goto {off : Int} {t : Nat} (hf : zfet m pc = some (.goto off)) (ht : zjt pc off = some t) : zev L d m pc ls st h = zev L d m t ls st h := zev_go hf (by show zjmp _ _ _ _ = _; rw [ht]; rfl)
theorem e_if {c : ClassFile.Cond} {off : Int} {t : Nat} (hf : zfet m pc = some (.ifCond c off)) (ht : zjt pc off = some t) : zev L d m pc ls (.inl x :: st) h = if zcmp c x 0 = true then zev L d m t ls st h else zev L d m (pc + 3) ls st h := by
  by_cases hc : zcmp c x 0 = true
  · rw [if_pos hc]
    exact zev_go hf (by show (match zjt pc off with | none => _ | some t => _) = _; rw [ht]; show (if _ then _ else _) = _; rw [if_pos hc])
  · rw [if_neg hc]
    exact zev_go hf (by show (match zjt pc off with | none => _ | some t => _) = _; rw [ht]; show (if _ then _ else _) = _; rw [if_neg hc])
theorem e_icmp {c : ClassFile.Cond} {off : Int} {t : Nat} (hf : zfet m pc = some (.if_icmp c off)) (ht : zjt pc off = some t) : zev L d m pc ls (.inl y :: .inl x :: st) h = if zcmp c x y = true then zev L d m t ls st h else zev L d m (pc + 3) ls st h := by
  by_cases hc : zcmp c x y = true
  · rw [if_pos hc]
    exact zev_go hf (by show (match zjt pc off with | none => _ | some t => _) = _; rw [ht]; show (if _ then _ else _) = _; rw [if_pos hc])
  · rw [if_neg hc]
    exact zev_go hf (by show (match zjt pc off with | none => _ | some t => _) = _; rw [ht]; show (if _ then _ else _) = _; rw [if_neg hc])
theorem zcmp_eq {p q : Option zRS} : (if zcmp .eq x y = true then p else q) = if x = y then p else q := by unfold zcmp; simp only [decide_eq_true_eq]
theorem zcmp_ne {p q : Option zRS} : (if zcmp .ne x y = true then p else q) = if x = y then q else p := by unfold zcmp; simp only [decide_eq_true_eq]; by_cases hc : x = y <;> simp [hc]
theorem zcmp_lt {p q : Option zRS} : (if zcmp .lt x y = true then p else q) = if x < y then p else q := by unfold zcmp; simp only [decide_eq_true_eq]
theorem zcmp_ge {p q : Option zRS} : (if zcmp .ge x y = true then p else q) = if y ≤ x then p else q := by unfold zcmp; simp only [decide_eq_true_eq]
theorem zcmp_gt {p q : Option zRS} : (if zcmp .gt x y = true then p else q) = if y < x then p else q := by unfold zcmp; simp only [decide_eq_true_eq]
theorem zcmp_le {p q : Option zRS} : (if zcmp .le x y = true then p else q) = if x ≤ y then p else q := by unfold zcmp; simp only [decide_eq_true_eq]
theorem e_getI {c : Nat} (hf : zfet m pc = some (.getfield c) ∧ zflk (zown m) c = some (k, f) ∧ (zfty k f = 0 ∨ zfty k f = 1 ∨ zfty k f = 4 ∨ zfty k f = 5)) : zev L d m pc ls (.inr (.inl (k, i, 0)) :: st) h = zev L d m (pc + 3) ls (.inl (h k i 0 f) :: st) h := by
  refine zev_go hf.1 ?_
  show (match zflk (zown m) c with | some q => _ | none => _) = _
  rw [hf.2.1]
  show znx _ _ _ (if _ then _ else _) = _
  rw [if_pos ⟨rfl, rfl⟩]
  rcases hf.2.2 with q | q | q | q <;> (simp only [q]; rfl)
theorem e_getR {c : Nat} {q : Nat × Nat × Nat} (hf : zfet m pc = some (.getfield c) ∧ zflk (zown m) c = some (k, f) ∧ zfty k f = 2) (hq : ztgt k i f = q) : zev L d m pc ls (.inr (.inl (k, i, 0)) :: st) h = zev L d m (pc + 3) ls (.inr (.inl q) :: st) h := by
  refine zev_go hf.1 ?_
  show (match zflk (zown m) c with | some q => _ | none => _) = _
  rw [hf.2.1]
  show znx _ _ _ (if _ then _ else _) = _
  rw [if_pos ⟨rfl, rfl⟩]
  simp only [hf.2.2, hq]
  rfl
theorem e_getD {c : Nat} (hf : zfet m pc = some (.getfield c) ∧ zflk (zown m) c = some (k, f) ∧ zfty k f = 3) : zev L d m pc ls (.inr (.inl (k, i, 0)) :: st) h = zev L d m (pc + 3) ls (.inr (.inl (3, (h k i 0 f).toNatClampNeg, 0)) :: st) h := by
  refine zev_go hf.1 ?_
  show (match zflk (zown m) c with | some q => _ | none => _) = _
  rw [hf.2.1]
  show znx _ _ _ (if _ then _ else _) = _
  rw [if_pos ⟨rfl, rfl⟩]
  simp only [hf.2.2]
  rfl
theorem e_putI {c : Nat} (hf : zfet m pc = some (.putfield c) ∧ zflk (zown m) c = some (k, f) ∧ zfty k f = 0 ∧ k ≤ 12) : zev L d m pc ls (.inl v :: .inr (.inl (k, i, 0)) :: st) h = zev L d m (pc + 3) ls st (zup h k i 0 f v) := by
  refine zev_go hf.1 ?_
  show (match zflk (zown m) c with | some q => _ | none => _) = _
  rw [hf.2.1]
  show (if _ then _ else _) = _
  rw [if_pos ⟨rfl, rfl, hf.2.2.2⟩]
  simp only [hf.2.2.1]
theorem e_putZ {c : Nat} (hf : zfet m pc = some (.putfield c) ∧ zflk (zown m) c = some (k, f) ∧ zfty k f = 1 ∧ k ≤ 12) (hv : v = 0 ∨ v = 1) : zev L d m pc ls (.inl v :: .inr (.inl (k, i, 0)) :: st) h = zev L d m (pc + 3) ls st (zup h k i 0 f v) := by
  refine zev_go hf.1 ?_
  show (match zflk (zown m) c with | some q => _ | none => _) = _
  rw [hf.2.1]
  show (if _ then _ else _) = _
  rw [if_pos ⟨rfl, rfl, hf.2.2.2⟩]
  simp only [hf.2.2.1]
  rw [if_pos hv]
theorem e_putD {c i' : Nat} (hf : zfet m pc = some (.putfield c) ∧ zflk (zown m) c = some (k, f) ∧ zfty k f = 3 ∧ k ≤ 12) : zev L d m pc ls (.inr (.inl (3, i', 0)) :: .inr (.inl (k, i, 0)) :: st) h = zev L d m (pc + 3) ls st (zup h k i 0 f (Int32.ofNat i')) := by
  refine zev_go hf.1 ?_
  show (match zflk (zown m) c with | some q => _ | none => _) = _
  rw [hf.2.1]
  show (if _ then _ else _) = _
  rw [if_pos ⟨rfl, rfl, rfl, rfl, hf.2.2.2⟩]
  simp only [hf.2.2.1]
theorem e_gets {c : Nat} {q : Nat} {w : zV} (hf : zfet m pc = some (.getstatic c) ∧ zslk (zown m) c = some q) (hw : zgets q st = some (w :: st)) : zev L d m pc ls st h = zev L d m (pc + 3) ls (w :: st) h := by
  refine zev_go hf.1 ?_
  show (match zslk (zown m) c with | some q => _ | none => _) = _
  rw [hf.2]
  show znx _ _ _ (zgets q st) = _
  rw [hw]
  rfl
theorem zIn_t {j : Int32} {n : Nat} (h : vp_in j n) : zIn j n = true := by
  have h2 : ¬ (j < 0 ∨ n ≤ j.toNatClampNeg) := h
  show decide (¬ (j < 0 ∨ n ≤ j.toNatClampNeg)) = true
  exact decide_eq_true h2
theorem e_iald {N : Nat} (hf : zfet m pc = some .iaload ∧ zaty k s = 0) (hn : zaln L k i s = N) (hb : vp_in x N) : zev L d m pc ls (.inl x :: .inr (.inl (k, i, s)) :: st) h = zev L d m (pc + 1) ls (.inl (h k i s x.toNatClampNeg) :: st) h := by
  subst hn
  refine zev_go hf.1 ?_
  show znx _ _ _ (if _ then _ else _) = _
  rw [if_pos ⟨hf.2, zIn_t hb⟩]
  rfl
theorem e_bald {N : Nat} (hf : zfet m pc = some .baload ∧ zaty k s = 1) (hn : zaln L k i s = N) (hb : vp_in x N) : zev L d m pc ls (.inl x :: .inr (.inl (k, i, s)) :: st) h = zev L d m (pc + 1) ls (.inl (h k i s x.toNatClampNeg) :: st) h := by
  subst hn
  refine zev_go hf.1 ?_
  show znx _ _ _ (if _ then _ else _) = _
  rw [if_pos ⟨hf.2, zIn_t hb⟩]
  rfl
theorem e_aald (hf : zfet m pc = some .aaload) (hb : vp_in x 6) : zev L d m pc ls (.inl x :: .inr (.inl (4, 0, 1)) :: st) h = zev L d m (pc + 1) ls (.inr (.inl (3, 3 + x.toNatClampNeg, 0)) :: st) h := by
  refine zev_go hf ?_
  show znx _ _ _ (if _ then _ else _) = _
  rw [if_pos ⟨rfl, zIn_t hb⟩]
  rfl
theorem e_iast {N : Nat} (hf : zfet m pc = some .iastore ∧ zaty k s = 0 ∧ k ≤ 12) (hn : zaln L k i s = N) (hb : vp_in x N) : zev L d m pc ls (.inl v :: .inl x :: .inr (.inl (k, i, s)) :: st) h = zev L d m (pc + 1) ls st (zup h k i s x.toNatClampNeg v) := by
  subst hn
  refine zev_go hf.1 ?_
  show (if _ then _ else _) = _
  rw [if_pos ⟨hf.2.1, hf.2.2, zIn_t hb⟩]
theorem e_bast {N : Nat} (hf : zfet m pc = some .bastore ∧ zaty k s = 1 ∧ k ≤ 12) (hn : zaln L k i s = N) (hb : vp_in x N) : zev L d m pc ls (.inl v :: .inl x :: .inr (.inl (k, i, s)) :: st) h = zev L d m (pc + 1) ls st (zup h k i s x.toNatClampNeg v.toInt8.toInt32) := by
  subst hn
  refine zev_go hf.1 ?_
  show (if _ then _ else _) = _
  rw [if_pos ⟨hf.2.1, hf.2.2, zIn_t hb⟩]
theorem e_alen {N : Nat} (hf : zfet m pc = some .arraylength ∧ zaty k s ≤ 2) (hn : zaln L k i s = N) : zev L d m pc ls (.inr (.inl (k, i, s)) :: st) h = zev L d m (pc + 1) ls (.inl (nI N) :: st) h := by
  subst hn
  refine zev_go hf.1 ?_
  show znx _ _ _ (if _ then _ else _) = _
  rw [if_pos hf.2]
  rfl
theorem e_copy {c k' i' s' N N' : Nat} {n dp sp : Int32} (hf : zfet m pc = some (.invokestatic c) ∧ zmlk (zown m) c = some 999 ∧ zaty k s = 0 ∧ zaty k' s' = 0 ∧ k ≤ 12 ∧ k' ≤ 12) (hr : st.length ≤ 4) (hn : zaln L k i s = N) (hn' : zaln L k' i' s' = N') (h1 : ¬ sp < 0) (h2 : ¬ dp < 0) (h3 : ¬ n < 0) (h4 : sp.toNatClampNeg + n.toNatClampNeg ≤ N') (h5 : dp.toNatClampNeg + n.toNatClampNeg ≤ N) : zev L d m pc ls (.inl n :: .inl dp :: .inr (.inl (k, i, s)) :: .inl sp :: .inr (.inl (k', i', s')) :: st) h = zev L d m (pc + 3) ls st (zupA h k i s (va_cpy (h k' i' s') (h k i s) sp.toNatClampNeg dp.toNatClampNeg n.toNatClampNeg)) := by
  subst hn; subst hn'
  refine zev_go hf.1 ?_
  show (match zmlk (zown m) c with | some m' => _ | none => _) = _
  rw [hf.2.1]
  show (if _ then _ else _) = _
  rw [if_pos rfl]
  show (if _ then _ else _) = _
  rw [if_pos ⟨hf.2.2.1, hf.2.2.2.1, hf.2.2.2.2.1, hf.2.2.2.2.2, h1, h2, h3, h4, h5, hr⟩]
theorem e_max {c : Nat} (hf : zfet m pc = some (.invokestatic c) ∧ zmlk (zown m) c = some 997) (hr : st.length ≤ 4) : zev L d m pc ls (.inl y :: .inl x :: st) h = zev L d m (pc + 3) ls (.inl (if x < y then y else x) :: st) h := by
  refine zev_go hf.1 ?_
  show (match zmlk (zown m) c with | some m' => _ | none => _) = _
  rw [hf.2]
  show znx _ _ _ (if _ then _ else _) = _
  rw [if_pos hr]
  rfl
theorem e_min {c : Nat} (hf : zfet m pc = some (.invokestatic c) ∧ zmlk (zown m) c = some 996) (hr : st.length ≤ 4) : zev L d m pc ls (.inl y :: .inl x :: st) h = zev L d m (pc + 3) ls (.inl (if y < x then y else x) :: st) h := by
  refine zev_go hf.1 ?_
  show (match zmlk (zown m) c with | some m' => _ | none => _) = _
  rw [hf.2]
  show znx _ _ _ (if _ then _ else _) = _
  rw [if_pos hr]
  rfl
theorem e_abs {c : Nat} (hf : zfet m pc = some (.invokestatic c) ∧ zmlk (zown m) c = some 995) (hr : st.length ≤ 4) : zev L d m pc ls (.inl x :: st) h = zev L d m (pc + 3) ls (.inl (if 0 ≤ x then x else 0 - x) :: st) h := by
  refine zev_go hf.1 ?_
  show (match zmlk (zown m) c with | some m' => _ | none => _) = _
  rw [hf.2]
  show znx _ _ _ (if _ then _ else _) = _
  rw [if_pos hr]
  rfl
theorem e_callV {c m' : Nat} {as r : List zV} (hf : zfet m pc = some (.invokevirtual c) ∧ zmlk (zown m) c = some m') (hc : zcallV m' st = some (.inr (.inl (m', as, r)))) (he : zent m' as = ls') : zev L (d + 1) m pc ls st h = (zev L d m' 0 ls' [] h).bind fun q => zev L (d + 1) m (pc + 3) ls (q.1.toList ++ r) q.2 := by
  subst he
  refine zev_call hf.1 ?_
  show (match zmlk (zown m) c with | some m' => _ | none => _) = _
  rw [hf.2]
  exact hc
theorem e_callS {c m' : Nat} {as r : List zV} (hf : zfet m pc = some (.invokestatic c) ∧ zmlk (zown m) c = some m' ∧ m' < 900) (hc : zcallS m' st = some (.inr (.inl (m', as, r)))) (he : zent m' as = ls') : zev L (d + 1) m pc ls st h = (zev L d m' 0 ls' [] h).bind fun q => zev L (d + 1) m (pc + 3) ls (q.1.toList ++ r) q.2 := by
  subst he
  refine zev_call hf.1 ?_
  show (match zmlk (zown m) c with | some m' => _ | none => _) = _
  rw [hf.2.1]
  show (if _ then _ else (if _ then _ else (if _ then _ else (if _ then _ else _)))) = _
  rw [if_neg (by omega), if_neg (by omega), if_neg (by omega), if_neg (by omega)]
  exact hc
theorem e_iret (hf : zfet m pc = some .ireturn ∧ zret m = some .int) : zev L d m pc ls [.inl v] h = some (some (.inl v), h) := by
  refine zev_ret hf.1 ?_
  show (if _ then _ else _) = _
  rw [hf.2]
  rfl
theorem e_zret (hf : zfet m pc = some .ireturn ∧ zret m = some .boolean) (hv : v = 0 ∨ v = 1) : zev L d m pc ls [.inl v] h = some (some (.inl v), h) := by
  refine zev_ret hf.1 ?_
  show (if _ then _ else _) = _
  rw [hf.2, if_pos]
  rcases hv with rfl | rfl <;> rfl
theorem e_tret {ty : FieldType} (hf : zfet m pc = some .ireturn ∧ zret m = some ty) (hv : narrow ty (.int v) = .int v) : zev L d m pc ls [.inl v] h = some (some (.inl v), h) := by
  refine zev_ret hf.1 ?_
  show (if _ then _ else _) = _
  rw [hf.2, if_pos]
  cases ty <;> first | rfl | exact decide_eq_true hv
theorem e_aret {q : Nat × Nat × Nat} (hf : zfet m pc = some .areturn ∧ zrOkB (zret m) [.inr (.inl q)] = true) : zev L d m pc ls [.inr (.inl q)] h = some (some (.inr (.inl q)), h) := by
  refine zev_ret hf.1 ?_
  show (if _ then _ else _) = _
  rw [if_pos hf.2]
theorem e_vret (hf : zfet m pc = some .return_ ∧ zret m = none) : zev L d m pc ls [] h = some (none, h) := by
  refine zev_ret hf.1 ?_
  show (if _ then _ else _) = _
  rw [if_pos hf.2]
theorem e_table {dd lo hi : Int} {offs : Array Int} {t : Nat} (hf : zfet m pc = some (.tableswitch dd lo hi offs)) (ht : (if x.toInt < lo ∨ hi < x.toInt then zjt pc dd else (match offs[(x.toInt - lo).toNat]? with | some off => zjt pc off | none => none)) = some t) : zev L d m pc ls (.inl x :: st) h = zev L d m t ls st h := by
  refine zev_go hf ?_
  show (if _ then _ else _) = _
  split at ht
  · next hc => rw [if_pos hc, ht]; rfl
  · next hc =>
    rw [if_neg hc]
    split at ht
    · next off ho => rw [ho]; show zjmp (zjt pc off) _ _ _ = _; rw [ht]; rfl
    · cases ht
theorem e_look {dd : Int} {ps : Array (Int × Int)} {t : Nat} (hf : zfet m pc = some (.lookupswitch dd ps)) (hp : (ps.toList.zip (ps.toList.drop 1)).all (fun (a, next) => a.1 < next.1) = true) (ht : zjt pc (Op.lookupswitch.offset ps.toList dd x.toInt) = some t) : zev L d m pc ls (.inl x :: st) h = zev L d m t ls st h := by
  refine zev_go hf ?_
  show (if _ then _ else _) = _
  rw [if_pos hp, ht]
  rfl
end ZE
