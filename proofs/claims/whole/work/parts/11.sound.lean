/-! SOUNDNESS 6a: small inversions -/
theorem zputf_pc {q : Nat × Nat} {pc pc' : Nat} {ls ls' : zLS} {st st' : List zV} {h h' : zH} (hs : zputf q pc ls st h = some (.inl (pc', ls', st', h'))) : pc' = pc ∧ ls' = ls := by
  unfold zputf at hs
  split at hs
  · split at hs
    · split at hs
      · cases hs; exact ⟨rfl, rfl⟩
      · split at hs
        · cases hs; exact ⟨rfl, rfl⟩
        · cases hs
      · cases hs
    · cases hs
  · split at hs
    · split at hs
      · cases hs; exact ⟨rfl, rfl⟩
      · cases hs
    · cases hs
  · cases hs
theorem zasti_pc {L pc pc' : Nat} {ls ls' : zLS} {st st' : List zV} {h h' : zH} (hs : zasti L pc ls st h = some (.inl (pc', ls', st', h'))) : pc' = pc ∧ ls' = ls := by
  unfold zasti at hs
  split at hs
  · split at hs
    · cases hs; exact ⟨rfl, rfl⟩
    · cases hs
  · cases hs
theorem zastb_pc {L pc pc' : Nat} {ls ls' : zLS} {st st' : List zV} {h h' : zH} (hs : zastb L pc ls st h = some (.inl (pc', ls', st', h'))) : pc' = pc ∧ ls' = ls := by
  unfold zastb at hs
  split at hs
  · split at hs
    · cases hs; exact ⟨rfl, rfl⟩
    · cases hs
  · cases hs
theorem zcopy_pc {L pc pc' : Nat} {ls ls' : zLS} {st st' : List zV} {h h' : zH} (hs : zcopy L pc ls st h = some (.inl (pc', ls', st', h'))) : pc' = pc ∧ ls' = ls := by
  unfold zcopy at hs
  split at hs
  · split at hs
    · cases hs; exact ⟨rfl, rfl⟩
    · cases hs
  · cases hs
theorem zcallV_no (m' : Nat) (st : List zV) {x : Nat × zLS × List zV × zH} : ¬ zcallV m' st = some (.inl x) := by
  unfold zcallV
  intro hs
  split at hs
  · split at hs
    · split at hs <;> cases hs
    · cases hs
  · cases hs
theorem zcallS_no (m' : Nat) (st : List zV) {x : Nat × zLS × List zV × zH} : ¬ zcallS m' st = some (.inl x) := by
  unfold zcallS
  intro hs
  split at hs <;> cases hs
theorem zmath_inv {st st' : List zV} {f : Int32 → Int32 → Int32} (e : zmath st f = some st') : ∃ (x y : Int32) (r : List zV), r.length ≤ 4 ∧ st = .inl y :: .inl x :: r ∧ st' = .inl (f x y) :: r := by
  unfold zmath at e
  split at e
  · next y x r =>
    split at e
    · next hr => cases e; exact ⟨x, y, r, hr, rfl, rfl⟩
    · cases e
  · cases e
theorem zabs_inv {st st' : List zV} (e : zabs st = some st') : ∃ (x : Int32) (r : List zV), r.length ≤ 4 ∧ st = .inl x :: r ∧ st' = .inl (if 0 ≤ x then x else 0 - x) :: r := by
  unfold zabs at e
  split at e
  · next x r =>
    split at e
    · next hr => cases e; exact ⟨x, r, hr, rfl, rfl⟩
    · cases e
  · cases e
/-! SOUNDNESS 6: any instruction that is no call and no return -/
section ZN
variable {Z : zP} {p : Program} {l : Launch} {e : Env} {R : Room} {s : State} {m : MethodId} {args : Array Value} {below : List Frame} {meth : Method} {c : Code} {cells slots : Nat} {Q : State → Prop} {cc : ByteArray} {mi pc : Nat} {ls ls' : zLS} {st st' : List zV} {h h' : zH} {pc' : Nat} {H : Heap} {locs : List Loc} {lA : Array Slot}
set_option maxHeartbeats 4000000 in
theorem zW_next (hZ : zAD Z) (hx : p.tables.exec = Jvm.exec) (hb : c.code = cc) (hml : c.maxLocals = zmxl mi) (hown : s.vm.findClass (znm (zown mi)) = some m.cls) (hts : ∀ w ∈ zGW, w.before args s = true) (hG : zG Z s) (hRf : 1 ≤ R.frames) (hRl : 64 ≤ R.locals) (hcl : cells ≤ R.cells) (hsl : slots ≤ R.slots) {i : Instr} {w : Nat} (hd : decode cc pc = .ok (i, w)) (hw : zsw i = true ∨ w = zwd i)
    (hs : zstep (zLn Z) mi pc i ls st h = some (.inl (pc', ls', st', h'))) (hH : zHC Z h H) (hS : va_S (zA Z) s.heap H locs) (hl : zLV Z (zmxl mi) ls lA ∧ zNL mi ls) (ho : zSO st)
    (K : ∀ (H' : Heap) (locs' : List Loc) (lA' : Array Slot), zHC Z h' H' → va_S (zA Z) s.heap H' locs' → (zLV Z (zmxl mi) ls' lA' ∧ zNL mi ls') → zSO st' → W p l e R s m args below meth c H' locs' cells slots Q (F0 m pc' lA' (st'.map (zcv Z)))) : W p l e R s m args below meth c H locs cells slots Q (F0 m pc lA (st.map (zcv Z))) := by
  have hd1 : zsw i = false → decode cc pc = .ok (i, zwd i) := fun hn => by
    rcases hw with hw | hw
    · rw [hn] at hw; cases hw
    · rw [← hw]; exact hd
  cases i with
  | iconst n =>
    change some (Sum.inl (pc + 1, ls, _ :: st, h)) = some (Sum.inl (pc', ls', st', h')) at hs
    cases hs
    exact lv_iconst hx hb (hd1 rfl) rfl (K H locs lA hH hS hl (zSO.cons trivial ho))
  | bipush n =>
    change some (Sum.inl (pc + 2, ls, _ :: st, h)) = some (Sum.inl (pc', ls', st', h')) at hs
    cases hs
    exact lv_bipush hx hb (hd1 rfl) rfl (K H locs lA hH hS hl (zSO.cons trivial ho))
  | sipush n =>
    change some (Sum.inl (pc + 3, ls, _ :: st, h)) = some (Sum.inl (pc', ls', st', h')) at hs
    cases hs
    exact lv_sipush hx hb (hd1 rfl) rfl (K H locs lA hH hS hl (zSO.cons trivial ho))
  | lconst n =>
    change some (Sum.inl (pc + 1, ls, _ :: st, h)) = some (Sum.inl (pc', ls', st', h')) at hs
    cases hs
    exact lv_lconst hx hb (hd1 rfl) rfl (K H locs lA hH hS hl (zSO.cons trivial ho))
  | ldc x =>
    change (if zown mi = 7 ∧ x = 48 then some (.inl (pc + 2, ls, .inr (.inl (15, 0, 0)) :: st, h)) else (match zclk (zown mi) x with | some v => some (.inl (pc + 2, ls, .inl v :: st, h)) | none => none)) = some (Sum.inl (pc', ls', st', h')) at hs
    split at hs
    · next hc =>
      cases hs
      obtain ⟨h7, rfl⟩ := hc
      rw [h7] at hown
      have K := K H locs lA hH hS hl (zSO.cons (Or.inr (by decide)) ho)
      rw [List.map_cons, zcv_ref (by omega)] at K
      exact va_ldcS hx hb hown hG.2.2.2.2.2.1 (hd1 rfl) K
    · cases hq : zclk (zown mi) x with
      | none => rw [hq] at hs; cases hs
      | some v =>
        rw [hq] at hs
        cases hs
        exact lv_ldc hx hb hown (hts _ (zclk_ok hq)) (hd1 rfl) (K H locs lA hH hS hl (zSO.cons trivial ho))
  | ldc_w x =>
    change (match zclk (zown mi) x with | some v => some (.inl (pc + 3, ls, .inl v :: st, h)) | none => none) = some (Sum.inl (pc', ls', st', h')) at hs
    cases hq : zclk (zown mi) x with
    | none => rw [hq] at hs; cases hs
    | some v =>
      rw [hq] at hs
      cases hs
      exact lv_ldcw hx hb hown (hts _ (zclk_ok hq)) (hd1 rfl) (K H locs lA hH hS hl (zSO.cons trivial ho))
  | ldc2_w x =>
    change (match zllk (zown mi) x with | some v => some (.inl (pc + 3, ls, .inr (.inr v) :: st, h)) | none => none) = some (Sum.inl (pc', ls', st', h')) at hs
    cases hq : zllk (zown mi) x with
    | none => rw [hq] at hs; cases hs
    | some v =>
      rw [hq] at hs
      cases hs
      exact lv_ldc2 hx hb hown (hts _ (zllk_ok hq)) (hd1 rfl) (K H locs lA hH hS hl (zSO.cons trivial ho))
  | iload x =>
    obtain ⟨hv, rfl, rfl, rfl⟩ := znx_inv hs
    obtain ⟨v, hg, rfl⟩ := zld_inv hv
    exact lv_iload hx hb (hd1 rfl) (hl.1.2.2.2 _ _ hg).1 (K H locs lA hH hS hl (zSO.cons trivial ho))
  | iload_n x =>
    obtain ⟨hv, rfl, rfl, rfl⟩ := znx_inv hs
    obtain ⟨v, hg, rfl⟩ := zld_inv hv
    exact lv_iload_n hx hb (hd1 rfl) rfl (hl.1.2.2.2 _ _ hg).1 (K H locs lA hH hS hl (zSO.cons trivial ho))
  | aload x =>
    obtain ⟨hv, rfl, rfl, rfl⟩ := znx_inv hs
    obtain ⟨k, j, t, hg, hk, rfl⟩ := zlda_inv hv
    obtain ⟨g1, g2⟩ := hl.1.2.2.2 _ _ hg
    rw [zcv_ref hk] at g1
    have K := K H locs lA hH hS hl (zSO.cons g2 ho)
    rw [List.map_cons, zcv_ref hk] at K
    exact lv_aload hx hb (hd1 rfl) g1 K
  | aload_n x =>
    obtain ⟨hv, rfl, rfl, rfl⟩ := znx_inv hs
    obtain ⟨k, j, t, hg, hk, rfl⟩ := zlda_inv hv
    obtain ⟨g1, g2⟩ := hl.1.2.2.2 _ _ hg
    rw [zcv_ref hk] at g1
    have K := K H locs lA hH hS hl (zSO.cons g2 ho)
    rw [List.map_cons, zcv_ref hk] at K
    exact lv_aload_n hx hb (hd1 rfl) rfl g1 K
  | lload_n x =>
    obtain ⟨hv, rfl, rfl, rfl⟩ := znx_inv hs
    obtain ⟨v, hg, rfl⟩ := zldl_inv hv
    exact lv_lload_n hx hb (hd1 rfl) rfl (hl.1.2.2.2 _ _ hg).1 (K H locs lA hH hS hl (zSO.cons trivial ho))
  | istore x =>
    change zsti mi _ ls x st h = some (Sum.inl (pc', ls', st', h')) at hs
    unfold zsti at hs
    split at hs
    · next v r =>
      split at hs
      · next l2 hl2 =>
        cases hs
        exact lv_istore hx hb (hd1 rfl) hl.1.has (by rw [← hl.1.2.2.1]; exact zlsI_lt hl2) rfl (fun lA' hh => K H locs lA' hH hS ⟨zlsI_ok (v := .inl _) hZ hl.2 hl.1 trivial hl2 hh, hl.2.set (v := .inl _) rfl hl2⟩ ho.tl)
      · cases hs
    · cases hs
  | istore_n x =>
    change zsti mi _ ls x.val st h = some (Sum.inl (pc', ls', st', h')) at hs
    unfold zsti at hs
    split at hs
    · next v r =>
      split at hs
      · next l2 hl2 =>
        cases hs
        exact lv_istore_n hx hb (hd1 rfl) rfl hl.1.has (by rw [← hl.1.2.2.1]; exact zlsI_lt hl2) rfl (fun lA' hh => K H locs lA' hH hS ⟨zlsI_ok (v := .inl _) hZ hl.2 hl.1 trivial hl2 hh, hl.2.set (v := .inl _) rfl hl2⟩ ho.tl)
      · cases hs
    · cases hs
  | astore x =>
    change zsta_ mi _ ls x st h = some (Sum.inl (pc', ls', st', h')) at hs
    unfold zsta_ at hs
    split at hs
    · next k j t r =>
      split at hs
      · next hk =>
        split at hs
        · next l2 hl2 =>
          cases hs
          rw [List.map_cons, zcv_ref hk]
          exact lv_astore hx hb (hd1 rfl) hl.1.has (by rw [← hl.1.2.2.1]; exact zlsI_lt hl2) rfl (fun lA' hh => K H locs lA' hH hS ⟨zlsI_ok hZ hl.2 hl.1 ho.hd hl2 (by rw [zcv_ref hk]; exact hh), hl.2.set (v := .inr (.inl _)) rfl hl2⟩ ho.tl)
        · cases hs
      · cases hs
    · cases hs
  | astore_n x =>
    change zsta_ mi _ ls x.val st h = some (Sum.inl (pc', ls', st', h')) at hs
    unfold zsta_ at hs
    split at hs
    · next k j t r =>
      split at hs
      · next hk =>
        split at hs
        · next l2 hl2 =>
          cases hs
          rw [List.map_cons, zcv_ref hk]
          exact lv_astore_n hx hb (hd1 rfl) rfl hl.1.has (by rw [← hl.1.2.2.1]; exact zlsI_lt hl2) rfl (fun lA' hh => K H locs lA' hH hS ⟨zlsI_ok hZ hl.2 hl.1 ho.hd hl2 (by rw [zcv_ref hk]; exact hh), hl.2.set (v := .inr (.inl _)) rfl hl2⟩ ho.tl)
        · cases hs
      · cases hs
    · cases hs
  | lstore_n x =>
    change zstl mi _ ls x.val st h = some (Sum.inl (pc', ls', st', h')) at hs
    unfold zstl at hs
    split at hs
    · next v r =>
      split at hs
      · next hz =>
        split at hs
        · next l2 hl2 =>
          cases hs
          exact lv_lstore_n hx hb (hd1 rfl) rfl hl.1.has (by rw [← hl.1.2.2.1]; exact zlsL_lt hl2) rfl (fun lA' hh => K H locs lA' hH hS ⟨zlsL_ok hZ hl.1 hl2 hh, fun q => by rw [hz] at q; cases q⟩ ho.tl)
        · cases hs
      · cases hs
    · cases hs
  | iinc x n =>
    change (match zlg ls x with | some (.inl v) => (match zlsJ mi ls x (.inl (v + Int32.ofInt n)) with | some ls' => some (.inl (pc + 3, ls', st, h)) | none => none) | _ => none) = some (Sum.inl (pc', ls', st', h')) at hs
    split at hs
    · next v hv =>
      split at hs
      · next l2 hl2 =>
        cases hs
        obtain ⟨kk, hkk⟩ := List.getElem?_of_mem (zlv_mem (Z := Z).mpr ⟨x, .inl v, zlg_at hv, rfl⟩)
        exact lv_iinc hx hb (hd1 rfl) hl.1.has hkk rfl (by rw [← hl.1.2.2.1]; exact zlsI_lt hl2) rfl (fun lA' hh => K H locs lA' hH hS ⟨zlsI_ok (v := .inl _) hZ hl.2 hl.1 trivial hl2 hh, hl.2.set (v := .inl _) rfl hl2⟩ ho)
      · cases hs
    · cases hs
  | iadd =>
    obtain ⟨hv, rfl, rfl, rfl⟩ := znx_inv hs
    obtain ⟨x, y, r, v, rfl, hf, rfl⟩ := zop2_inv hv
    cases hf
    exact lv_iadd hx hb (hd1 rfl) (K H locs lA hH hS hl (zSO.cons trivial ho.tl.tl))
  | isub =>
    obtain ⟨hv, rfl, rfl, rfl⟩ := znx_inv hs
    obtain ⟨x, y, r, v, rfl, hf, rfl⟩ := zop2_inv hv
    cases hf
    exact lv_isub hx hb (hd1 rfl) (K H locs lA hH hS hl (zSO.cons trivial ho.tl.tl))
  | imul =>
    obtain ⟨hv, rfl, rfl, rfl⟩ := znx_inv hs
    obtain ⟨x, y, r, v, rfl, hf, rfl⟩ := zop2_inv hv
    cases hf
    exact lv_imul hx hb (hd1 rfl) (K H locs lA hH hS hl (zSO.cons trivial ho.tl.tl))
  | iand =>
    obtain ⟨hv, rfl, rfl, rfl⟩ := znx_inv hs
    obtain ⟨x, y, r, v, rfl, hf, rfl⟩ := zop2_inv hv
    cases hf
    exact lv_iand hx hb (hd1 rfl) (K H locs lA hH hS hl (zSO.cons trivial ho.tl.tl))
  | ior =>
    obtain ⟨hv, rfl, rfl, rfl⟩ := znx_inv hs
    obtain ⟨x, y, r, v, rfl, hf, rfl⟩ := zop2_inv hv
    cases hf
    exact lv_ior hx hb (hd1 rfl) (K H locs lA hH hS hl (zSO.cons trivial ho.tl.tl))
  | ixor =>
    obtain ⟨hv, rfl, rfl, rfl⟩ := znx_inv hs
    obtain ⟨x, y, r, v, rfl, hf, rfl⟩ := zop2_inv hv
    cases hf
    exact lv_ixor hx hb (hd1 rfl) (K H locs lA hH hS hl (zSO.cons trivial ho.tl.tl))
  | ishl =>
    obtain ⟨hv, rfl, rfl, rfl⟩ := znx_inv hs
    obtain ⟨x, y, r, v, rfl, hf, rfl⟩ := zop2_inv hv
    cases hf
    exact lv_ishl hx hb (hd1 rfl) (K H locs lA hH hS hl (zSO.cons trivial ho.tl.tl))
  | ishr =>
    obtain ⟨hv, rfl, rfl, rfl⟩ := znx_inv hs
    obtain ⟨x, y, r, v, rfl, hf, rfl⟩ := zop2_inv hv
    cases hf
    exact lv_ishr hx hb (hd1 rfl) (K H locs lA hH hS hl (zSO.cons trivial ho.tl.tl))
  | iushr =>
    obtain ⟨hv, rfl, rfl, rfl⟩ := znx_inv hs
    obtain ⟨x, y, r, v, rfl, hf, rfl⟩ := zop2_inv hv
    cases hf
    exact lv_iushr hx hb (hd1 rfl) rfl (K H locs lA hH hS hl (zSO.cons trivial ho.tl.tl))
  | idiv =>
    obtain ⟨hv, rfl, rfl, rfl⟩ := znx_inv hs
    obtain ⟨x, y, r, v, rfl, hf, rfl⟩ := zop2_inv hv
    split at hf
    · cases hf
    · next hne =>
      cases hf
      exact lv_idiv hx hb (hd1 rfl) hne (K H locs lA hH hS hl (zSO.cons trivial ho.tl.tl))
  | irem =>
    obtain ⟨hv, rfl, rfl, rfl⟩ := znx_inv hs
    obtain ⟨x, y, r, v, rfl, hf, rfl⟩ := zop2_inv hv
    split at hf
    · cases hf
    · next hne =>
      cases hf
      exact lv_irem hx hb (hd1 rfl) hne (K H locs lA hH hS hl (zSO.cons trivial ho.tl.tl))
  | ineg =>
    obtain ⟨hv, rfl, rfl, rfl⟩ := znx_inv hs
    obtain ⟨x, r, v, rfl, hf, rfl⟩ := zop1_inv hv
    cases hf
    exact lv_ineg hx hb (hd1 rfl) (K H locs lA hH hS hl (zSO.cons trivial ho.tl))
  | i2b =>
    obtain ⟨hv, rfl, rfl, rfl⟩ := znx_inv hs
    obtain ⟨x, r, v, rfl, hf, rfl⟩ := zop1_inv hv
    cases hf
    exact lv_i2b hx hb (hd1 rfl) rfl (K H locs lA hH hS hl (zSO.cons trivial ho.tl))
  | i2c =>
    obtain ⟨hv, rfl, rfl, rfl⟩ := znx_inv hs
    obtain ⟨x, r, v, rfl, hf, rfl⟩ := zop1_inv hv
    cases hf
    exact lv_i2c hx hb (hd1 rfl) rfl (K H locs lA hH hS hl (zSO.cons trivial ho.tl))
  | i2l =>
    obtain ⟨hv, rfl, rfl, rfl⟩ := znx_inv hs
    obtain ⟨x, r, v, rfl, hf, rfl⟩ := zop1_inv hv
    cases hf
    exact lv_i2l hx hb (hd1 rfl) rfl (K H locs lA hH hS hl (zSO.cons trivial ho.tl))
  | l2i =>
    change (match st with | .inr (.inr x) :: r => some (.inl (pc + 1, ls, .inl x.toInt32 :: r, h)) | _ => none) = some (Sum.inl (pc', ls', st', h')) at hs
    split at hs
    · next x r =>
      cases hs
      exact lv_l2i hx hb (hd1 rfl) rfl (K H locs lA hH hS hl (zSO.cons trivial ho.tl))
    · cases hs
  | lmul =>
    obtain ⟨hv, rfl, rfl, rfl⟩ := znx_inv hs
    obtain ⟨x, y, r, v, rfl, hf, rfl⟩ := zopL_inv hv
    cases hf
    exact lv_lmul hx hb (hd1 rfl) (K H locs lA hH hS hl (zSO.cons trivial ho.tl.tl))
  | ldiv =>
    obtain ⟨hv, rfl, rfl, rfl⟩ := znx_inv hs
    obtain ⟨x, y, r, v, rfl, hf, rfl⟩ := zopL_inv hv
    split at hf
    · cases hf
    · next hne =>
      cases hf
      exact lv_ldiv hx hb (hd1 rfl) hne (K H locs lA hH hS hl (zSO.cons trivial ho.tl.tl))
  | lrem =>
    obtain ⟨hv, rfl, rfl, rfl⟩ := znx_inv hs
    obtain ⟨x, y, r, v, rfl, hf, rfl⟩ := zopL_inv hv
    split at hf
    · cases hf
    · next hne =>
      cases hf
      exact lv_lrem hx hb (hd1 rfl) hne (K H locs lA hH hS hl (zSO.cons trivial ho.tl.tl))
  | dup =>
    change (match st with | .inl x :: r => some (.inl (pc + 1, ls, .inl x :: .inl x :: r, h)) | .inr (.inl q) :: r => some (.inl (pc + 1, ls, .inr (.inl q) :: .inr (.inl q) :: r, h)) | _ => none) = some (Sum.inl (pc', ls', st', h')) at hs
    split at hs
    · next x r =>
      cases hs
      exact lv_dup hx hb (hd1 rfl) rfl (K H locs lA hH hS hl (zSO.cons trivial ho))
    · next q r =>
      cases hs
      exact lv_dup hx hb (hd1 rfl) (zcat1 hZ q) (K H locs lA hH hS hl (zSO.cons ho.hd ho))
    · cases hs
  | dup2 =>
    change (match st with | .inl x :: .inr (.inl q) :: r => some (.inl (pc + 1, ls, .inl x :: .inr (.inl q) :: .inl x :: .inr (.inl q) :: r, h)) | _ => none) = some (Sum.inl (pc', ls', st', h')) at hs
    split at hs
    · next x q r =>
      cases hs
      exact lv_dup2_11 hx hb (hd1 rfl) rfl (zcat1 hZ q) (K H locs lA hH hS hl (zSO.cons trivial (zSO.cons ho.tl.hd ho)))
    · cases hs
  | pop =>
    change (match st with | .inl _ :: r => some (.inl (pc + 1, ls, r, h)) | _ => none) = some (Sum.inl (pc', ls', st', h')) at hs
    split at hs
    · next x r =>
      cases hs
      exact lv_pop hx hb (hd1 rfl) rfl (K H locs lA hH hS hl ho.tl)
    · cases hs
  | ifCond cd off =>
    change (match zjt pc off with | none => none | some t => (match st with | .inl x :: r => if zcmp cd x 0 = true then some (.inl (t, ls, r, h)) else some (.inl (pc + 3, ls, r, h)) | _ => none)) = some (Sum.inl (pc', ls', st', h')) at hs
    cases ht : zjt pc off with
    | none => rw [ht] at hs; cases hs
    | some t =>
      rw [ht] at hs
      simp only at hs
      split at hs
      · next x r =>
        have hT := zjt_ok ht
        have ho2 : zSO r := ho.tl
        by_cases hc : zcmp cd x 0 = true
        · rw [if_pos hc] at hs
          cases hs
          have K := K H locs lA hH hS hl ho2
          cases cd with
          | eq => exact lv_if_eq hx hb (hd1 rfl) hT (fun _ => K) (fun q => absurd (of_decide_eq_true hc) q)
          | ne => exact lv_if_ne hx hb (hd1 rfl) hT (fun _ => K) (fun q => absurd q (of_decide_eq_true hc))
          | lt => exact lv_if_lt hx hb (hd1 rfl) hT (fun _ => K) (fun q => absurd (of_decide_eq_true hc) q)
          | ge => exact lv_if_ge hx hb (hd1 rfl) hT (fun _ => K) (fun q => absurd (of_decide_eq_true hc) q)
          | gt => exact lv_if_gt hx hb (hd1 rfl) hT (fun _ => K) (fun q => absurd (of_decide_eq_true hc) q)
          | le => exact lv_if_le hx hb (hd1 rfl) hT (fun _ => K) (fun q => absurd (of_decide_eq_true hc) q)
        · rw [if_neg hc] at hs
          cases hs
          have K := K H locs lA hH hS hl ho2
          have hc := eq_false_of_ne_true hc
          cases cd with
          | eq => exact lv_if_eq hx hb (hd1 rfl) hT (fun q => absurd q (of_decide_eq_false hc)) (fun _ => K)
          | ne => exact lv_if_ne hx hb (hd1 rfl) hT (fun q => absurd q (of_decide_eq_false hc)) (fun _ => K)
          | lt => exact lv_if_lt hx hb (hd1 rfl) hT (fun q => absurd q (of_decide_eq_false hc)) (fun _ => K)
          | ge => exact lv_if_ge hx hb (hd1 rfl) hT (fun q => absurd q (of_decide_eq_false hc)) (fun _ => K)
          | gt => exact lv_if_gt hx hb (hd1 rfl) hT (fun q => absurd q (of_decide_eq_false hc)) (fun _ => K)
          | le => exact lv_if_le hx hb (hd1 rfl) hT (fun q => absurd q (of_decide_eq_false hc)) (fun _ => K)
      · cases hs
  | if_icmp cd off =>
    change (match zjt pc off with | none => none | some t => (match st with | .inl y :: .inl x :: r => if zcmp cd x y = true then some (.inl (t, ls, r, h)) else some (.inl (pc + 3, ls, r, h)) | _ => none)) = some (Sum.inl (pc', ls', st', h')) at hs
    cases ht : zjt pc off with
    | none => rw [ht] at hs; cases hs
    | some t =>
      rw [ht] at hs
      simp only at hs
      split at hs
      · next y x r =>
        have hT := zjt_ok ht
        have ho2 : zSO r := ho.tl.tl
        by_cases hc : zcmp cd x y = true
        · rw [if_pos hc] at hs
          cases hs
          have K := K H locs lA hH hS hl ho2
          cases cd with
          | eq => exact lv_icmp_eq hx hb (hd1 rfl) hT (fun _ => K) (fun q => absurd (of_decide_eq_true hc) q)
          | ne => exact lv_icmp_ne hx hb (hd1 rfl) hT (fun _ => K) (fun q => absurd q (of_decide_eq_true hc))
          | lt => exact lv_icmp_lt hx hb (hd1 rfl) hT (fun _ => K) (fun q => absurd (of_decide_eq_true hc) q)
          | ge => exact lv_icmp_ge hx hb (hd1 rfl) hT (fun _ => K) (fun q => absurd (of_decide_eq_true hc) q)
          | gt => exact lv_icmp_gt hx hb (hd1 rfl) hT (fun _ => K) (fun q => absurd (of_decide_eq_true hc) q)
          | le => exact lv_icmp_le hx hb (hd1 rfl) hT (fun _ => K) (fun q => absurd (of_decide_eq_true hc) q)
        · rw [if_neg hc] at hs
          cases hs
          have K := K H locs lA hH hS hl ho2
          have hc := eq_false_of_ne_true hc
          cases cd with
          | eq => exact lv_icmp_eq hx hb (hd1 rfl) hT (fun q => absurd q (of_decide_eq_false hc)) (fun _ => K)
          | ne => exact lv_icmp_ne hx hb (hd1 rfl) hT (fun q => absurd q (of_decide_eq_false hc)) (fun _ => K)
          | lt => exact lv_icmp_lt hx hb (hd1 rfl) hT (fun q => absurd q (of_decide_eq_false hc)) (fun _ => K)
          | ge => exact lv_icmp_ge hx hb (hd1 rfl) hT (fun q => absurd q (of_decide_eq_false hc)) (fun _ => K)
          | gt => exact lv_icmp_gt hx hb (hd1 rfl) hT (fun q => absurd q (of_decide_eq_false hc)) (fun _ => K)
          | le => exact lv_icmp_le hx hb (hd1 rfl) hT (fun q => absurd q (of_decide_eq_false hc)) (fun _ => K)
      · cases hs
  | goto off =>
    change zjmp (zjt pc off) ls st h = some (Sum.inl (pc', ls', st', h')) at hs
    unfold zjmp at hs
    split at hs
    · next t ht =>
      cases hs
      exact lv_goto hx hb (hd1 rfl) (zjt_ok ht) (K H locs lA hH hS hl ho)
    · cases hs
  | tableswitch d lo hi offs =>
    change (match st with | .inl x :: r => if x.toInt < lo ∨ hi < x.toInt then zjmp (zjt pc d) ls r h else (match offs[(x.toInt - lo).toNat]? with | some off => zjmp (zjt pc off) ls r h | none => none) | _ => none) = some (Sum.inl (pc', ls', st', h')) at hs
    split at hs
    · next x r =>
      split at hs
      · next hc =>
        unfold zjmp at hs
        split at hs
        · next t ht =>
          cases hs
          exact lv_tableOut hx hb hd hc (zjt_ok ht) (K H locs lA hH hS hl ho.tl)
        · cases hs
      · next hc =>
        split at hs
        · next off hoff =>
          unfold zjmp at hs
          split at hs
          · next t ht =>
            cases hs
            exact lv_tableIn hx hb hd (fun q => hc (Or.inl q)) (fun q => hc (Or.inr q)) hoff (zjt_ok ht) (K H locs lA hH hS hl ho.tl)
          · cases hs
        · cases hs
    · cases hs
  | lookupswitch d ps =>
    change (match st with | .inl x :: r => if (ps.toList.zip (ps.toList.drop 1)).all (fun (a, next) => a.1 < next.1) = true then zjmp (zjt pc (Op.lookupswitch.offset ps.toList d x.toInt)) ls r h else none | _ => none) = some (Sum.inl (pc', ls', st', h')) at hs
    split at hs
    · next x r =>
      split at hs
      · next hc =>
        unfold zjmp at hs
        split at hs
        · next t ht =>
          cases hs
          exact lv_lookup hx hb hd hc rfl (zjt_ok ht) (K H locs lA hH hS hl ho.tl)
        · cases hs
      · cases hs
    · cases hs
  | getfield x =>
    change (match zflk (zown mi) x with | some q => znx (pc + 3) ls h (zgetf q st h) | none => none) = some (Sum.inl (pc', ls', st', h')) at hs
    cases hq : zflk (zown mi) x with
    | none => rw [hq] at hs; cases hs
    | some q =>
      rw [hq] at hs
      obtain ⟨hv, rfl, rfl, rfl⟩ := znx_inv hs
      exact zW_get (k := q.1) (f := q.2) hZ hx hb hown hts hG hq (hd1 rfl) hv hH hS ho (fun hso => K H locs lA hH hS hl hso)
  | putfield x =>
    change (match zflk (zown mi) x with | some q => zputf q (pc + 3) ls st h | none => none) = some (Sum.inl (pc', ls', st', h')) at hs
    cases hq : zflk (zown mi) x with
    | none => rw [hq] at hs; cases hs
    | some q =>
      rw [hq] at hs
      have main := fun K => zW_put (k := q.1) (f := q.2) (l := l) (e := e) (R := R) (below := below) (meth := meth) (cells := cells) (slots := slots) (Q := Q) (lA := lA) hZ hx hb hown hts hG hq (hd1 rfl) hs hH hS ho K
      have e1 : pc' = pc + 3 ∧ ls' = ls := zputf_pc hs
      obtain ⟨rfl, rfl⟩ := e1
      exact (main (fun H' locs' a b c => K H' locs' lA a b hl c)).2.2
  | getstatic x =>
    change (match zslk (zown mi) x with | some q => znx (pc + 3) ls h (zgets q st) | none => none) = some (Sum.inl (pc', ls', st', h')) at hs
    cases hq : zslk (zown mi) x with
    | none => rw [hq] at hs; cases hs
    | some q =>
      rw [hq] at hs
      obtain ⟨hv, rfl, rfl, rfl⟩ := znx_inv hs
      rcases zslk_ok hq with ⟨rfl, ho5, rfl⟩ | ⟨rfl, ho5, rfl⟩ | ⟨rfl, ho5, rfl⟩
      · cases hv
        rw [ho5] at hown
        have K := K H locs lA hH hS hl (zSO.cons (Or.inr (by decide)) ho)
        rw [List.map_cons, zcv_ref (by omega)] at K
        exact va_gets hx hb hG.2.2.2.1.1 hS hown (hts _ zw_s0) (fun _ q => q) (hd1 rfl) K
      · cases hv
        rw [ho5] at hown
        exact va_gets hx hb hG.2.2.2.2.1.1 hS hown (hts _ zw_s1) (fun _ q => q) (hd1 rfl) (K H locs lA hH hS hl (zSO.cons trivial ho))
      · cases hv
        rw [ho5] at hown
        exact va_gets hx hb hG.2.2.2.2.1.2 hS hown (hts _ zw_s2) (fun _ q => q) (hd1 rfl) (K H locs lA hH hS hl (zSO.cons (Or.inr (by decide)) ho))
  | iaload =>
    obtain ⟨hv, rfl, rfl, rfl⟩ := znx_inv hs
    exact zW_iald hZ hx hb hG (hd1 rfl) hv hH hS ho (fun hso => K H locs lA hH hS hl hso)
  | baload =>
    obtain ⟨hv, rfl, rfl, rfl⟩ := znx_inv hs
    exact zW_bald hZ hx hb hG (hd1 rfl) hv hH hS ho (fun hso => K H locs lA hH hS hl hso)
  | aaload =>
    obtain ⟨hv, rfl, rfl, rfl⟩ := znx_inv hs
    exact zW_aald hZ hx hb hG (hd1 rfl) hv hH hS ho (fun hso => K H locs lA hH hS hl hso)
  | arraylength =>
    obtain ⟨hv, rfl, rfl, rfl⟩ := znx_inv hs
    exact zW_alen hZ hx hb hG (hd1 rfl) hv hH hS ho (fun hso => K H locs lA hH hS hl hso)
  | iastore =>
    change zasti (zLn Z) (pc + 1) ls st h = some (Sum.inl (pc', ls', st', h')) at hs
    have e1 : pc' = pc + 1 ∧ ls' = ls := zasti_pc hs
    obtain ⟨rfl, rfl⟩ := e1
    exact (zW_iast hZ hx hb hG (hd1 rfl) hs hH hS ho (fun H' locs' a b c => K H' locs' lA a b hl c)).2.2
  | bastore =>
    change zastb (zLn Z) (pc + 1) ls st h = some (Sum.inl (pc', ls', st', h')) at hs
    have e1 : pc' = pc + 1 ∧ ls' = ls := zastb_pc hs
    obtain ⟨rfl, rfl⟩ := e1
    exact (zW_bast hZ hx hb hG (hd1 rfl) hs hH hS ho (fun H' locs' a b c => K H' locs' lA a b hl c)).2.2
  | invokevirtual x =>
    change (match zmlk (zown mi) x with | some m' => zcallV m' st | none => none) = some (Sum.inl (pc', ls', st', h')) at hs
    split at hs
    · exact absurd hs (zcallV_no _ _)
    · cases hs
  | invokestatic x =>
    change (match zmlk (zown mi) x with | some m' => if m' = 999 then zcopy (zLn Z) (pc + 3) ls st h else if m' = 997 then znx (pc + 3) ls h (zmath st fun x y => if x < y then y else x) else if m' = 996 then znx (pc + 3) ls h (zmath st fun x y => if y < x then y else x) else if m' = 995 then znx (pc + 3) ls h (zabs st) else zcallS m' st | none => none) = some (Sum.inl (pc', ls', st', h')) at hs
    cases hq : zmlk (zown mi) x with
    | none => rw [hq] at hs; cases hs
    | some m2 =>
      rw [hq] at hs
      simp only at hs
      have hsz : c.maxLocals = lA.size := by rw [hml, hl.1.1]
      split at hs
      · next h9 =>
        subst h9
        have e1 : pc' = pc + 3 ∧ ls' = ls := zcopy_pc hs
        obtain ⟨rfl, rfl⟩ := e1
        exact (zW_copy hZ hx hb hsz hown hts hG hRf hRl hq (hd1 rfl) hs hH hS ho (fun H' locs' a b c => K H' locs' lA a b hl c)).2.2
      · split at hs
        · next h9 =>
          subst h9
          obtain ⟨hv, rfl, rfl, rfl⟩ := znx_inv hs
          obtain ⟨x1, y1, r, hr, rfl, rfl⟩ := zmath_inv hv
          have hcs := zcatsum (Z := Z) r
          exact va_mmax hx hb hsz hown (hts _ (zmlk_997 hq)) (hts _ zw_m1) (hts _ zw_m0) (hts _ zw_m4) hRf (by omega) hcl hsl (hd1 rfl) (K H locs lA hH hS hl (zSO.cons trivial ho.tl.tl))
        · split at hs
          · next h9 =>
            subst h9
            obtain ⟨hv, rfl, rfl, rfl⟩ := znx_inv hs
            obtain ⟨x1, y1, r, hr, rfl, rfl⟩ := zmath_inv hv
            have hcs := zcatsum (Z := Z) r
            exact va_mmin hx hb hsz hown (hts _ (zmlk_996 hq)) (hts _ zw_m2) (hts _ zw_m0) (hts _ zw_m5) hRf (by omega) hcl hsl (hd1 rfl) (K H locs lA hH hS hl (zSO.cons trivial ho.tl.tl))
          · split at hs
            · next h9 =>
              subst h9
              obtain ⟨hv, rfl, rfl, rfl⟩ := znx_inv hs
              obtain ⟨x1, r, hr, rfl, rfl⟩ := zabs_inv hv
              have hcs := zcatsum (Z := Z) r
              exact va_mabs hx hb hsz hown (hts _ (zmlk_995 hq)) (hts _ zw_m3) (hts _ zw_m0) (hts _ zw_m6) hRf (by omega) hcl hsl (hd1 rfl) (K H locs lA hH hS hl (zSO.cons trivial ho.tl))
            · exact absurd hs (zcallS_no _ _)
  | ireturn =>
    unfold zstep at hs
    simp only at hs
    split at hs
    · split at hs
      · cases hs
      · cases hs
    · cases hs
  | areturn =>
    unfold zstep at hs
    simp only at hs
    split at hs
    · split at hs
      · cases hs
      · cases hs
    · cases hs
  | return_ =>
    unfold zstep at hs
    simp only at hs
    split at hs
    · split at hs
      · cases hs
      · cases hs
    · cases hs
  | _ => exact nomatch (show (none : Option zAR) = some _ from hs)
end ZN
