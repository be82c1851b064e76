/-! SOUNDNESS 7: calls, returns; what the abstract machine answers the machine answers -/
def zwS (m : Nat) : List Cond := Cond.code (zy m) (zcode m) (zmxl m) (zret m) :: zGW
def zrm (d : Nat) : Room := { frames := d + 1, cells := 0, slots := 0, locals := 64 * (d + 1) }
def zPc (Z : zP) (as : List zV) (h : zH) : Array Value → State → Prop := va_Pc (as.map (zcv Z)) (fun U => zG Z U ∧ zHC Z h U.heap)
def zQc (Z : zP) (r : Option zV) (h : zH) : Array Value → State → Outcome → State → Prop := fun _ st oc t => oc = .returned (r.map (zcv Z)) ∧ zHC Z h t.heap ∧ va_F (zA Z) st t
def zretI (m : Nat) (i : Instr) (st : List zV) (r : Option zV) : Prop := (i = .ireturn ∧ ∃ v, st = [.inl v] ∧ r = some (.inl v) ∧ zrOk (zret m) st = true) ∨ (i = .areturn ∧ ∃ q, st = [.inr (.inl q)] ∧ r = some (.inr (.inl q)) ∧ zrOkB (zret m) st = true) ∨ (i = .return_ ∧ st = [] ∧ r = none ∧ zret m = none)
theorem zstep_ret {L m pc : Nat} {i : Instr} {ls : zLS} {st : List zV} {h : zH} {r : Option zV} (hs : zstep L m pc i ls st h = some (.inr (.inr r))) : zretI m i st r := by
  cases i with
  | ireturn =>
    unfold zstep at hs
    simp only at hs
    split at hs
    · split at hs
      · next v hc => cases hs; exact Or.inl ⟨rfl, _, rfl, rfl, hc⟩
      · cases hs
    · cases hs
  | areturn =>
    unfold zstep at hs
    simp only at hs
    split at hs
    · split at hs
      · next v hc => cases hs; exact Or.inr (Or.inl ⟨rfl, _, rfl, rfl, hc⟩)
      · cases hs
    · cases hs
  | return_ =>
    unfold zstep at hs
    simp only at hs
    split at hs
    · split at hs
      · next hc => cases hs; exact Or.inr (Or.inr ⟨rfl, rfl, rfl, hc⟩)
      · cases hs
    · cases hs
  | invokevirtual x =>
    exfalso
    unfold zstep at hs
    simp only at hs
    split at hs
    · unfold zcallV at hs
      split at hs
      · split at hs
        · split at hs <;> cases hs
        · cases hs
      · cases hs
    · cases hs
  | invokestatic x =>
    exfalso
    unfold zstep at hs
    simp only at hs
    split at hs
    · split at hs
      · exact zcopy_ni hs
      · split at hs
        · exact znx_ni hs
        · split at hs
          · exact znx_ni hs
          · split at hs
            · exact znx_ni hs
            · unfold zcallS at hs
              split at hs <;> cases hs
    · cases hs
  | _ => exact absurd hs (zstep_ni rfl)
theorem zstep_call {L m pc : Nat} {i : Instr} {ls : zLS} {st : List zV} {h : zH} {m' : Nat} {as r : List zV} (hs : zstep L m pc i ls st h = some (.inr (.inl (m', as, r)))) : (∃ x, i = .invokevirtual x ∧ zmlk (zown m) x = some m' ∧ zcallV m' st = some (.inr (.inl (m', as, r)))) ∨ (∃ x, i = .invokestatic x ∧ zmlk (zown m) x = some m' ∧ zcallS m' st = some (.inr (.inl (m', as, r)))) := by
  have hV : ∀ q : Nat, zcallV q st = some (.inr (.inl (m', as, r))) → q = m' := by
    intro q hq
    unfold zcallV at hq
    split at hq
    · split at hq
      · split at hq
        · cases hq; rfl
        · cases hq
      · cases hq
    · cases hq
  have hS : ∀ q : Nat, zcallS q st = some (.inr (.inl (m', as, r))) → q = m' := by
    intro q hq
    unfold zcallS at hq
    split at hq
    · cases hq; rfl
    · cases hq
  cases i with
  | invokevirtual x =>
    change (match zmlk (zown m) x with | some m' => zcallV m' st | none => none) = some (Sum.inr (Sum.inl (m', as, r))) at hs
    cases hq : zmlk (zown m) x with
    | none => rw [hq] at hs; cases hs
    | some q =>
      rw [hq] at hs
      have e := hV q hs
      subst e
      exact Or.inl ⟨x, rfl, hq, hs⟩
  | invokestatic x =>
    change (match zmlk (zown m) x with | some m' => if m' = 999 then zcopy L (pc + 3) ls st h else if m' = 997 then znx (pc + 3) ls h (zmath st fun x y => if x < y then y else x) else if m' = 996 then znx (pc + 3) ls h (zmath st fun x y => if y < x then y else x) else if m' = 995 then znx (pc + 3) ls h (zabs st) else zcallS m' st | none => none) = some (Sum.inr (Sum.inl (m', as, r))) at hs
    cases hq : zmlk (zown m) x with
    | none => rw [hq] at hs; cases hs
    | some q =>
      rw [hq] at hs
      simp only at hs
      split at hs
      · exact absurd hs zcopy_ni
      · split at hs
        · exfalso
          unfold znx at hs
          split at hs <;> cases hs
        · split at hs
          · exfalso
            unfold znx at hs
            split at hs <;> cases hs
          · split at hs
            · exfalso
              unfold znx at hs
              split at hs <;> cases hs
            · have e := hS q hs
              subst e
              exact Or.inr ⟨x, rfl, hq, hs⟩
  | ireturn =>
    exfalso
    unfold zstep at hs
    simp only at hs
    repeat' split at hs
    all_goals cases hs
  | areturn =>
    exfalso
    unfold zstep at hs
    simp only at hs
    repeat' split at hs
    all_goals cases hs
  | return_ =>
    exfalso
    unfold zstep at hs
    simp only at hs
    repeat' split at hs
    all_goals cases hs
  | _ => exact absurd hs (zstep_ni rfl)
theorem zGoodIn {ws : List Cond} (h : ∀ w ∈ ws, w ∈ zGW) : GoodIn zGW ws := fun w hw => ⟨h w hw, good_of_word (List.mem_filter.mp (h w hw)).2⟩
/-- what the tables say of a method that can be called -/
theorem zU_ok {m : Nat} (hu : zinU m = true) : ∃ (y : MethodName) (cc : ByteArray), zy m = y ∧ zcode m = cc ∧ Cond.code y cc (zmxl m) (zret m) ∈ zGW ∧ (parseMethodDescriptor y.desc).map (fun d => d.parameters.length) = some (znar m - (if zsta m then 0 else 1)) ∧ y.cls = znm (zown m) ∧ plainName y.cls = true ∧ (y.cls ≠ "java/lang/invoke/MethodHandle" ∧ y.cls ≠ "java/lang/invoke/VarHandle") ∧ znar m ≤ zmxl m ∧ zmxl m ≤ 12 ∧ Cond.initialized (znm (zown m)) ∈ zGW ∧ (zsta m = true → Cond.static y ∈ zGW) ∧ (zsta m = false → Cond.instanceMethod y ∈ zGW ∧ Cond.selects (znm (zown m)) y y ∈ zGW ∧ 1 ≤ znar m) := by
  obtain ⟨hm, hu⟩ := zinU_ok hu
  have h := zUS_ok m (by omega)
  unfold zokV at h
  rw [decide_eq_true hu] at h
  simp only [Bool.not_true, Bool.false_or] at h
  unfold zokU at h
  rw [Bool.and_eq_true, Bool.and_eq_true, Bool.and_eq_true] at h
  obtain ⟨⟨⟨h1, -⟩, h3⟩, h4⟩ := h
  unfold zokM at h1
  cases hc : zcd m with
  | none => rw [hc] at h1; cases h1
  | some w =>
    rw [hc] at h1
    cases w with
    | code y cc n r =>
      simp only [Bool.and_eq_true, decide_eq_true_eq] at h1
      obtain ⟨⟨⟨⟨⟨⟨⟨g1, g2⟩, g3⟩, g4⟩, g5⟩, g6⟩, g7⟩, g8⟩ := h1
      have e1 : zy m = y := by unfold zy; rw [hc]
      have e2 : zcode m = cc := by unfold zcode; rw [hc]
      subst g1; subst g2
      refine ⟨y, cc, e1, e2, List.mem_filter.mpr ⟨List.mem_of_getElem? hc, rfl⟩, g3, g4, g5, g6, g7, g8, zat_in h3, fun hs => ?_, fun hs => ?_⟩
      · rw [hs, if_pos rfl, e1] at h4
        exact zat_in h4
      · rw [hs, e1] at h4
        simp only [Bool.false_eq_true, if_false, Bool.and_eq_true, decide_eq_true_eq] at h4
        exact ⟨zat_in h4.1.1, zat_in h4.1.2, h4.2⟩
    | _ => cases h1
theorem zargs_at {vs : List Value} (hc : ∀ v ∈ vs, v.category = 1) : ∀ (k i : Nat) (v : Value), vs[i]? = some v → (k + i, v) ∈ lv_args k vs := by
  induction vs with
  | nil => intro k i v h; cases h
  | cons w vs ih =>
    intro k i v h
    have hw : ¬ w.category = 2 := by rw [hc w List.mem_cons_self]; omega
    unfold lv_args
    rw [if_neg hw]
    cases i with
    | zero => cases h; exact List.mem_cons_self
    | succ i =>
      have := ih (fun v hv => hc v (List.mem_cons_of_mem _ hv)) (k + 1) i v h
      rw [show k + 1 + i = k + (i + 1) by omega] at this
      exact List.mem_cons_of_mem _ this
theorem zsl_len {vs : List Value} (hc : ∀ v ∈ vs, v.category = 1) : (lg_sl vs).length = vs.length := by
  induction vs with
  | nil => rfl
  | cons w vs ih =>
    have hw : ¬ w.category = 2 := by rw [hc w List.mem_cons_self]; omega
    have := ih (fun v hv => hc v (List.mem_cons_of_mem _ hv))
    unfold lg_sl at this ⊢
    rw [List.flatMap_cons, if_neg hw]
    simp only [List.length_append, List.length_cons, List.length_nil, this]
    omega
theorem zent_LV {Z : zP} (hZ : zAD Z) {mi : Nat} {as : List zV} (hn : as.all znl = true) (hlen : as.length ≤ zmxl mi) (ho : zSO as) : zLV Z (zmxl mi) (zent mi as) ((lg_sl (as.map (zcv Z)) ++ List.replicate (zmxl mi - (lg_sl (as.map (zcv Z))).length) Slot.unset).toArray) := by
  have hc : ∀ v ∈ as.map (zcv Z), v.category = 1 := by
    intro v hv
    obtain ⟨w, hw, rfl⟩ := List.mem_map.mp hv
    have := List.all_eq_true.mp hn w hw
    obtain x | q | x := w
    · rfl
    · exact zcat1 hZ q
    · cases this
  have hl := lv_entry (as.map (zcv Z)) (n := zmxl mi) (by rw [zsl_len hc, List.length_map]; exact hlen)
  refine ⟨hl.1, hl.2.1, ?_, fun i v hv => ?_⟩
  · unfold zent
    simp only [List.length_append, List.length_map, List.length_replicate]
    omega
  · unfold zent at hv
    by_cases hi : i < as.length
    · rw [List.getElem?_append_left (by simpa using hi), List.getElem?_map] at hv
      cases ha : as[i]? with
      | none => rw [ha] at hv; cases hv
      | some w =>
        rw [ha] at hv
        cases hv
        refine ⟨?_, ho _ (List.mem_of_getElem? ha)⟩
        have := zargs_at hc 0 i (zcv Z v) (by rw [List.getElem?_map, ha]; rfl)
        rw [Nat.zero_add] at this
        exact hl.2.2 _ this
    · rw [List.getElem?_append_right (by simpa using Nat.not_lt.mp hi)] at hv
      have := List.mem_of_getElem? hv
      rw [List.mem_replicate] at this
      cases this.2
theorem zent_NL {mi : Nat} {as : List zV} (hn : as.all znl = true) : zNL mi (zent mi as) := by
  intro _ i x hi
  unfold zent at hi
  by_cases hlt : i < as.length
  · rw [List.getElem?_append_left (by simpa using hlt), List.getElem?_map] at hi
    cases ha : as[i]? with
    | none => rw [ha] at hi; cases hi
    | some w =>
      rw [ha] at hi
      cases hi
      have := List.all_eq_true.mp hn _ (List.mem_of_getElem? ha)
      cases this
  · rw [List.getElem?_append_right (by simpa using Nat.not_lt.mp hlt)] at hi
    have := List.mem_of_getElem? hi
    rw [List.mem_replicate] at this
    cases this.2
def zWst (Z : zP) (l : Launch) (n : Nat) : Prop := ∀ (d mi pc : Nat) (ls : zLS) (st : List zV) (h : zH) (r : Option zV) (h' : zH), zex (zLn Z) n d mi pc ls st h = some (r, h') →
  ∀ (p : Program) (e : Env) (R : Room) (s : State) (m : MethodId) (args : Array Value) (below : List Frame) (meth : Method) (c : Code) (cells slots : Nat) (Q : State → Prop) (cc : ByteArray), p.tables.exec = Jvm.exec → c.code = cc → c.maxLocals = zmxl mi → s.vm.findClass (znm (zown mi)) = some m.cls → (∀ w ∈ zGW, w.before args s = true) → zG Z s → (∀ q ∈ zTAB.getD mi [], decode cc q.1 = .ok q.2) → d + 1 ≤ R.frames → 64 * (d + 1) ≤ R.locals → cells ≤ R.cells → slots ≤ R.slots →
  ∀ (H : Heap) (locs : List Loc) (lA : Array Slot), zHC Z h H → va_S (zA Z) s.heap H locs → (zLV Z (zmxl mi) ls lA ∧ zNL mi ls) → zSO st →
  (∀ (H' : Heap) (locs' : List Loc) (lA' : Array Slot) (pc' : Nat) (i : Instr) (st' : List zV), zHC Z h' H' → va_S (zA Z) s.heap H' locs' → decode cc pc' = .ok (i, 1) → zretI mi i st' r → zSO st' → W p l e R s m args below meth c H' locs' cells slots Q (F0 m pc' lA' (st'.map (zcv Z)))) →
  W p l e R s m args below meth c H locs cells slots Q (F0 m pc lA (st.map (zcv Z)))
/-- a method's contract, out of its body -/
theorem zMet_of {Z : zP} (hZ : zAD Z) {l : Launch} {n : Nat} (ih : zWst Z l n) {d mi : Nat} {as : List zV} {h h' : zH} {r : Option zV} (hu : zinU mi = true) (hlen : as.length = znar mi) (hn : as.all znl = true) (ho : zSO as) (he : zex (zLn Z) n d mi 0 (zent mi as) [] h = some (r, h')) : Met l (zy mi) (zwS mi) (zrm d) (zPc Z as h) (zQc Z r h') 0 0 (zA Z) := by
  obtain ⟨y, cc, e1, e2, hcw, hpd, hcls, hpl, hne, hna, hmx, hini, hst, hin⟩ := zU_ok hu
  unfold zwS
  rw [e1, e2]
  refine Met.ofW (cc := cc) (maxL := zmxl mi) (ret := zret mi) hpl rfl ?_
  intro p e s m args below meth c s₁ B hml hv
  obtain ⟨rfl, hG, hH⟩ := hv
  have hts := atoms_spec (ws := Cond.code y cc (zmxl mi) (zret mi) :: zGW) B.pre
  have hown : s.vm.findClass y.cls = some m.cls := findClass_of_methodNamed B.named
  rw [hcls] at hown
  rw [lg_entry_eq]
  have hl := zent_LV (mi := mi) hZ hn (by omega) ho
  have hl2 : zNL mi (zent mi as) := zent_NL hn
  have hlk : meth.locks = false := B.notSynchronized
  have hdec : ∀ q ∈ zTAB.getD mi [], decode cc q.1 = .ok q.2 := by
    obtain ⟨g1, g2⟩ := zinU_ok hu
    rw [← e2]
    exact zdec_m g1 g2
  refine ih d mi 0 (zent mi as) [] h r h' he p e (headSpec (Cond.code y cc (zmxl mi) (zret mi) :: zGW) (zrm d)).room s m _ below meth c 0 0 _ cc B.exec B.bytes hml hown (fun w hw => hts w (List.mem_cons_of_mem _ hw)) hG hdec (Nat.le_refl _) (Nat.le_refl _) (Nat.zero_le _) (Nat.zero_le _) s.heap [] _ hH va_S.rf ⟨hl, hl2⟩ (fun _ hv => by cases hv) ?_
  intro H' locs' lA' pc' i st' hH' hS' hd hri hso
  have hr := B.returns
  rcases hri with ⟨rfl, v, rfl, rfl, hok⟩ | ⟨rfl, q, rfl, rfl, hok⟩ | ⟨rfl, rfl, rfl, hok⟩
  · have hty : ∃ ty, zret mi = some ty ∧ narrow ty (.int v) = .int v := by
      cases hz : zret mi with
      | none => rw [hz] at hok; cases hok
      | some ty =>
        rw [hz] at hok
        refine ⟨ty, rfl, ?_⟩
        cases ty <;> first | rfl | exact of_decide_eq_true hok
    obtain ⟨ty, h1, h2⟩ := hty
    rw [h1] at hr
    exact W.zret B.exec B.bytes hr h2 (fun t ht hW => ⟨rfl, by rw [ht]; exact hH', hS'.F ht⟩) hS'.2.2 hd
  · have hty : ∃ cn, zret mi = some (.object cn) ∧ q.1 ≤ 12 := by
      unfold zrOkB at hok
      rw [Bool.and_eq_true] at hok
      have hok := hok.1
      cases hz : zret mi with
      | none => rw [hz] at hok; cases hok
      | some ty =>
        rw [hz] at hok
        cases ty with
        | object cn => exact ⟨cn, rfl, of_decide_eq_true hok⟩
        | _ => cases hok
    obtain ⟨cn, h1, h2⟩ := hty
    rw [h1] at hr
    obtain ⟨k, a, b⟩ := q
    rw [List.map_cons, List.map_nil]
    exact W.aret B.exec B.bytes hr (Or.inl ⟨cn, rfl⟩) (Or.inr ⟨_, zcv_ref (by simp only at h2; omega)⟩) (fun t ht hW => ⟨rfl, by rw [ht]; exact hH', hS'.F ht⟩) hS'.2.2 hd
  · rw [hok] at hr
    exact W.vret B.exec B.bytes hr (fun t ht hW => ⟨rfl, by rw [ht]; exact hH', hS'.F ht⟩) hS'.2.2 hd
theorem zPc_blind {Z : zP} {as : List zV} {h : zH} : FrameBlind (zPc Z as h) := by
  intro a U g mk hP
  obtain ⟨rfl, hG, hH⟩ := hP
  exact ⟨rfl, zG.same (u := U) (U := U.calling g mk _) rfl rfl hG, hH⟩
theorem zPc_to {Z : zP} {as : List zV} {h : zH} {s : State} {H : Heap} {locs : List Loc} (hG : zG Z s) (hH : zHC Z h H) (hS : va_S (zA Z) s.heap H locs) : ∀ U : State, U.heap = H → s.WarmedH U.vm → zPc Z as h (as.map (zcv Z)).toArray U :=
  fun U hU hW => ⟨rfl, hG.to hS hU hW, by rw [hU]; exact hH⟩
/-- behind a call -/
theorem zW_run {Z : zP} {p : Program} {l : Launch} {e : Env} {R : Room} {s : State} {m : MethodId} {args : Array Value} {below : List Frame} {meth : Method} {c : Code} {cells slots : Nat} {Q : State → Prop} {pc : Nat} {H : Heap} {locs : List Loc} {lA : Array Slot} {sv : List Value} {rest : List zV} {a : Array Value} {r : Option zV} {h' : zH} (hr : va_Run p l e R s m args below meth c H locs cells slots 0 0 (F0 m pc lA sv) (rest.map (zcv Z)) (zQc Z r h' a) (zA Z)) (hS : va_S (zA Z) s.heap H locs)
    (K : ∀ (H' : Heap) (locs' : List Loc), zHC Z h' H' → va_S (zA Z) s.heap H' locs' → W p l e R s m args below meth c H' locs' cells slots Q (F0 m (pc + 3) lA ((r.toList ++ rest).map (zcv Z)))) : W p l e R s m args below meth c H locs cells slots Q (F0 m pc lA sv) := by
  intro T hT X
  obtain ⟨v, st₀, t, T', L, h0, X', hL, e1, e2, ⟨hv, hH, hz, hk⟩, st⟩ := hr T hT X
  have hv := Outcome.returned.inj hv
  subst hv
  rw [h0] at hz hk
  have hS' : va_S (zA Z) s.heap T'.heap (locs ++ L) := by
    refine ⟨Nat.le_trans hS.1 (by rw [e1]; exact hz), fun q h1 h2 => by rw [e1, hk q (Nat.lt_of_lt_of_le h1 hS.1) h2]; exact hS.2.1 q h1 h2, fun q hq => ?_⟩
    rcases List.mem_append.mp hq with h | h
    · exact hS.2.2 q h
    · exact hL q h
  obtain ⟨t2, a1, b1⟩ := K T'.heap (locs ++ L) (by rw [e1]; exact hH) hS' T' rfl X'
  refine ⟨t2, st t2 ?_, b1⟩
  have e3 : (Option.map (zcv Z) r).toList ++ rest.map (zcv Z) = (r.toList ++ rest).map (zcv Z) := by
    cases r <;> simp
  rw [e3]
  exact a1
theorem zown_no : ∀ m, m < 297 → zinU m = true → zown m ≠ 13 ∧ zown m ≠ 14 ∧ zown m ≠ 16 := by decide +kernel
theorem zsplit {st as rest : List zV} {n : Nat} (h1 : n ≤ st.length) (h : (st.take n).reverse = as) (hr : st.drop n = rest) : st = as.reverse ++ rest ∧ as.length = n := by
  subst h; subst hr
  refine ⟨?_, ?_⟩
  · rw [List.reverse_reverse, List.take_append_drop]
  · rw [List.length_reverse, List.length_take]
    omega
section ZC
variable {Z : zP} {p : Program} {l : Launch} {e : Env} {R : Room} {s : State} {m : MethodId} {args : Array Value} {below : List Frame} {meth : Method} {c : Code} {cells slots : Nat} {Q : State → Prop} {cc : ByteArray} {mi pc m' n d x : Nat} {ls : zLS} {st as : List zV} {h h1 : zH} {v : Option zV} {H : Heap} {locs : List Loc} {lA : Array Slot}
theorem zW_cV (hZ : zAD Z) (ih : zWst Z l n) {k i : Nat} {as' : List zV} (hc : zex (zLn Z) n d m' 0 (zent m' (.inr (.inl (k, i, 0)) :: as')) [] h = some (v, h1)) (hu : zinU m' = true) (hsta : zsta m' = false) (hn1 : znar m' ≤ st.length) (hn2 : st.length ≤ znar m' + 4) (hnl : (st.take (znar m')).all znl = true) (has : (st.take (znar m')).reverse = .inr (.inl (k, i, 0)) :: as') (hk1 : k = zown m') (hk3 : k ≤ 15) (hq : zmlk (zown mi) x = some m')
    (hx : p.tables.exec = Jvm.exec) (hb : c.code = cc) (hml : c.maxLocals = zmxl mi) (hown : s.vm.findClass (znm (zown mi)) = some m.cls) (hts : ∀ w ∈ zGW, w.before args s = true) (hG : zG Z s) (hRf : d + 1 + 1 ≤ R.frames) (hRl : 64 * (d + 1 + 1) ≤ R.locals) (hcl : cells ≤ R.cells) (hsl : slots ≤ R.slots) (hH : zHC Z h H) (hS : va_S (zA Z) s.heap H locs) (hl : zLV Z (zmxl mi) ls lA ∧ zNL mi ls) (ho : zSO st) (hd : decode cc pc = .ok (.invokevirtual x, 3))
    (K : zSO (st.drop (znar m')) → ∀ (H' : Heap) (locs' : List Loc), zHC Z h1 H' → va_S (zA Z) s.heap H' locs' → W p l e R s m args below meth c H' locs' cells slots Q (F0 m (pc + 3) lA ((v.toList ++ st.drop (znar m')).map (zcv Z)))) : W p l e R s m args below meth c H locs cells slots Q (F0 m pc lA (st.map (zcv Z))) := by
  obtain ⟨hst, hlen⟩ := zsplit hn1 has rfl
  have hso : zSO (.inr (.inl (k, i, 0)) :: as') := fun z hz => ho z (by rw [hst]; exact List.mem_append_left _ (List.mem_reverse.mpr hz))
  have hsr : zSO (st.drop (znar m')) := fun z hz => ho z (List.mem_of_mem_drop hz)
  have hnl2 : (.inr (.inl (k, i, 0)) :: as' : List zV).all znl = true := by
    rw [← has, List.all_reverse]
    exact hnl
  have hM := zMet_of hZ ih hu hlen hnl2 hso hc
  obtain ⟨y, cy, e1, e2, hcw, hpd, hcls, hpl, hne, hna, hmx, hini, hstw, hin⟩ := zU_ok hu
  obtain ⟨hi1, hi2, hi3⟩ := hin hsta
  have hm9 := (zinU_ok hu).1
  rw [hsta] at hpd
  simp only [Bool.false_eq_true, if_false] at hpd
  unfold zwS at hM
  rw [e1, e2] at hM
  have hrecv : ∃ cell : Cell, H[zad Z k i 0]? = some cell ∧ cell.vm.isStatics = false ∧ s.vm.findClass (znm (zown m')) = some cell.cls := by
    rw [← hk1]
    rcases hso.hd with q | q
    · obtain ⟨j, hj⟩ := List.getElem?_of_mem q
      have he := zws_at (Z := Z) (h := h) hj
      rw [zcell_o] at he
      have hk12 := (zIDS_q q).1
      exact va_recv hG.1 hH.2 (zcl_at (k := k) (by simp only at hk12; omega)) he
    · have hno := zown_no m' (by omega) hu
      rw [← hk1] at hno
      have hki : k = 15 ∧ i = 0 := by
        simp only [zROI, List.mem_cons, Prod.mk.injEq, List.not_mem_nil, or_false] at q
        omega
      obtain ⟨rfl, rfl⟩ := hki
      obtain ⟨-, -, -, -, h9, -⟩ := hG.2.2.kept hS.1 hS.2.1
      obtain ⟨cell, g1, g2, g3, -⟩ := h9
      exact ⟨cell, g1, g2, g3⟩
  have hpre : PreV s H (znm (zown m')) (zad Z k i 0) (zPc Z (.inr (.inl (k, i, 0)) :: as') h) (as'.map (zcv Z)) := by
    refine ⟨zPc_blind, hrecv, ?_⟩
    have := zPc_to (as := .inr (.inl (k, i, 0)) :: as') hG hH hS
    rw [List.map_cons, zcv_ref hk3] at this
    exact this
  have hstk : (F0 m pc lA (st.map (zcv Z))).stack = (as'.map (zcv Z)).reverse ++ .ref (zad Z k i 0) :: (st.drop (znar m')).map (zcv Z) := by
    show st.map (zcv Z) = _
    conv => lhs; rw [hst]
    rw [List.map_append, List.map_reverse, List.map_cons, List.reverse_cons, zcv_ref hk3, List.append_assoc]
    rfl
  have hlen2 : (as'.map (zcv Z)).length = znar m' - 1 := by
    rw [List.length_map]
    simp only [List.length_cons] at hlen
    omega
  have hW8 : (((st.drop (znar m')).map (zcv Z)).map fun v => v.category).sum ≤ 8 := by
    have := zcatsum (Z := Z) (st.drop (znar m'))
    rw [List.length_drop] at this
    omega
  have hsz : lA.size = zmxl mi := hl.1.1
  have hR : (zrm d).frames + 1 ≤ R.frames ∧ 8 + (zmxl m' + 11) + (zrm d).locals ≤ R.locals := by
    constructor
    · exact hRf
    · show 8 + (zmxl m' + 11) + 64 * (d + 1) ≤ R.locals
      omega
  have hwords : ∀ w ∈ Cond.code y cy (zmxl m') (zret m') :: zGW, w ∈ zGW := fun w hw => (List.mem_cons.mp hw).elim (fun q => by rw [q]; exact hcw) id
  rcases zmlk_m hq (by omega) with hw | hw
  · rw [e1] at hw
    refine zW_run (va_runVN (n := znar m' - 1) (Ts := zGW) (nL := zmxl mi) ⟨hx, hb, hml, hown, hts⟩ hM ⟨va_cnB _ hts (zGoodIn hwords) rfl rfl rfl (hG.2.1 _ hw rfl) (by rw [hcls]; exact hts _ hini) ⟨hne.1, hne.2, hpd⟩ hR, hts _ hi1, hts _ hi2⟩ hpre rfl hlen2 hsz hstk (lv_room hW8) hd ⟨hcl, hsl⟩) hS (K hsr)
  · rw [e1] at hw
    refine zW_run (va_runV (n := znar m' - 1) (Ts := zGW) (nL := zmxl mi) ⟨hx, hb, hml, hown, hts⟩ hM (cwV _ hts (zGoodIn ?_) rfl rfl rfl ⟨hcls, hne.1, hne.2, hpd⟩ hR) hpre rfl hlen2 hsz hstk (lv_room hW8) hd ⟨hcl, hsl⟩) hS (K hsr)
    intro w hww
    unfold wsV at hww
    simp only [List.mem_append, List.mem_cons, List.not_mem_nil, or_false] at hww
    rcases hww with (rfl | rfl | rfl | rfl) | hww
    · exact hw
    · exact hi1
    · exact hi2
    · exact hini
    · rcases hww with rfl | hww
      · exact hcw
      · exact hww
theorem zW_cS (hZ : zAD Z) (ih : zWst Z l n) (hc : zex (zLn Z) n d m' 0 (zent m' (st.take (znar m')).reverse) [] h = some (v, h1)) (hu : zinU m' = true) (hsta : zsta m' = true) (hn1 : znar m' ≤ st.length) (hn2 : st.length ≤ znar m' + 4) (hnl : (st.take (znar m')).all znl = true) (hq : zmlk (zown mi) x = some m')
    (hx : p.tables.exec = Jvm.exec) (hb : c.code = cc) (hml : c.maxLocals = zmxl mi) (hown : s.vm.findClass (znm (zown mi)) = some m.cls) (hts : ∀ w ∈ zGW, w.before args s = true) (hG : zG Z s) (hRf : d + 1 + 1 ≤ R.frames) (hRl : 64 * (d + 1 + 1) ≤ R.locals) (hcl : cells ≤ R.cells) (hsl : slots ≤ R.slots) (hH : zHC Z h H) (hS : va_S (zA Z) s.heap H locs) (hl : zLV Z (zmxl mi) ls lA ∧ zNL mi ls) (ho : zSO st) (hd : decode cc pc = .ok (.invokestatic x, 3))
    (K : zSO (st.drop (znar m')) → ∀ (H' : Heap) (locs' : List Loc), zHC Z h1 H' → va_S (zA Z) s.heap H' locs' → W p l e R s m args below meth c H' locs' cells slots Q (F0 m (pc + 3) lA ((v.toList ++ st.drop (znar m')).map (zcv Z)))) : W p l e R s m args below meth c H locs cells slots Q (F0 m pc lA (st.map (zcv Z))) := by
  obtain ⟨hst, hlen⟩ := zsplit hn1 rfl rfl
  generalize has : (st.take (znar m')).reverse = as at hc hst hlen
  have hso : zSO as := fun z hz => ho z (by rw [hst]; exact List.mem_append_left _ (List.mem_reverse.mpr hz))
  have hsr : zSO (st.drop (znar m')) := fun z hz => ho z (List.mem_of_mem_drop hz)
  have hnl2 : as.all znl = true := by
    rw [← has, List.all_reverse]
    exact hnl
  have hM := zMet_of hZ ih hu hlen hnl2 hso hc
  obtain ⟨y, cy, e1, e2, hcw, hpd, hcls, hpl, hne, hna, hmx, hini, hstw, hin⟩ := zU_ok hu
  have hs1 := hstw hsta
  have hm9 := (zinU_ok hu).1
  rw [hsta] at hpd
  simp only [if_true, Nat.sub_zero] at hpd
  unfold zwS at hM
  rw [e1, e2] at hM
  have hpre : PreS s H (zPc Z as h) (as.map (zcv Z)) := ⟨zPc_blind, zPc_to hG hH hS⟩
  have hstk : (F0 m pc lA (st.map (zcv Z))).stack = (as.map (zcv Z)).reverse ++ (st.drop (znar m')).map (zcv Z) := by
    show st.map (zcv Z) = _
    conv => lhs; rw [hst]
    rw [List.map_append, List.map_reverse]
  have hlen2 : (as.map (zcv Z)).length = znar m' := by rw [List.length_map]; exact hlen
  have hW8 : (((st.drop (znar m')).map (zcv Z)).map fun v => v.category).sum ≤ 8 := by
    have := zcatsum (Z := Z) (st.drop (znar m'))
    rw [List.length_drop] at this
    omega
  have hsz : lA.size = zmxl mi := hl.1.1
  have hR : (zrm d).frames + 1 ≤ R.frames ∧ 8 + (zmxl m' + 11) + (zrm d).locals ≤ R.locals := by
    constructor
    · exact hRf
    · show 8 + (zmxl m' + 11) + 64 * (d + 1) ≤ R.locals
      omega
  have hwords : ∀ w ∈ Cond.code y cy (zmxl m') (zret m') :: zGW, w ∈ zGW := fun w hw => (List.mem_cons.mp hw).elim (fun q => by rw [q]; exact hcw) id
  rcases zmlk_m hq (by omega) with hw | hw
  · rw [e1] at hw
    refine zW_run (va_runSN (n := znar m') (Ts := zGW) (nL := zmxl mi) ⟨hx, hb, hml, hown, hts⟩ hM ⟨va_cnB _ hts (zGoodIn hwords) rfl rfl rfl (hG.2.1 _ hw rfl) (by rw [hcls]; exact hts _ hini) ⟨hne.1, hne.2, hpd⟩ hR, hts _ hs1, trivial⟩ hpre rfl hlen2 hsz hstk (lv_room hW8) hd ⟨hcl, hsl⟩) hS (K hsr)
  · rw [e1] at hw
    refine zW_run (va_runS (n := znar m') (Ts := zGW) (nL := zmxl mi) ⟨hx, hb, hml, hown, hts⟩ hM (va_cwS _ hts (zGoodIn ?_) rfl rfl rfl ⟨hne.1, hne.2, hpd⟩ hR) hpre rfl hlen2 hsz hstk (lv_room hW8) hd ⟨hcl, hsl⟩) hS (K hsr)
    intro w hww
    unfold va_wsS at hww
    simp only [List.mem_append, List.mem_cons, List.not_mem_nil, or_false] at hww
    rcases hww with (rfl | rfl | rfl) | hww
    · exact hw
    · exact hs1
    · rw [hcls]; exact hini
    · rcases hww with rfl | hww
      · exact hcw
      · exact hww
end ZC
set_option maxHeartbeats 2000000 in
theorem zW_main {Z : zP} (hZ : zAD Z) (l : Launch) : ∀ n, zWst Z l n := by
  intro n
  induction n with
  | zero => intro d mi pc ls st h r h' he; cases he
  | succ n ih =>
    intro d mi pc ls st h r h' he p e R s m args below meth c cells slots Q cc hx hb hml hown hts hG hdec hRf hRl hcl hsl H locs lA hH hS hl ho hQ
    rw [zex] at he
    cases hi : zfet mi pc with
    | none => rw [hi] at he; cases he
    | some i =>
      rw [hi] at he
      simp only at he
      obtain ⟨w, hd, hw⟩ := zfet_dec hdec hi
      cases hs : zstep (zLn Z) mi pc i ls st h with
      | none => rw [hs] at he; cases he
      | some x =>
        rw [hs] at he
        obtain ⟨pc', ls', st', h1⟩ | ⟨m', as, rest⟩ | v := x
        · refine zW_next hZ hx hb hml hown hts hG (by omega) (by omega) hcl hsl hd hw hs hH hS hl ho (fun H' locs' lA' a1 a2 a3 a4 => ?_)
          exact ih d mi pc' ls' st' h1 r h' he p e R s m args below meth c cells slots Q cc hx hb hml hown hts hG hdec hRf hRl hcl hsl H' locs' lA' a1 a2 a3 a4 hQ
        · cases d with
          | zero => cases he
          | succ d =>
            simp only at he
            cases hc : zex (zLn Z) n d m' 0 (zent m' as) [] h with
            | none => rw [hc] at he; cases he
            | some q =>
              obtain ⟨v, h1⟩ := q
              rw [hc] at he
              simp only at he
              have cont : zSO rest → (∀ x, v = some x → zvok x) → ∀ (H' : Heap) (locs' : List Loc), zHC Z h1 H' → va_S (zA Z) s.heap H' locs' → W p l e R s m args below meth c H' locs' cells slots Q (F0 m (pc + 3) lA ((v.toList ++ rest).map (zcv Z))) := by
                intro hr hv H' locs' a1 a2
                refine ih (d + 1) mi (pc + 3) ls (v.toList ++ rest) h1 r h' he p e R s m args below meth c cells slots Q cc hx hb hml hown hts hG hdec hRf hRl hcl hsl H' locs' lA a1 a2 hl ?_ hQ
                intro z hz
                rcases List.mem_append.mp hz with hz | hz
                · exact hv z (by simpa using hz)
                · exact hr z hz
              have hv9 : ∀ x, v = some x → zvok x := by
                intro x hx9
                obtain y | q | y := x
                · trivial
                · exact Or.inl (zex_val _ _ _ _ _ _ _ _ _ _ hc q hx9)
                · trivial
              rcases zstep_call hs with ⟨x, rfl, hq, hcV⟩ | ⟨x, rfl, hq, hcS⟩
              · unfold zcallV at hcV
                split at hcV
                · next hcond =>
                  obtain ⟨hu, hsta, hn1, hn2, hnl⟩ := hcond
                  split at hcV
                  · next k i t as' has =>
                    split at hcV
                    · next hk =>
                      obtain ⟨hk1, rfl, hk3⟩ := hk
                      cases hcV
                      exact zW_cV hZ ih hc hu hsta hn1 hn2 hnl has hk1 hk3 hq hx hb hml hown hts hG hRf hRl hcl hsl hH hS hl ho (by rcases hw with hw | hw; cases hw; rw [hw] at hd; exact hd) (fun hr => cont hr hv9)
                    · cases hcV
                  · cases hcV
                · cases hcV
              · unfold zcallS at hcS
                split at hcS
                · next hcond =>
                  obtain ⟨hu, hsta, hn1, hn2, hnl⟩ := hcond
                  cases hcS
                  exact zW_cS hZ ih hc hu hsta hn1 hn2 hnl hq hx hb hml hown hts hG hRf hRl hcl hsl hH hS hl ho (by rcases hw with hw | hw; cases hw; rw [hw] at hd; exact hd) (fun hr => cont hr hv9)
                · cases hcS
        · cases he
          have hri := zstep_ret hs
          have hw1 : w = 1 := by
            rcases hri with ⟨rfl, -⟩ | ⟨rfl, -⟩ | ⟨rfl, -⟩ <;> rcases hw with hw | hw <;> first | exact hw | cases hw
          rw [hw1] at hd
          exact hQ H locs lA pc i st hH hS hd hri ho
