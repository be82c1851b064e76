/-! FRAME: the class's methods write no cell of the reference, nor the reference's one of the class -/
def zfo (S : Nat → Bool) (v : zV) : Bool := match v with
  | .inr (.inl q) => S q.1
  | _ => true
def zfoL (S : Nat → Bool) (ls : zLS) : Prop := ∀ i v, zlg ls i = some v → zfo S v = true
def zfoS (S : Nat → Bool) (st : List zV) : Prop := ∀ v, v ∈ st → zfo S v = true
def zfPO (S M : Nat → Bool) (h : zH) (r : zAR) : Prop := match r with
  | .inl (_, ls', st', h') => zfoL S ls' ∧ zfoS S st' ∧ ∀ k, S k = false → h' k = h k
  | .inr (.inl (m', as, r')) => M m' = true ∧ zfoS S as ∧ zfoS S r'
  | .inr (.inr v) => ∀ w, v = some w → zfo S w = true
section ZF
variable {S M : Nat → Bool} {L m pc i : Nat} {ls ls' : zLS} {st st' : List zV} {h : zH} {v : zV} {r : zAR}
theorem zfoS_cons : zfoS S (v :: st) ↔ zfo S v = true ∧ zfoS S st := by
  unfold zfoS
  simp only [List.mem_cons, forall_eq_or_imp]
theorem zfoS_nil : zfoS S [] := fun _ h => nomatch h
theorem zfoS_app {a b : List zV} (ha : zfoS S a) (hb : zfoS S b) : zfoS S (a ++ b) := fun v hv => (List.mem_append.1 hv).elim (ha v) (hb v)
theorem zlg_set {j : Nat} {w : zV} (e : zlg (ls.set i (some v)) j = some w) : w = v ∨ zlg ls j = some w := by
  unfold zlg at e ⊢
  rw [List.getElem?_set] at e
  by_cases hij : i = j
  · subst hij
    by_cases hl : i < ls.length
    · rw [if_pos rfl, if_pos hl] at e
      cases e
      exact Or.inl rfl
    · rw [if_pos rfl, if_neg hl] at e
      cases e
  · rw [if_neg hij] at e
    exact Or.inr e
theorem zlg_setN {j : Nat} {w : zV} (e : zlg (ls.set i none) j = some w) : zlg ls j = some w := by
  unfold zlg at e ⊢
  rw [List.getElem?_set] at e
  by_cases hij : i = j
  · subst hij
    by_cases hl : i < ls.length
    · rw [if_pos rfl, if_pos hl] at e
      cases e
    · rw [if_pos rfl, if_neg hl] at e
      cases e
  · rw [if_neg hij] at e
    exact e
theorem zfk_lsJ (e : zlsJ m ls i v = some ls') (hl : zfoL S ls) (hv : zfo S v = true) : zfoL S ls' := by
  unfold zlsJ at e
  split at e
  · cases e
    intro j w hw
    rcases zlg_set hw with rfl | hw
    · exact hv
    · exact hl _ _ hw
  · cases e
theorem zfk_lsL {x : Int64} (e : zlsL ls i x = some ls') (hl : zfoL S ls) : zfoL S ls' := by
  unfold zlsL at e
  split at e
  · cases e
    intro j w hw
    rcases zlg_set (zlg_setN hw) with rfl | hw
    · rfl
    · exact hl _ _ hw
  · cases e
theorem zfk_nx {o : Option (List zV)} (hl : zfoL S ls) (ho : ∀ st', o = some st' → zfoS S st') (hs : znx pc ls h o = some r) : zfPO S M h r := by
  unfold znx at hs
  cases o with
  | none => cases hs
  | some st' => cases hs; exact ⟨hl, ho _ rfl, fun _ _ => rfl⟩
theorem zfk_op1 {f : Int32 → Option zV} (hf : ∀ x v, f x = some v → zfo S v = true) : ∀ {st : List zV}, zfoS S st → ∀ st', zop1 st f = some st' → zfoS S st'
  | [], _, _, e => by cases e
  | .inr _ :: _, _, _, e => by cases e
  | .inl x :: q, hst, st', e => by
    unfold zop1 at e
    simp only at e
    cases hq : f x with
    | none => rw [hq] at e; cases e
    | some v => rw [hq] at e; cases e; exact zfoS_cons.2 ⟨hf _ _ hq, (zfoS_cons.1 hst).2⟩
theorem zfk_op2 {f : Int32 → Int32 → Option zV} (hf : ∀ x y v, f x y = some v → zfo S v = true) : ∀ {st : List zV}, zfoS S st → ∀ st', zop2 st f = some st' → zfoS S st'
  | [], _, _, e => by cases e
  | .inr _ :: _, _, _, e => by cases e
  | [.inl _], _, _, e => by cases e
  | .inl _ :: .inr _ :: _, _, _, e => by cases e
  | .inl y :: .inl x :: q, hst, st', e => by
    unfold zop2 at e
    simp only at e
    cases hq : f x y with
    | none => rw [hq] at e; cases e
    | some v => rw [hq] at e; cases e; exact zfoS_cons.2 ⟨hf _ _ _ hq, (zfoS_cons.1 (zfoS_cons.1 hst).2).2⟩
theorem zfk_opL {f : Int64 → Int64 → Option zV} (hf : ∀ x y v, f x y = some v → zfo S v = true) : ∀ {st : List zV}, zfoS S st → ∀ st', zopL st f = some st' → zfoS S st'
  | [], _, _, e => by cases e
  | .inl _ :: _, _, _, e => by cases e
  | .inr (.inl _) :: _, _, _, e => by cases e
  | [.inr (.inr _)], _, _, e => by cases e
  | .inr (.inr _) :: .inl _ :: _, _, _, e => by cases e
  | .inr (.inr _) :: .inr (.inl _) :: _, _, _, e => by cases e
  | .inr (.inr y) :: .inr (.inr x) :: q, hst, st', e => by
    unfold zopL at e
    simp only at e
    cases hq : f x y with
    | none => rw [hq] at e; cases e
    | some v => rw [hq] at e; cases e; exact zfoS_cons.2 ⟨hf _ _ _ hq, (zfoS_cons.1 (zfoS_cons.1 hst).2).2⟩
theorem zfk_ld (hst : zfoS S st) (e : zld ls i st = some st') : zfoS S st' := by
  unfold zld at e
  split at e
  · cases e; exact zfoS_cons.2 ⟨rfl, hst⟩
  · cases e
theorem zfk_ldl (hst : zfoS S st) (e : zldl ls i st = some st') : zfoS S st' := by
  unfold zldl at e
  split at e
  · cases e; exact zfoS_cons.2 ⟨rfl, hst⟩
  · cases e
theorem zfk_lda (hl : zfoL S ls) (hst : zfoS S st) (e : zlda ls i st = some st') : zfoS S st' := by
  unfold zlda at e
  split at e
  · next k j s hq =>
    split at e
    · cases e; exact zfoS_cons.2 ⟨hl _ _ hq, hst⟩
    · cases e
  · cases e
theorem zfk_sti (hl : zfoL S ls) : ∀ {st : List zV}, zfoS S st → zsti m pc ls i st h = some r → zfPO S M h r
  | [], _, e => by cases e
  | .inr _ :: _, _, e => by cases e
  | .inl x :: q, hst, e => by
    unfold zsti at e
    simp only at e
    cases hq : zlsJ m ls i (.inl x) with
    | none => rw [hq] at e; cases e
    | some l => rw [hq] at e; cases e; exact ⟨zfk_lsJ hq hl rfl, (zfoS_cons.1 hst).2, fun _ _ => rfl⟩
theorem zfk_sta (hl : zfoL S ls) : ∀ {st : List zV}, zfoS S st → zsta_ m pc ls i st h = some r → zfPO S M h r
  | [], _, e => by cases e
  | .inl _ :: _, _, e => by cases e
  | .inr (.inr _) :: _, _, e => by cases e
  | .inr (.inl (k, j, s)) :: q, hst, e => by
    unfold zsta_ at e
    simp only at e
    split at e
    · cases hq : zlsJ m ls i (.inr (.inl (k, j, s))) with
      | none => rw [hq] at e; cases e
      | some l => rw [hq] at e; cases e; exact ⟨zfk_lsJ hq hl (zfoS_cons.1 hst).1, (zfoS_cons.1 hst).2, fun _ _ => rfl⟩
    · cases e
theorem zfk_stl (hl : zfoL S ls) : ∀ {st : List zV}, zfoS S st → zstl m pc ls i st h = some r → zfPO S M h r
  | [], _, e => by cases e
  | .inl _ :: _, _, e => by cases e
  | .inr (.inl _) :: _, _, e => by cases e
  | .inr (.inr x) :: q, hst, e => by
    unfold zstl at e
    simp only at e
    split at e
    · cases hq : zlsL ls i x with
      | none => rw [hq] at e; cases e
      | some l => rw [hq] at e; cases e; exact ⟨zfk_lsL hq hl, (zfoS_cons.1 hst).2, fun _ _ => rfl⟩
    · cases e
theorem zfk_jmp {t : Option Nat} (hl : zfoL S ls) (hst : zfoS S st) (e : zjmp t ls st h = some r) : zfPO S M h r := by
  unfold zjmp at e
  cases t with
  | none => cases e
  | some p => cases e; exact ⟨hl, hst, fun _ _ => rfl⟩
theorem zfk_upK {k j s p : Nat} {x : Int32} (hk : S k = true) : ∀ k', S k' = false → zup h k j s p x k' = h k' := by
  intro k' hk'
  funext a b c
  unfold zup
  rw [if_neg]
  rintro ⟨rfl, _⟩
  rw [hk] at hk'
  cases hk'
theorem zfk_upA {k j s : Nat} {f : Nat → Int32} (hk : S k = true) : ∀ k', S k' = false → zupA h k j s f k' = h k' := by
  intro k' hk'
  funext a b c
  unfold zupA
  rw [if_neg]
  rintro ⟨rfl, _⟩
  rw [hk] at hk'
  cases hk'
theorem zfk_getf (hF : ∀ k i f, S k = true → zfty k f = 2 → S (ztgt k i f).1 = true) (hD : ∀ k f, S k = true → zfty k f = 3 → S 3 = true) {q : Nat × Nat} : ∀ {st : List zV}, zfoS S st → ∀ st', zgetf q st h = some st' → zfoS S st'
  | [], _, _, e => by cases e
  | .inl _ :: _, _, _, e => by cases e
  | .inr (.inr _) :: _, _, _, e => by cases e
  | .inr (.inl (k, i, s)) :: rr, hst, st', e => by
    have hk : S k = true := (zfoS_cons.1 hst).1
    have hr := (zfoS_cons.1 hst).2
    unfold zgetf at e
    simp only at e
    split at e
    · split at e
      · next h2 => cases e; exact zfoS_cons.2 ⟨hF _ _ _ hk h2, hr⟩
      · next h3 => cases e; exact zfoS_cons.2 ⟨hD _ _ hk h3, hr⟩
      · cases e
      · cases e; exact zfoS_cons.2 ⟨rfl, hr⟩
    · cases e
theorem zfk_putf {q : Nat × Nat} (hl : zfoL S ls) : ∀ {st : List zV}, zfoS S st → zputf q pc ls st h = some r → zfPO S M h r
  | [], _, e => by cases e
  | [.inl _], _, e => by cases e
  | .inl _ :: .inl _ :: _, _, e => by cases e
  | .inl _ :: .inr (.inr _) :: _, _, e => by cases e
  | .inr (.inr _) :: _, _, e => by cases e
  | [.inr (.inl _)], _, e => by cases e
  | .inr (.inl _) :: .inl _ :: _, _, e => by cases e
  | .inr (.inl _) :: .inr (.inr _) :: _, _, e => by cases e
  | .inl x :: .inr (.inl (k, i, s)) :: rr, hst, e => by
    have hk : S k = true := (zfoS_cons.1 (zfoS_cons.1 hst).2).1
    have hr := (zfoS_cons.1 (zfoS_cons.1 hst).2).2
    unfold zputf at e
    simp only at e
    split at e
    · split at e
      · cases e; exact ⟨hl, hr, zfk_upK hk⟩
      · split at e
        · cases e; exact ⟨hl, hr, zfk_upK hk⟩
        · cases e
      · cases e
    · cases e
  | .inr (.inl (k', i', s')) :: .inr (.inl (k, i, s)) :: rr, hst, e => by
    have hk : S k = true := (zfoS_cons.1 (zfoS_cons.1 hst).2).1
    have hr := (zfoS_cons.1 (zfoS_cons.1 hst).2).2
    unfold zputf at e
    simp only at e
    split at e
    · split at e
      · cases e; exact ⟨hl, hr, zfk_upK hk⟩
      · cases e
    · cases e
theorem zfk_aldi {ty : Nat} : ∀ {st : List zV}, zfoS S st → ∀ st', zaldi L ty st h = some st' → zfoS S st'
  | [], _, _, e => by cases e
  | .inr _ :: _, _, _, e => by cases e
  | [.inl _], _, _, e => by cases e
  | .inl _ :: .inl _ :: _, _, _, e => by cases e
  | .inl _ :: .inr (.inr _) :: _, _, _, e => by cases e
  | .inl j :: .inr (.inl (k, i, s)) :: rr, hst, st', e => by
    unfold zaldi at e
    simp only at e
    split at e
    · cases e; exact zfoS_cons.2 ⟨rfl, (zfoS_cons.1 (zfoS_cons.1 hst).2).2⟩
    · cases e
theorem zfk_alda (hA : ∀ k s, S k = true → zaty k s = 2 → S 3 = true) : ∀ {st : List zV}, zfoS S st → ∀ st', zalda L st = some st' → zfoS S st'
  | [], _, _, e => by cases e
  | .inr _ :: _, _, _, e => by cases e
  | [.inl _], _, _, e => by cases e
  | .inl _ :: .inl _ :: _, _, _, e => by cases e
  | .inl _ :: .inr (.inr _) :: _, _, _, e => by cases e
  | .inl j :: .inr (.inl (k, i, s)) :: rr, hst, st', e => by
    unfold zalda at e
    simp only at e
    split at e
    · next hc => cases e; exact zfoS_cons.2 ⟨hA k s (zfoS_cons.1 (zfoS_cons.1 hst).2).1 hc.1, (zfoS_cons.1 (zfoS_cons.1 hst).2).2⟩
    · cases e
theorem zfk_asti (hl : zfoL S ls) : ∀ {st : List zV}, zfoS S st → zasti L pc ls st h = some r → zfPO S M h r
  | [], _, e => by cases e
  | .inr _ :: _, _, e => by cases e
  | [.inl _], _, e => by cases e
  | .inl _ :: .inr _ :: _, _, e => by cases e
  | [.inl _, .inl _], _, e => by cases e
  | .inl _ :: .inl _ :: .inl _ :: _, _, e => by cases e
  | .inl _ :: .inl _ :: .inr (.inr _) :: _, _, e => by cases e
  | .inl x :: .inl j :: .inr (.inl (k, i, s)) :: rr, hst, e => by
    have h3 := zfoS_cons.1 (zfoS_cons.1 (zfoS_cons.1 hst).2).2
    unfold zasti at e
    simp only at e
    split at e
    · cases e; exact ⟨hl, h3.2, zfk_upK h3.1⟩
    · cases e
theorem zfk_astb (hl : zfoL S ls) : ∀ {st : List zV}, zfoS S st → zastb L pc ls st h = some r → zfPO S M h r
  | [], _, e => by cases e
  | .inr _ :: _, _, e => by cases e
  | [.inl _], _, e => by cases e
  | .inl _ :: .inr _ :: _, _, e => by cases e
  | [.inl _, .inl _], _, e => by cases e
  | .inl _ :: .inl _ :: .inl _ :: _, _, e => by cases e
  | .inl _ :: .inl _ :: .inr (.inr _) :: _, _, e => by cases e
  | .inl x :: .inl j :: .inr (.inl (k, i, s)) :: rr, hst, e => by
    have h3 := zfoS_cons.1 (zfoS_cons.1 (zfoS_cons.1 hst).2).2
    unfold zastb at e
    simp only at e
    split at e
    · cases e; exact ⟨hl, h3.2, zfk_upK h3.1⟩
    · cases e
theorem zfk_alen (hst : zfoS S st) (e : zalen L st = some st') : zfoS S st' := by
  unfold zalen at e
  split at e
  · split at e
    · cases e; exact zfoS_cons.2 ⟨rfl, (zfoS_cons.1 hst).2⟩
    · cases e
  · cases e
theorem zfk_copy (hl : zfoL S ls) (hst : zfoS S st) (e : zcopy L pc ls st h = some r) : zfPO S M h r := by
  unfold zcopy at e
  split at e
  · next n dp k i s sp k' i' s' rr =>
    have h1 := zfoS_cons.1 (zfoS_cons.1 (zfoS_cons.1 hst).2).2
    have h2 := zfoS_cons.1 (zfoS_cons.1 h1.2).2
    split at e
    · cases e; exact ⟨hl, h2.2, zfk_upA h1.1⟩
    · cases e
  · cases e
theorem zfk_math {f : Int32 → Int32 → Int32} (hst : zfoS S st) (e : zmath st f = some st') : zfoS S st' := by
  unfold zmath at e
  split at e
  · split at e
    · cases e; exact zfoS_cons.2 ⟨rfl, (zfoS_cons.1 (zfoS_cons.1 hst).2).2⟩
    · cases e
  · cases e
theorem zfk_abs (hst : zfoS S st) (e : zabs st = some st') : zfoS S st' := by
  unfold zabs at e
  split at e
  · split at e
    · cases e; exact zfoS_cons.2 ⟨rfl, (zfoS_cons.1 hst).2⟩
    · cases e
  · cases e
theorem zfk_gets {x : Nat} (h14 : S 14 = true) (h16 : S 16 = true) (hst : zfoS S st) (e : zgets x st = some st') : zfoS S st' := by
  unfold zgets at e
  split at e
  · cases e; exact zfoS_cons.2 ⟨h14, hst⟩
  · cases e; exact zfoS_cons.2 ⟨rfl, hst⟩
  · cases e; exact zfoS_cons.2 ⟨h16, hst⟩
  · cases e
theorem zfk_take {n : Nat} (hst : zfoS S st) : zfoS S (st.take n).reverse := fun v hv => hst v (List.mem_of_mem_take (List.mem_reverse.1 hv))
theorem zfk_drop {n : Nat} (hst : zfoS S st) : zfoS S (st.drop n) := fun v hv => hst v (List.mem_of_mem_drop hv)
theorem zfk_callV {m' : Nat} (hm : zinU m' = true → M m' = true) (hst : zfoS S st) (e : zcallV m' st = some r) : zfPO S M h r := by
  unfold zcallV at e
  split at e
  · next hc =>
    have ht := zfk_take (n := znar m') hst
    split at e
    · next k i s as hq =>
      rw [hq] at ht
      split at e
      · cases e; exact ⟨hm hc.1, ht, zfk_drop hst⟩
      · cases e
    · cases e
  · cases e
theorem zfk_callS {m' : Nat} (hm : zinU m' = true → M m' = true) (hst : zfoS S st) (e : zcallS m' st = some r) : zfPO S M h r := by
  unfold zcallS at e
  split at e
  · next hc => cases e; exact ⟨hm hc.1, zfk_take hst, zfk_drop hst⟩
  · cases e
def zfHY (S M : Nat → Bool) : Prop :=
  (∀ k i f, S k = true → zfty k f = 2 → S (ztgt k i f).1 = true) ∧ (∀ k f, S k = true → zfty k f = 3 → S 3 = true) ∧ (∀ k s, S k = true → zaty k s = 2 → S 3 = true) ∧
  (∀ m x q, M m = true → zslk (zown m) x = some q → S 14 = true ∧ S 16 = true) ∧ (∀ m, M m = true → zown m = 7 → S 15 = true) ∧ (∀ m x m', M m = true → zmlk (zown m) x = some m' → zinU m' = true → M m' = true)
theorem zfk_step (H : zfHY S M) (hm : M m = true) {i : Instr} (hl : zfoL S ls) (hst : zfoS S st) (hs : zstep L m pc i ls st h = some r) : zfPO S M h r := by
  obtain ⟨hF, hD, hA, hG, hC, hM⟩ := H
  cases i with
  | iconst n =>
    have hs' : (some (Sum.inl (pc + 1, ls, Sum.inl _ :: st, h)) : Option zAR) = some r := hs
    cases hs'
    exact ⟨hl, zfoS_cons.2 ⟨rfl, hst⟩, fun _ _ => rfl⟩
  | bipush n =>
    have hs' : (some (Sum.inl (pc + 2, ls, Sum.inl _ :: st, h)) : Option zAR) = some r := hs
    cases hs'
    exact ⟨hl, zfoS_cons.2 ⟨rfl, hst⟩, fun _ _ => rfl⟩
  | sipush n =>
    have hs' : (some (Sum.inl (pc + 3, ls, Sum.inl _ :: st, h)) : Option zAR) = some r := hs
    cases hs'
    exact ⟨hl, zfoS_cons.2 ⟨rfl, hst⟩, fun _ _ => rfl⟩
  | lconst n =>
    have hs' : (some (Sum.inl (pc + 1, ls, Sum.inr (Sum.inr _) :: st, h)) : Option zAR) = some r := hs
    cases hs'
    exact ⟨hl, zfoS_cons.2 ⟨rfl, hst⟩, fun _ _ => rfl⟩
  | ldc x =>
    unfold zstep at hs
    simp only at hs
    split at hs
    · next hc => cases hs; exact ⟨hl, zfoS_cons.2 ⟨hC m hm hc.1, hst⟩, fun _ _ => rfl⟩
    · split at hs
      · cases hs; exact ⟨hl, zfoS_cons.2 ⟨rfl, hst⟩, fun _ _ => rfl⟩
      · cases hs
  | ldc_w x =>
    unfold zstep at hs
    simp only at hs
    split at hs
    · cases hs; exact ⟨hl, zfoS_cons.2 ⟨rfl, hst⟩, fun _ _ => rfl⟩
    · cases hs
  | ldc2_w x =>
    unfold zstep at hs
    simp only at hs
    split at hs
    · cases hs; exact ⟨hl, zfoS_cons.2 ⟨rfl, hst⟩, fun _ _ => rfl⟩
    · cases hs
  | iload x => exact zfk_nx hl (fun _ e => zfk_ld hst e) hs
  | iload_n x => exact zfk_nx hl (fun _ e => zfk_ld hst e) hs
  | aload x => exact zfk_nx hl (fun _ e => zfk_lda hl hst e) hs
  | aload_n x => exact zfk_nx hl (fun _ e => zfk_lda hl hst e) hs
  | lload_n x => exact zfk_nx hl (fun _ e => zfk_ldl hst e) hs
  | istore x => exact zfk_sti hl hst hs
  | istore_n x => exact zfk_sti hl hst hs
  | astore x => exact zfk_sta hl hst hs
  | astore_n x => exact zfk_sta hl hst hs
  | lstore_n x => exact zfk_stl hl hst hs
  | iinc x n =>
    unfold zstep at hs
    simp only at hs
    split at hs
    · split at hs
      · next hq => cases hs; exact ⟨zfk_lsJ hq hl rfl, hst, fun _ _ => rfl⟩
      · cases hs
    · cases hs
  | iadd => exact zfk_nx hl (fun _ e => zfk_op2 (fun x y v e => by cases e; rfl) hst _ e) hs
  | isub => exact zfk_nx hl (fun _ e => zfk_op2 (fun x y v e => by cases e; rfl) hst _ e) hs
  | imul => exact zfk_nx hl (fun _ e => zfk_op2 (fun x y v e => by cases e; rfl) hst _ e) hs
  | idiv => exact zfk_nx hl (fun _ e => zfk_op2 (fun x y v e => by split at e <;> cases e; rfl) hst _ e) hs
  | irem => exact zfk_nx hl (fun _ e => zfk_op2 (fun x y v e => by split at e <;> cases e; rfl) hst _ e) hs
  | ineg => exact zfk_nx hl (fun _ e => zfk_op1 (fun x v e => by cases e; rfl) hst _ e) hs
  | iand => exact zfk_nx hl (fun _ e => zfk_op2 (fun x y v e => by cases e; rfl) hst _ e) hs
  | ior => exact zfk_nx hl (fun _ e => zfk_op2 (fun x y v e => by cases e; rfl) hst _ e) hs
  | ixor => exact zfk_nx hl (fun _ e => zfk_op2 (fun x y v e => by cases e; rfl) hst _ e) hs
  | ishl => exact zfk_nx hl (fun _ e => zfk_op2 (fun x y v e => by cases e; rfl) hst _ e) hs
  | ishr => exact zfk_nx hl (fun _ e => zfk_op2 (fun x y v e => by cases e; rfl) hst _ e) hs
  | iushr => exact zfk_nx hl (fun _ e => zfk_op2 (fun x y v e => by cases e; rfl) hst _ e) hs
  | i2b => exact zfk_nx hl (fun _ e => zfk_op1 (fun x v e => by cases e; rfl) hst _ e) hs
  | i2c => exact zfk_nx hl (fun _ e => zfk_op1 (fun x v e => by cases e; rfl) hst _ e) hs
  | i2l => exact zfk_nx hl (fun _ e => zfk_op1 (fun x v e => by cases e; rfl) hst _ e) hs
  | l2i =>
    unfold zstep at hs
    simp only at hs
    split at hs
    · cases hs; exact ⟨hl, zfoS_cons.2 ⟨rfl, (zfoS_cons.1 hst).2⟩, fun _ _ => rfl⟩
    · cases hs
  | lmul => exact zfk_nx hl (fun _ e => zfk_opL (fun x y v e => by cases e; rfl) hst _ e) hs
  | ldiv => exact zfk_nx hl (fun _ e => zfk_opL (fun x y v e => by split at e <;> cases e; rfl) hst _ e) hs
  | lrem => exact zfk_nx hl (fun _ e => zfk_opL (fun x y v e => by split at e <;> cases e; rfl) hst _ e) hs
  | dup =>
    unfold zstep at hs
    simp only at hs
    split at hs
    · cases hs; exact ⟨hl, zfoS_cons.2 ⟨rfl, hst⟩, fun _ _ => rfl⟩
    · cases hs; exact ⟨hl, zfoS_cons.2 ⟨(zfoS_cons.1 hst).1, hst⟩, fun _ _ => rfl⟩
    · cases hs
  | dup2 =>
    unfold zstep at hs
    simp only at hs
    split at hs
    · cases hs; exact ⟨hl, zfoS_cons.2 ⟨rfl, zfoS_cons.2 ⟨(zfoS_cons.1 (zfoS_cons.1 hst).2).1, hst⟩⟩, fun _ _ => rfl⟩
    · cases hs
  | pop =>
    unfold zstep at hs
    simp only at hs
    split at hs
    · cases hs; exact ⟨hl, (zfoS_cons.1 hst).2, fun _ _ => rfl⟩
    · cases hs
  | ifCond c off =>
    unfold zstep at hs
    simp only at hs
    split at hs
    · cases hs
    · split at hs
      · split at hs <;> (cases hs; exact ⟨hl, (zfoS_cons.1 hst).2, fun _ _ => rfl⟩)
      · cases hs
  | if_icmp c off =>
    unfold zstep at hs
    simp only at hs
    split at hs
    · cases hs
    · split at hs
      · split at hs <;> (cases hs; exact ⟨hl, (zfoS_cons.1 (zfoS_cons.1 hst).2).2, fun _ _ => rfl⟩)
      · cases hs
  | goto off => exact zfk_jmp hl hst hs
  | tableswitch d lo hi offs =>
    unfold zstep at hs
    simp only at hs
    split at hs
    · split at hs
      · exact zfk_jmp hl (zfoS_cons.1 hst).2 hs
      · split at hs
        · exact zfk_jmp hl (zfoS_cons.1 hst).2 hs
        · cases hs
    · cases hs
  | lookupswitch d ps =>
    unfold zstep at hs
    simp only at hs
    split at hs
    · split at hs
      · exact zfk_jmp hl (zfoS_cons.1 hst).2 hs
      · cases hs
    · cases hs
  | getfield x =>
    unfold zstep at hs
    simp only at hs
    split at hs
    · exact zfk_nx hl (fun _ e => zfk_getf hF hD hst _ e) hs
    · cases hs
  | putfield x =>
    unfold zstep at hs
    simp only at hs
    split at hs
    · exact zfk_putf hl hst hs
    · cases hs
  | getstatic x =>
    unfold zstep at hs
    simp only at hs
    split at hs
    · next hq => exact zfk_nx hl (fun _ e => zfk_gets (hG _ _ _ hm hq).1 (hG _ _ _ hm hq).2 hst e) hs
    · cases hs
  | iaload => exact zfk_nx hl (fun _ e => zfk_aldi hst _ e) hs
  | baload => exact zfk_nx hl (fun _ e => zfk_aldi hst _ e) hs
  | aaload => exact zfk_nx hl (fun _ e => zfk_alda hA hst _ e) hs
  | iastore => exact zfk_asti hl hst hs
  | bastore => exact zfk_astb hl hst hs
  | arraylength => exact zfk_nx hl (fun _ e => zfk_alen hst e) hs
  | invokevirtual x =>
    unfold zstep at hs
    simp only at hs
    split at hs
    · next hq => exact zfk_callV (hM _ _ _ hm hq) hst hs
    · cases hs
  | invokestatic x =>
    unfold zstep at hs
    simp only at hs
    split at hs
    · next hq =>
      split at hs
      · exact zfk_copy hl hst hs
      · split at hs
        · exact zfk_nx hl (fun _ e => zfk_math hst e) hs
        · split at hs
          · exact zfk_nx hl (fun _ e => zfk_math hst e) hs
          · split at hs
            · exact zfk_nx hl (fun _ e => zfk_abs hst e) hs
            · exact zfk_callS (hM _ _ _ hm hq) hst hs
    · cases hs
  | ireturn =>
    unfold zstep at hs
    simp only at hs
    split at hs
    · split at hs
      · cases hs; intro w e; cases e; rfl
      · cases hs
    · cases hs
  | areturn =>
    unfold zstep at hs
    simp only at hs
    split at hs
    · split at hs
      · cases hs; intro w e; cases e; exact (zfoS_cons.1 hst).1
      · cases hs
    · cases hs
  | return_ =>
    unfold zstep at hs
    simp only at hs
    split at hs
    · split at hs
      · cases hs; intro w e; cases e
      · cases hs
    · cases hs
  | _ => exact nomatch (show (none : Option zAR) = some _ from hs)
theorem zfk_ent {as : List zV} (ha : zfoS S as) : zfoL S (zent m as) := by
  intro i v e
  unfold zlg zent at e
  split at e
  · next w hw =>
    cases e
    have hm := List.mem_of_getElem? hw
    rcases List.mem_append.1 hm with hm | hm
    · obtain ⟨x, hx, hq⟩ := List.mem_map.1 hm
      cases hq
      exact ha _ hx
    · have hz := (List.mem_replicate.1 hm).2
      cases hz
  · cases e
theorem zfk_ex (H : zfHY S M) : ∀ (n d m pc : Nat) (ls : zLS) (st : List zV) (h : zH) (v : Option zV) (h' : zH), zex L n d m pc ls st h = some (v, h') → M m = true → zfoL S ls → zfoS S st → (∀ k, S k = false → h' k = h k) ∧ ∀ w, v = some w → zfo S w = true := by
  intro n
  induction n with
  | zero => intro d m pc ls st h v h' e; cases e
  | succ n ih =>
    intro d m pc ls st h v h' e hm hl hst
    rw [zex] at e
    cases hi : zfet m pc with
    | none => rw [hi] at e; cases e
    | some i =>
      rw [hi] at e
      simp only at e
      cases hs : zstep L m pc i ls st h with
      | none => rw [hs] at e; cases e
      | some x =>
        rw [hs] at e
        have hp := zfk_step H hm hl hst hs
        obtain ⟨pc', ls', st', h1⟩ | ⟨m', as, r'⟩ | w := x
        · obtain ⟨a, b, c⟩ := hp
          obtain ⟨e1, e2⟩ := ih _ _ _ _ _ _ _ _ e hm a b
          exact ⟨fun k hk => (e1 k hk).trans (c k hk), e2⟩
        · obtain ⟨a, b, c⟩ := hp
          cases d with
          | zero => cases e
          | succ d' =>
            simp only at e
            cases hc : zex L n d' m' 0 (zent m' as) [] h with
            | none => rw [hc] at e; cases e
            | some q =>
              rw [hc] at e
              obtain ⟨w, h1⟩ := q
              obtain ⟨f1, f2⟩ := ih _ _ _ _ _ _ _ _ hc a (zfk_ent b) zfoS_nil
              have hs2 : zfoS S (w.toList ++ r') := zfoS_app (fun u hu => f2 u (by cases w with | none => cases hu | some y => cases hu with | head => rfl | tail _ q => cases q)) c
              obtain ⟨e1, e2⟩ := ih _ _ _ _ _ _ _ _ e hm hl hs2
              exact ⟨fun k hk => (e1 k hk).trans (f1 k hk), e2⟩
        · cases e
          exact ⟨fun _ _ => rfl, hp⟩
end ZF
theorem zfk_ev {S M : Nat → Bool} {L d m : Nat} {ls : zLS} {h h' : zH} {v : Option zV} (H : zfHY S M) (e : zev L d m 0 ls [] h = some (v, h')) (hm : M m = true) (hl : zfoL S ls) : ∀ k, S k = false → h' k = h k := by
  obtain ⟨n, e⟩ := zev_ex e
  exact (zfk_ex H _ _ _ _ _ _ _ _ _ e hm hl zfoS_nil).1
def zfoB (S : Nat → Bool) (ls : zLS) : Bool := ls.all fun o => match o with
  | some v => zfo S v
  | none => true
theorem zfoB_L {S : Nat → Bool} {ls : zLS} (h : zfoB S ls = true) : zfoL S ls := by
  intro i v e
  unfold zlg at e
  split at e
  · next w hw =>
    cases e
    exact List.all_eq_true.1 h _ (List.mem_of_getElem? hw)
  · cases e
def zSc (k : Nat) : Bool := !(Nat.beq k 12)
def zSm (k : Nat) : Bool := Nat.beq k 12
def zMm (m : Nat) : Bool := Nat.beq (zown m) 12
theorem ztk0 : ∀ row, row ∈ zTGT → ∀ g, g ∈ row → ∀ i : Nat, (g i).1 = (g 0).1 := by
  simp only [zTGT, List.forall_mem_cons, List.not_mem_nil, false_implies, implies_true, and_self]
theorem ztk (k i f : Nat) : (ztgt k i f).1 = (ztgt k 0 f).1 := by
  unfold ztgt
  by_cases hk : k < zTGT.length
  · by_cases hf : f < (zTGT.getD k []).length
    · rw [List.getD_eq_getElem?_getD (l := zTGT.getD k []), List.getElem?_eq_getElem hf]
      refine ztk0 (zTGT.getD k []) ?_ _ (List.getElem_mem hf) i
      rw [List.getD_eq_getElem?_getD, List.getElem?_eq_getElem hk]
      exact List.getElem_mem hk
    · rw [List.getD_eq_getElem?_getD (l := zTGT.getD k []), List.getElem?_eq_none (Nat.le_of_not_lt hf)]
      rfl
  · rw [List.getD_eq_getElem?_getD (l := zTGT), List.getElem?_eq_none (Nat.le_of_not_lt hk)]
    rfl
theorem zfty9 {k f : Nat} (h : ¬ (k < 16 ∧ f < 70)) : zfty k f = 9 := by
  unfold zfty
  by_cases hk : k < 16
  · have hf : 70 ≤ f := by omega
    have hl : ∀ k, k < 16 → (zFTY.getD k []).length ≤ 70 := by decide +kernel
    rw [List.getD_eq_getElem?_getD (l := zFTY.getD k []), List.getElem?_eq_none (Nat.le_trans (hl k hk) hf)]
    rfl
  · rw [List.getD_eq_getElem?_getD (l := zFTY), List.getElem?_eq_none (by rw [show zFTY.length = 16 by decide +kernel]; omega)]
    rfl
theorem zaty9 {k s : Nat} (h : ¬ (k < 16 ∧ s < 70)) : zaty k s = 9 := by
  unfold zaty
  by_cases hk : k < 16
  · have hf : 70 ≤ s := by omega
    have hl : ∀ k, k < 16 → (zATY.getD k []).length ≤ 70 := by decide +kernel
    rw [List.getD_eq_getElem?_getD (l := zATY.getD k []), List.getElem?_eq_none (Nat.le_trans (hl k hk) hf)]
    rfl
  · rw [List.getD_eq_getElem?_getD (l := zATY), List.getElem?_eq_none (by rw [show zATY.length = 16 by decide +kernel]; omega)]
    rfl
theorem zfHYc : zfHY zSc (fun _ => true) := by
  refine ⟨?_, fun _ _ _ _ => rfl, fun _ _ _ _ => rfl, fun _ _ _ _ _ => ⟨rfl, rfl⟩, fun _ _ _ => rfl, fun _ _ _ _ _ _ => rfl⟩
  intro k i f hk hf
  rw [ztk]
  by_cases hb : k < 16 ∧ f < 70
  · have hd : ∀ k, k < 16 → ∀ f, f < 70 → zSc k = true → zfty k f = 2 → zSc (ztgt k 0 f).1 = true := by decide +kernel
    exact hd k hb.1 f hb.2 hk hf
  · rw [zfty9 hb] at hf
    cases hf
theorem zfHYm : zfHY zSm zMm := by
  refine ⟨?_, ?_, ?_, ?_, ?_, ?_⟩
  · intro k i f hk hf
    rw [ztk]
    by_cases hb : k < 16 ∧ f < 70
    · have hd : ∀ k, k < 16 → ∀ f, f < 70 → zSm k = true → zfty k f = 2 → zSm (ztgt k 0 f).1 = true := by decide +kernel
      exact hd k hb.1 f hb.2 hk hf
    · rw [zfty9 hb] at hf
      cases hf
  · intro k f hk hf
    by_cases hb : k < 16 ∧ f < 70
    · have hd : ∀ k, k < 16 → ∀ f, f < 70 → zSm k = true → zfty k f = 3 → zSm 3 = true := by decide +kernel
      exact hd k hb.1 f hb.2 hk hf
    · rw [zfty9 hb] at hf
      cases hf
  · intro k s hk hf
    by_cases hb : k < 16 ∧ s < 70
    · have hd : ∀ k, k < 16 → ∀ f, f < 70 → zSm k = true → zaty k f = 2 → zSm 3 = true := by decide +kernel
      exact hd k hb.1 s hb.2 hk hf
    · rw [zaty9 hb] at hf
      cases hf
  · intro m x q hm e
    rw [Nat.eq_of_beq_eq_true hm, show zslk 12 x = none from rfl] at e
    cases e
  · intro m hm e
    rw [Nat.eq_of_beq_eq_true hm] at e
    cases e
  · intro m x m' hm e hu
    rw [Nat.eq_of_beq_eq_true hm] at e
    have hd : ∀ q, q ∈ zMLK → Nat.beq q.1 12 = true → zinU q.2.2 = true → zMm q.2.2 = true := by decide +kernel
    unfold zmlk at e
    split at e
    · next q hq =>
      cases e
      have h1 := List.mem_of_find?_eq_some hq
      have h2 : (Nat.beq q.1 12 && Nat.beq q.2.1 x) = true := by have hh := List.find?_some hq; exact hh
      exact hd q h1 (Bool.and_eq_true _ _ ▸ h2).1 hu
    · cases e
/-- the class writes nothing of the reference -/
theorem zfrC {L d m : Nat} {ls : zLS} {h h' : zH} {v : Option zV} (e : zev L d m 0 ls [] h = some (v, h')) (hl : zfoB zSc ls = true) : h' 12 = h 12 := zfk_ev zfHYc e rfl (zfoB_L hl) 12 rfl
/-- the reference writes nothing of the class -/
theorem zfrM {L d m : Nat} {ls : zLS} {h h' : zH} {v : Option zV} (e : zev L d m 0 ls [] h = some (v, h')) (hm : zMm m = true) (hl : zfoB zSm ls = true) : ∀ k, k ≠ 12 → h' k = h k := fun k hk => zfk_ev zfHYm e hm (zfoB_L hl) k (by unfold zSm; exact Bool.eq_false_iff.2 (fun q => hk (Nat.eq_of_beq_eq_true q)))
