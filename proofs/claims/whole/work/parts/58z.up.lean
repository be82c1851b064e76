/-! more depth does no harm -/
theorem zex_up1 (L : Nat) : ∀ (n d m pc : Nat) (ls : zLS) (st : List zV) (h : zH) (r : zRS), zex L n d m pc ls st h = some r → zex L n (d + 1) m pc ls st h = some r := by
  intro n
  induction n with
  | zero => intro d m pc ls st h r e; cases e
  | succ n ih =>
    intro d m pc ls st h r e
    rw [zex] at e ⊢
    cases hi : zfet m pc with
    | none => rw [hi] at e; cases e
    | some i =>
      rw [hi] at e
      simp only at e ⊢
      cases hs : zstep L m pc i ls st h with
      | none => rw [hs] at e; cases e
      | some x =>
        rw [hs] at e
        obtain ⟨pc', ls', st', h'⟩ | ⟨m', as, r'⟩ | v := x
        · exact ih _ _ _ _ _ _ _ e
        · cases d with
          | zero => cases e
          | succ d' =>
            simp only at e ⊢
            cases hc : zex L n d' m' 0 (zent m' as) [] h with
            | none => rw [hc] at e; cases e
            | some q =>
              rw [hc] at e
              rw [ih _ _ _ _ _ _ _ hc]
              exact ih _ _ _ _ _ _ _ e
        · exact e
theorem zev_up {L d d' m pc : Nat} {ls : zLS} {st : List zV} {h : zH} {r : zRS} (hd : d ≤ d') (e : zev L d m pc ls st h = some r) : zev L d' m pc ls st h = some r := by
  obtain ⟨n, e⟩ := zev_ex e
  induction hd with
  | refl => exact zev_of e
  | step _ ih =>
    obtain ⟨n', e'⟩ := zev_ex ih
    exact zev_of (zex_up1 L _ _ _ _ _ _ _ _ e')
theorem yAsk' {L : Nat} {hc hm : zH} {i P H a b p q t w : Nat} (rM : RMk (hc 3 i) (hm 12 0 2) (hm 12 0 9) (hm 12 0 10) P H) (tc : TC i P H hc hm) (mt : MT a b H hc hm) (hp : p < P) (hq : q < P) (ht : t < 5) (hw : w ≤ 2) (hwt : w ≠ 0 → t = 0) :
    ∃ n hc' hm', n ≤ yCap w ∧ (∀ d, zev L (d + 3) 89 0 [some (.inr (.inl (9, 0, 0))), some (.inl (nI w)), some (.inl (nI p)), some (.inl (nI q)), some (.inl (nI t)), none, none, none] [] hc = some (some (.inl (nI n)), hc')) ∧
      (w = 0 → ∀ d, zev L (d + 4) 219 0 [some (.inr (.inl (12, 0, 0))), some (.inl (nI p)), some (.inl (nI q)), some (.inl (nI t))] [] hm = some (some (.inl (nI n)), hm')) ∧ (w = 1 → ∀ d, zev L (d + 4) 220 0 [some (.inr (.inl (12, 0, 0))), some (.inl (nI p)), some (.inl (nI q))] [] hm = some (some (.inl (nI n)), hm')) ∧ (w = 2 → ∀ d, zev L (d + 4) 221 0 [some (.inr (.inl (12, 0, 0))), some (.inl (nI p)), some (.inl (nI q))] [] hm = some (some (.inl (nI n)), hm')) ∧ yA1 hc hc' ∧ yA2 hm hm' := by
  obtain ⟨n, hc', hm', hn, q1, q2, q3, q4, q5, q6⟩ := yAsk (L := L) (dc := 0) (dm := 0) rM tc mt hp hq ht hw hwt
  exact ⟨n, hc', hm', hn, fun d => zev_up (by omega) q1, fun h d => zev_up (by omega) (q2 h), fun h d => zev_up (by omega) (q3 h), fun h d => zev_up (by omega) (q4 h), q5, q6⟩
