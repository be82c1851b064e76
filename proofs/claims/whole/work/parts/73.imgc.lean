/-! a world copied: what RWv reads -/
theorem zupAN {h : zH} {k i s k' i' s' j : Nat} {f : Nat → Int32} (e : ¬ (k' = k ∧ i' = i ∧ s' = s)) : zupA h k i s f k' i' s' j = h k' i' s' j := if_neg e
theorem zupAE {h : zH} {k i s k' i' s' j : Nat} {f : Nat → Int32} (e : k' = k ∧ i' = i ∧ s' = s) : zupA h k i s f k' i' s' j = f j := if_pos e
section CP
variable {S S' O O' A A' : Nat → Int32} {M K : Nat}
theorem sgR_c {s : Int32} {i i2 : Nat} {ts ts2 : List Bool} (h : sgR s O A i ts i2 ts2) (hO : ∀ j, j < K → O' j = O j) (hA : ∀ j, j < K → A' j = A j) (h2 : i2 ≤ K) : sgR s O' A' i ts i2 ts2 := by
  rcases h with ⟨k, hk, hs, a1, a2, e, r⟩ | ⟨k, hk, hs, a1, a2, e, r⟩ | ⟨n, q, h0, hn, hs, a1, a2, a3, e, r⟩ | ⟨k, q, hk, hs, a1, e, r⟩ | ⟨k, q, hk, hs, a1, e, r⟩ | ⟨q, hs, a1, e, r⟩ | ⟨k, q, hk, hs, a1, e, r⟩
  · exact Or.inl ⟨k, hk, hs, (hO i (by omega)).trans a1, (hA i (by omega)).trans a2, e, r⟩
  · exact Or.inr (Or.inl ⟨k, hk, hs, (hO i (by omega)).trans a1, (hA i (by omega)).trans a2, e, r⟩)
  · exact Or.inr (Or.inr (Or.inl ⟨n, q, h0, hn, hs, (hO i (by omega)).trans a1, (hA i (by omega)).trans a2, (hO (i + 1) (by omega)).trans a3, e, r⟩))
  · exact Or.inr (Or.inr (Or.inr (Or.inl ⟨k, q, hk, hs, (hO i (by omega)).trans a1, e, r⟩)))
  · exact Or.inr (Or.inr (Or.inr (Or.inr (Or.inl ⟨k, q, hk, hs, (hO i (by omega)).trans a1, e, r⟩))))
  · exact Or.inr (Or.inr (Or.inr (Or.inr (Or.inr (Or.inl ⟨q, hs, (hO i (by omega)).trans a1, e, r⟩)))))
  · exact Or.inr (Or.inr (Or.inr (Or.inr (Or.inr (Or.inr ⟨k, q, hk, hs, (hO i (by omega)).trans a1, e, r⟩)))))
theorem sgR_lt {s : Int32} {i i2 : Nat} {ts ts2 : List Bool} (h : sgR s O A i ts i2 ts2) : i < i2 := by
  rcases h with ⟨k, hk, hs, a1, a2, e, r⟩ | ⟨k, hk, hs, a1, a2, e, r⟩ | ⟨n, q, h0, hn, hs, a1, a2, a3, e, r⟩ | ⟨k, q, hk, hs, a1, e, r⟩ | ⟨k, q, hk, hs, a1, e, r⟩ | ⟨q, hs, a1, e, r⟩ | ⟨k, q, hk, hs, a1, e, r⟩ <;> omega
theorem ySegLe {j' : Nat} {ts2 : List Bool} : ∀ n i i' ts, Seg S O A n i i' ts j' ts2 → i' ≤ j'
  | 0, _, _, _, h => Nat.le_of_eq h.1
  | n + 1, i, i', ts, ⟨i1, ts1, h1, h2⟩ => by
    have a := sgR_lt h1
    have b := ySegLe n (i + 1) i1 ts1 h2
    omega
theorem Seg_c {j' : Nat} {ts2 : List Bool} (hS : ∀ j, j < M → S' j = S j) (hO : ∀ j, j < K → O' j = O j) (hA : ∀ j, j < K → A' j = A j) (hj : j' ≤ K) : ∀ n i i' ts, Seg S O A n i i' ts j' ts2 → i + n ≤ M → Seg S' O' A' n i i' ts j' ts2
  | 0, _, _, _, h, _ => h
  | n + 1, i, i', ts, ⟨i1, ts1, h1, h2⟩, hM => by
    have b := ySegLe n (i + 1) i1 ts1 h2
    refine ⟨i1, ts1, ?_, Seg_c hS hO hA hj n (i + 1) i1 ts1 h2 (by omega)⟩
    rw [hS i (by omega)]
    exact sgR_c h1 hO hA (by omega)
end CP
def ylcp (c' c : Nat → Nat → Int32) : Prop := c' 0 2 = c 0 2 ∧ ∀ j, j < 80 → c' 1 j = c 1 j
def yl0 (c' c : Nat → Nat → Int32) : Prop := ylcp c' c ∧ ∀ n, n ≤ 400 → c 0 3 = nI n → c' 0 3 = nI n ∧ ∀ j, j < n → c' 2 j = c 2 j
def yl3 (c' c : Nat → Nat → Int32) : Prop := ylcp c' c ∧ (c 0 3 = nI 0 → c' 0 3 = nI 0)
def yt8 (cap : Nat) (t' t : Nat → Nat → Int32) : Prop := t' 0 3 = t 0 3 ∧ ∀ j, j < cap → t' 1 j = t 1 j
def ivc (v' v : Nat → Nat → Int32) : Prop := ∀ q, q < 1847 → v' (ic q).1 (ic q).2 = v (ic q).1 (ic q).2
section CQ
variable {c c' : Nat → Nat → Int32} {o o' : Nat → Int32} {m m' : Int32} {P H : Nat}
theorem RLw_cp {lw lf lu lt op ar lw' lf' lu' lt' op' ar' : Nat → Int32} (h : RLw c m lw lf lu lt op ar) (e : yl0 c' c) (em : m' = m) (e1 : ∀ l, l < 16 → lw' l = lw l) (e2 : ∀ l, l < 16 → lf' l = lf l) (e3 : ∀ l, l < 16 → lu' l = lu l) (e4 : ∀ l, l < 16 → lt' l = lt l) (e5 : ∀ l, l < 400 → op' l = op l) (e6 : ∀ l, l < 400 → ar' l = ar l) : RLw c' m' lw' lf' lu' lt' op' ar' := by
  obtain ⟨N, SC, hN, hSC, a1, a2, a3, hl⟩ := h
  obtain ⟨⟨b1, b2⟩, b3⟩ := e
  obtain ⟨b4, b5⟩ := b3 SC hSC a2
  refine ⟨N, SC, hN, hSC, b1.trans a1, b4, em.trans a3, fun l hl' => ?_⟩
  obtain ⟨w, f, u, t, f', u', t', h1, h2, h3, h4, h5, h6, h7, k1, k2, k3, k4, k5, k6, k7, k8, s1, s2⟩ := hl l hl'
  refine ⟨w, f, u, t, f', u', t', h1, h2, h3, h4, h5, h6, h7, (b2 _ (by omega)).trans k1, (b2 _ (by omega)).trans k2, (b2 _ (by omega)).trans k3, (b2 _ (by omega)).trans k4, (e1 l (by omega)).trans k5, (e2 l (by omega)).trans k6, (e3 l (by omega)).trans k7, (e4 l (by omega)).trans k8, Seg_c b5 e5 e6 (by omega) _ _ _ _ s1 (by omega), ?_⟩
  rcases s2 with s2 | ⟨q1, q2, s2⟩
  · exact Or.inl s2
  · exact Or.inr ⟨q1, q2, Seg_c b5 e5 e6 (by omega) _ _ _ _ s2 (by omega)⟩
theorem RFr_cp (h : RFr c o m) (e : yl3 c' c) (em : m' = m) (eo : ∀ j, j < 80 → o' j = o j) : RFr c' o' m' := by
  obtain ⟨⟨N, hN, a1, a2, a3⟩, z⟩ := h
  obtain ⟨⟨b1, b2⟩, b3⟩ := e
  refine ⟨⟨N, hN, b1.trans a1, em.trans a2, fun j hj => ?_⟩, b3 z⟩
  rw [b2 j (by omega), eo j (by omega)]
  exact a3 j hj
theorem RHb_cp (h : RHb c o m P) (e : yl3 c' c) (em : m' = m) (eo : ∀ j, j < 80 → o' j = o j) : RHb c' o' m' P := by
  obtain ⟨⟨N, hN, a1, a2, a3⟩, z⟩ := h
  obtain ⟨⟨b1, b2⟩, b3⟩ := e
  refine ⟨⟨N, hN, b1.trans a1, em.trans a2, fun l hl => ?_⟩, b3 z⟩
  rw [b2 (5 * l) (by omega), b2 (5 * l + 1) (by omega), b2 (5 * l + 2) (by omega), b2 (5 * l + 3) (by omega), b2 (5 * l + 4) (by omega), eo (5 * l) (by omega), eo (5 * l + 1) (by omega), eo (5 * l + 2) (by omega), eo (5 * l + 3) (by omega), eo (5 * l + 4) (by omega)]
  exact a3 l hl
theorem ks_c {c c' : Nat → Int32} {p : Nat} (e : ∀ j, j < 80 → c' j = c j) : ∀ n, n ≤ 16 → ks c' p n = ks c p n
  | 0, _ => rfl
  | n + 1, h => by
    rw [ks, ks, ks_c e n (by omega), e (5 * n) (by omega), e (5 * n + 1) (by omega)]
theorem RKn_cp (h : RKn c o m P) (e : yl3 c' c) (em : m' = m) (eo : ∀ j, j < 12 → o' j = o j) : RKn c' o' m' P := by
  obtain ⟨⟨N, hN, a1, a2, a3, a4⟩, z⟩ := h
  obtain ⟨⟨b1, b2⟩, b3⟩ := e
  refine ⟨⟨N, hN, b1.trans a1, em.trans a2, fun l hl => ?_, fun p hp => ?_⟩, b3 z⟩
  · rw [b2 (5 * l) (by omega), b2 (5 * l + 1) (by omega)]
    exact a3 l hl
  · rw [eo p hp, ks_c b2 N hN]
    exact a4 p hp
theorem RTd_cp {cap lo hi : Nat} {t t' : Nat → Nat → Int32} (h : RTd (t 1) (t 0 3) o m cap lo hi) (e : yt8 cap t' t) (em : m' = m) (eo : ∀ j, j < cap → o' j = o j) : RTd (t' 1) (t' 0 3) o' m' cap lo hi := by
  obtain ⟨N, hN, a1, a2, a3⟩ := h
  refine ⟨N, hN, e.1.trans a1, em.trans a2, fun j hj => ?_⟩
  rw [e.2 j (by omega), eo j (by omega)]
  exact a3 j hj
theorem RCl_cp {t t' : Nat → Nat → Int32} {o1 o1' : Nat → Int32} (h : RCl (t 1) (t 0 3) o o1 m) (e : yt8 16 t' t) (em : m' = m) (eo : ∀ j, j < 16 → o' j = o j) (eo1 : ∀ j, j < 16 → o1' j = o1 j) : RCl (t' 1) (t' 0 3) o' o1' m' := by
  obtain ⟨N, hN, a1, a2, a3⟩ := h
  refine ⟨N, hN, e.1.trans a1, em.trans a2, fun j hj => ?_⟩
  rw [e.2 j (by omega), eo j (by omega), eo1 j (by omega)]
  exact a3 j hj
theorem RWv_cp {f f' l0 l1 l2 l3 t0 t1 t2 t3 t4 l0' l1' l2' l3' t0' t1' t2' t3' t4' v v' : Nat → Nat → Int32} {pg pg' : Nat → Int32} (h : RWv f pg l0 l1 l2 l3 t0 t1 t2 t3 t4 v P H) (hf : ycp f' f) (hp : ∀ j, j < 600 → pg' j = pg j) (h0 : yl0 l0' l0) (h1 : yl3 l1' l1) (h2 : yl3 l2' l2) (h3 : yl3 l3' l3)
    (k0 : yt8 16 t0' t0) (k1 : yt8 9 t1' t1) (k2 : yt8 5 t2' t2) (k3 : yt8 7 t3' t3) (k4 : yt8 6 t4' t4) (hv : ivc v' v) : RWv f' pg' l0' l1' l2' l3' t0' t1' t2' t3' t4' v' P H := by
  obtain ⟨rM, rp, rb, rl, rf, rh, rk, r0, r1, r2, r3, r4⟩ := h
  have V : ∀ {q s j}, ic q = (s, j) → q < 1847 → v' s j = v s j := fun {q s j} e hq => by
    have := hv q hq
    rw [e] at this
    exact this
  refine ⟨RMk_cp rM hf (fun j hj => V (ic_2 hj) (by omega)) (fun j hj => V (ic_9 hj) (by omega)) (fun j hj => V (ic_10 hj) (by omega)), ⟨(V ic0_6 (by omega)).trans rp.1, (V ic0_7 (by omega)).trans rp.2⟩, fun j hj => ?_, RLw_cp rl h0 (V ic_19 (by omega)) (fun j hj => V (ic_20 hj) (by omega)) (fun j hj => V (ic_21 hj) (by omega)) (fun j hj => V (ic_22 hj) (by omega)) (fun j hj => V (ic_23 hj) (by omega)) (fun j hj => V (ic_24 hj) (by omega)) (fun j hj => V (ic_25 hj) (by omega)),
    RFr_cp rf h1 (V ic0_34 (by omega)) (fun j hj => V (ic_36 hj) (by omega)), RHb_cp rh h2 (V ic0_36 (by omega)) (fun j hj => V (ic_38 hj) (by omega)), RKn_cp rk h3 (V ic0_38 (by omega)) (fun j hj => V (ic_40 hj) (by omega)),
    RCl_cp r0 k0 (V ic0_48 (by omega)) (fun j hj => V (ic_50 hj) (by omega)) (fun j hj => V (ic_51 hj) (by omega)), RTd_cp r1 k1 (V ic0_51 (by omega)) (fun j hj => V (ic_53 hj) (by omega)), RTd_cp r2 k2 (V ic0_57 (by omega)) (fun j hj => V (ic_59 hj) (by omega)), RTd_cp r3 k3 (V ic0_59 (by omega)) (fun j hj => V (ic_61 hj) (by omega)), RTd_cp r4 k4 (V ic0_62 (by omega)) (fun j hj => V (ic_64 hj) (by omega))⟩
  rw [hp j hj, V (ic_11 hj) (by omega)]
  exact rb j hj
end CQ
