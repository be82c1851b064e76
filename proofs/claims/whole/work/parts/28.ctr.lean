-- Past.keep, Past.back
def kp38 (h : zH) : zH := zup h 4 0 0 1 (((h 4 0 0 1) + (nI 1)) - ((h 4 0 0 1) + (nI 1)) / (nI 6) * (nI 6))
def kq38 (h : zH) : zH := zup h 4 0 0 2 (if (nI 6) < ((h 4 0 0 2) + (nI 1)) then (nI 6) else ((h 4 0 0 2) + (nI 1)))
theorem k38 {L d : Nat} {h : zH} {i1 : Nat} (h0 : vp_in (h 4 0 0 1) 6) : zev L (d + 1) 38 0 [some (.inr (.inl (4, 0, 0))), some (.inr (.inl (3, i1, 0)))] [] h = some (none, kq38 (kp38 (kh23 h (3 + (h 4 0 0 1).toNatClampNeg) i1))) := by
  rw [b38_0 h0, k23]
  exact b38_13.trans (b38_26.trans b38_41)
def kp39 (h : zH) : zH := zup h 4 0 0 1 ((((h 4 0 0 1) + (nI 6)) - (nI 1)) - (((h 4 0 0 1) + (nI 6)) - (nI 1)) / (nI 6) * (nI 6))
def kq39 (h : zH) : zH := zup h 4 0 0 2 ((h 4 0 0 2) - (nI 1))
theorem k39 {L d : Nat} {h : zH} {i1 : Nat} (h0 : vp_in (kq39 (kp39 h) 4 0 0 1) 6) : zev L (d + 1) 39 0 [some (.inr (.inl (4, 0, 0))), some (.inr (.inl (3, i1, 0)))] [] h = some (none, kh23 (kq39 (kp39 h)) i1 (3 + (kq39 (kp39 h) 4 0 0 1).toNatClampNeg)) := by
  have e : zev L (d + 1) 39 0 [some (.inr (.inl (4, 0, 0))), some (.inr (.inl (3, i1, 0)))] [] h = zev L (d + 1) 39 26 [some (.inr (.inl (4, 0, 0))), some (.inr (.inl (3, i1, 0)))] [] (kq39 (kp39 h)) := b39_0.trans b39_16
  rw [e, b39_26 h0, k23]
  exact b39_39
