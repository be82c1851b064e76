/-! DECODING by single bytes: what an opcode's bytes say, once for each opcode; then a whole method in one pass -/
theorem zr_bind {α β : Type} (x : Decoder α) (f : α → Decoder β) (code : ByteArray) (p : Nat) : Reader.runAt (x >>= f) code p = match Reader.runAt x code p with
    | .ok (a, q) => Reader.runAt (f a) code q
    | .error e => .error e := by
  show (do let (a, s) ← x code p; f a code s) = _
  show _ = match x code p with
    | .ok (a, q) => f a code q
    | .error e => .error e
  cases h : x code p with
  | error e => rfl
  | ok a => obtain ⟨a, q⟩ := a; rfl
theorem zr_u1 {code : ByteArray} {p : Nat} {b : UInt8} (h : code[p]? = some b) : Reader.runAt (Reader.u1 : Decoder Nat) code p = .ok (b.toNat, p + 1) := by
  have hl : p < code.size := by
    rcases Nat.lt_or_ge p code.size with q | q
    · exact q
    · rw [getElem?_neg code p (by omega)] at h; cases h
  rw [getElem?_pos code p hl] at h
  have r1 : Reader.runAt (MonadReader.read : Decoder ByteArray) code p = .ok (code, p) := rfl
  have r2 : Reader.runAt (get : Decoder Nat) code p = .ok (p, p) := rfl
  unfold Reader.u1
  rw [zr_bind, r1]
  simp only
  rw [zr_bind, r2]
  simp only
  rw [dif_pos hl]
  rw [Option.some.inj h]
  rfl
theorem zr_u2 {code : ByteArray} {p : Nat} {b1 b2 : UInt8} (h1 : code[p]? = some b1) (h2 : code[p + 1]? = some b2) : Reader.runAt (Reader.u2 : Decoder Nat) code p = .ok (b1.toNat * 256 + b2.toNat, p + 2) := by
  unfold Reader.u2
  rw [zr_bind, zr_u1 h1]
  simp only
  rw [zr_bind, zr_u1 h2]
  rfl
theorem zr_map {α β : Type} (g : α → β) (x : Decoder α) (code : ByteArray) (p : Nat) : Reader.runAt (g <$> x) code p = match Reader.runAt x code p with
    | .ok (a, q) => .ok (g a, q)
    | .error e => .error e := by
  have e1 : g <$> x = x >>= fun a => Pure.pure (g a) := by rw [map_eq_pure_bind]
  rw [e1, zr_bind]
  cases h : Reader.runAt x code p with
  | error e => rfl
  | ok a => obtain ⟨a, q⟩ := a; rfl
theorem zr_s1 {code : ByteArray} {p : Nat} {b : UInt8} (h : code[p]? = some b) : Reader.runAt (Reader.s1 : Decoder Int) code p = .ok (Reader.signed 8 b.toNat, p + 1) := by
  unfold Reader.s1
  rw [zr_map, zr_u1 h]
theorem zr_s2 {code : ByteArray} {p : Nat} {b1 b2 : UInt8} (h1 : code[p]? = some b1) (h2 : code[p + 1]? = some b2) : Reader.runAt (Reader.s2 : Decoder Int) code p = .ok (Reader.signed 16 (b1.toNat * 256 + b2.toNat), p + 2) := by
  unfold Reader.s2
  rw [zr_map, zr_u2 h1 h2]
theorem zd_0 {code : ByteArray} {pc : Nat} {op : Nat} {b : UInt8} (h : code[pc]? = some b) (hb : b.toNat = op) {f : Nat → Decoder Instr} (hf : Decoder.instr pc = Reader.u1 >>= f) {i : Instr} {n : Nat} (hi : Reader.runAt (f op) code (pc + 1) = .ok (i, pc + n)) : decode code pc = .ok (i, n) := by
  unfold decode
  rw [hf, zr_bind, zr_u1 h, hb]
  simp only
  rw [hi]
  show Except.ok (i, pc + n - pc) = _
  rw [Nat.add_sub_cancel_left]
def zdP (e : Nat × Nat × (Nat → Nat → Option Instr)) : Prop := ∀ (code : ByteArray) (pc : Nat) (b1 b2 : UInt8) (i : Instr), code[pc]? = some (UInt8.ofNat e.1) → (1 ≤ e.2.1 → code[pc + 1]? = some b1) → (2 ≤ e.2.1 → code[pc + 2]? = some b2) → e.2.2 b1.toNat b2.toNat = some i → decode code pc = .ok (i, e.2.1 + 1)

theorem zd_2 : zdP (2, 0, fun b1 b2 => some (.iconst (-1))) := by
  intro code pc b1 b2 i h h1 h2 e
  cases e
  exact zd_0 (op := 2) h rfl rfl rfl
theorem zd_3 : zdP (3, 0, fun b1 b2 => some (.iconst 0)) := by
  intro code pc b1 b2 i h h1 h2 e
  cases e
  exact zd_0 (op := 3) h rfl rfl rfl
theorem zd_4 : zdP (4, 0, fun b1 b2 => some (.iconst 1)) := by
  intro code pc b1 b2 i h h1 h2 e
  cases e
  exact zd_0 (op := 4) h rfl rfl rfl
theorem zd_5 : zdP (5, 0, fun b1 b2 => some (.iconst 2)) := by
  intro code pc b1 b2 i h h1 h2 e
  cases e
  exact zd_0 (op := 5) h rfl rfl rfl
theorem zd_6 : zdP (6, 0, fun b1 b2 => some (.iconst 3)) := by
  intro code pc b1 b2 i h h1 h2 e
  cases e
  exact zd_0 (op := 6) h rfl rfl rfl
theorem zd_7 : zdP (7, 0, fun b1 b2 => some (.iconst 4)) := by
  intro code pc b1 b2 i h h1 h2 e
  cases e
  exact zd_0 (op := 7) h rfl rfl rfl
theorem zd_8 : zdP (8, 0, fun b1 b2 => some (.iconst 5)) := by
  intro code pc b1 b2 i h h1 h2 e
  cases e
  exact zd_0 (op := 8) h rfl rfl rfl
theorem zd_9 : zdP (9, 0, fun b1 b2 => some (.lconst 0)) := by
  intro code pc b1 b2 i h h1 h2 e
  cases e
  exact zd_0 (op := 9) h rfl rfl rfl
theorem zd_10 : zdP (10, 0, fun b1 b2 => some (.lconst 1)) := by
  intro code pc b1 b2 i h h1 h2 e
  cases e
  exact zd_0 (op := 10) h rfl rfl rfl
theorem zd_26 : zdP (26, 0, fun b1 b2 => some (.iload_n 0)) := by
  intro code pc b1 b2 i h h1 h2 e
  cases e
  exact zd_0 (op := 26) h rfl rfl rfl
theorem zd_27 : zdP (27, 0, fun b1 b2 => some (.iload_n 1)) := by
  intro code pc b1 b2 i h h1 h2 e
  cases e
  exact zd_0 (op := 27) h rfl rfl rfl
theorem zd_28 : zdP (28, 0, fun b1 b2 => some (.iload_n 2)) := by
  intro code pc b1 b2 i h h1 h2 e
  cases e
  exact zd_0 (op := 28) h rfl rfl rfl
theorem zd_29 : zdP (29, 0, fun b1 b2 => some (.iload_n 3)) := by
  intro code pc b1 b2 i h h1 h2 e
  cases e
  exact zd_0 (op := 29) h rfl rfl rfl
theorem zd_30 : zdP (30, 0, fun b1 b2 => some (.lload_n 0)) := by
  intro code pc b1 b2 i h h1 h2 e
  cases e
  exact zd_0 (op := 30) h rfl rfl rfl
theorem zd_31 : zdP (31, 0, fun b1 b2 => some (.lload_n 1)) := by
  intro code pc b1 b2 i h h1 h2 e
  cases e
  exact zd_0 (op := 31) h rfl rfl rfl
theorem zd_32 : zdP (32, 0, fun b1 b2 => some (.lload_n 2)) := by
  intro code pc b1 b2 i h h1 h2 e
  cases e
  exact zd_0 (op := 32) h rfl rfl rfl
theorem zd_33 : zdP (33, 0, fun b1 b2 => some (.lload_n 3)) := by
  intro code pc b1 b2 i h h1 h2 e
  cases e
  exact zd_0 (op := 33) h rfl rfl rfl
theorem zd_42 : zdP (42, 0, fun b1 b2 => some (.aload_n 0)) := by
  intro code pc b1 b2 i h h1 h2 e
  cases e
  exact zd_0 (op := 42) h rfl rfl rfl
theorem zd_43 : zdP (43, 0, fun b1 b2 => some (.aload_n 1)) := by
  intro code pc b1 b2 i h h1 h2 e
  cases e
  exact zd_0 (op := 43) h rfl rfl rfl
theorem zd_44 : zdP (44, 0, fun b1 b2 => some (.aload_n 2)) := by
  intro code pc b1 b2 i h h1 h2 e
  cases e
  exact zd_0 (op := 44) h rfl rfl rfl
theorem zd_45 : zdP (45, 0, fun b1 b2 => some (.aload_n 3)) := by
  intro code pc b1 b2 i h h1 h2 e
  cases e
  exact zd_0 (op := 45) h rfl rfl rfl
theorem zd_46 : zdP (46, 0, fun b1 b2 => some (.iaload)) := by
  intro code pc b1 b2 i h h1 h2 e
  cases e
  exact zd_0 (op := 46) h rfl rfl rfl
theorem zd_50 : zdP (50, 0, fun b1 b2 => some (.aaload)) := by
  intro code pc b1 b2 i h h1 h2 e
  cases e
  exact zd_0 (op := 50) h rfl rfl rfl
theorem zd_51 : zdP (51, 0, fun b1 b2 => some (.baload)) := by
  intro code pc b1 b2 i h h1 h2 e
  cases e
  exact zd_0 (op := 51) h rfl rfl rfl
theorem zd_59 : zdP (59, 0, fun b1 b2 => some (.istore_n 0)) := by
  intro code pc b1 b2 i h h1 h2 e
  cases e
  exact zd_0 (op := 59) h rfl rfl rfl
theorem zd_60 : zdP (60, 0, fun b1 b2 => some (.istore_n 1)) := by
  intro code pc b1 b2 i h h1 h2 e
  cases e
  exact zd_0 (op := 60) h rfl rfl rfl
theorem zd_61 : zdP (61, 0, fun b1 b2 => some (.istore_n 2)) := by
  intro code pc b1 b2 i h h1 h2 e
  cases e
  exact zd_0 (op := 61) h rfl rfl rfl
theorem zd_62 : zdP (62, 0, fun b1 b2 => some (.istore_n 3)) := by
  intro code pc b1 b2 i h h1 h2 e
  cases e
  exact zd_0 (op := 62) h rfl rfl rfl
theorem zd_63 : zdP (63, 0, fun b1 b2 => some (.lstore_n 0)) := by
  intro code pc b1 b2 i h h1 h2 e
  cases e
  exact zd_0 (op := 63) h rfl rfl rfl
theorem zd_64 : zdP (64, 0, fun b1 b2 => some (.lstore_n 1)) := by
  intro code pc b1 b2 i h h1 h2 e
  cases e
  exact zd_0 (op := 64) h rfl rfl rfl
theorem zd_65 : zdP (65, 0, fun b1 b2 => some (.lstore_n 2)) := by
  intro code pc b1 b2 i h h1 h2 e
  cases e
  exact zd_0 (op := 65) h rfl rfl rfl
theorem zd_66 : zdP (66, 0, fun b1 b2 => some (.lstore_n 3)) := by
  intro code pc b1 b2 i h h1 h2 e
  cases e
  exact zd_0 (op := 66) h rfl rfl rfl
theorem zd_75 : zdP (75, 0, fun b1 b2 => some (.astore_n 0)) := by
  intro code pc b1 b2 i h h1 h2 e
  cases e
  exact zd_0 (op := 75) h rfl rfl rfl
theorem zd_76 : zdP (76, 0, fun b1 b2 => some (.astore_n 1)) := by
  intro code pc b1 b2 i h h1 h2 e
  cases e
  exact zd_0 (op := 76) h rfl rfl rfl
theorem zd_77 : zdP (77, 0, fun b1 b2 => some (.astore_n 2)) := by
  intro code pc b1 b2 i h h1 h2 e
  cases e
  exact zd_0 (op := 77) h rfl rfl rfl
theorem zd_78 : zdP (78, 0, fun b1 b2 => some (.astore_n 3)) := by
  intro code pc b1 b2 i h h1 h2 e
  cases e
  exact zd_0 (op := 78) h rfl rfl rfl
theorem zd_79 : zdP (79, 0, fun b1 b2 => some (.iastore)) := by
  intro code pc b1 b2 i h h1 h2 e
  cases e
  exact zd_0 (op := 79) h rfl rfl rfl
theorem zd_83 : zdP (83, 0, fun b1 b2 => some (.aastore)) := by
  intro code pc b1 b2 i h h1 h2 e
  cases e
  exact zd_0 (op := 83) h rfl rfl rfl
theorem zd_84 : zdP (84, 0, fun b1 b2 => some (.bastore)) := by
  intro code pc b1 b2 i h h1 h2 e
  cases e
  exact zd_0 (op := 84) h rfl rfl rfl
theorem zd_87 : zdP (87, 0, fun b1 b2 => some (.pop)) := by
  intro code pc b1 b2 i h h1 h2 e
  cases e
  exact zd_0 (op := 87) h rfl rfl rfl
theorem zd_89 : zdP (89, 0, fun b1 b2 => some (.dup)) := by
  intro code pc b1 b2 i h h1 h2 e
  cases e
  exact zd_0 (op := 89) h rfl rfl rfl
theorem zd_92 : zdP (92, 0, fun b1 b2 => some (.dup2)) := by
  intro code pc b1 b2 i h h1 h2 e
  cases e
  exact zd_0 (op := 92) h rfl rfl rfl
theorem zd_96 : zdP (96, 0, fun b1 b2 => some (.iadd)) := by
  intro code pc b1 b2 i h h1 h2 e
  cases e
  exact zd_0 (op := 96) h rfl rfl rfl
theorem zd_97 : zdP (97, 0, fun b1 b2 => some (.ladd)) := by
  intro code pc b1 b2 i h h1 h2 e
  cases e
  exact zd_0 (op := 97) h rfl rfl rfl
theorem zd_100 : zdP (100, 0, fun b1 b2 => some (.isub)) := by
  intro code pc b1 b2 i h h1 h2 e
  cases e
  exact zd_0 (op := 100) h rfl rfl rfl
theorem zd_101 : zdP (101, 0, fun b1 b2 => some (.lsub)) := by
  intro code pc b1 b2 i h h1 h2 e
  cases e
  exact zd_0 (op := 101) h rfl rfl rfl
theorem zd_104 : zdP (104, 0, fun b1 b2 => some (.imul)) := by
  intro code pc b1 b2 i h h1 h2 e
  cases e
  exact zd_0 (op := 104) h rfl rfl rfl
theorem zd_105 : zdP (105, 0, fun b1 b2 => some (.lmul)) := by
  intro code pc b1 b2 i h h1 h2 e
  cases e
  exact zd_0 (op := 105) h rfl rfl rfl
theorem zd_108 : zdP (108, 0, fun b1 b2 => some (.idiv)) := by
  intro code pc b1 b2 i h h1 h2 e
  cases e
  exact zd_0 (op := 108) h rfl rfl rfl
theorem zd_109 : zdP (109, 0, fun b1 b2 => some (.ldiv)) := by
  intro code pc b1 b2 i h h1 h2 e
  cases e
  exact zd_0 (op := 109) h rfl rfl rfl
theorem zd_112 : zdP (112, 0, fun b1 b2 => some (.irem)) := by
  intro code pc b1 b2 i h h1 h2 e
  cases e
  exact zd_0 (op := 112) h rfl rfl rfl
theorem zd_113 : zdP (113, 0, fun b1 b2 => some (.lrem)) := by
  intro code pc b1 b2 i h h1 h2 e
  cases e
  exact zd_0 (op := 113) h rfl rfl rfl
theorem zd_116 : zdP (116, 0, fun b1 b2 => some (.ineg)) := by
  intro code pc b1 b2 i h h1 h2 e
  cases e
  exact zd_0 (op := 116) h rfl rfl rfl
theorem zd_120 : zdP (120, 0, fun b1 b2 => some (.ishl)) := by
  intro code pc b1 b2 i h h1 h2 e
  cases e
  exact zd_0 (op := 120) h rfl rfl rfl
theorem zd_122 : zdP (122, 0, fun b1 b2 => some (.ishr)) := by
  intro code pc b1 b2 i h h1 h2 e
  cases e
  exact zd_0 (op := 122) h rfl rfl rfl
theorem zd_124 : zdP (124, 0, fun b1 b2 => some (.iushr)) := by
  intro code pc b1 b2 i h h1 h2 e
  cases e
  exact zd_0 (op := 124) h rfl rfl rfl
theorem zd_126 : zdP (126, 0, fun b1 b2 => some (.iand)) := by
  intro code pc b1 b2 i h h1 h2 e
  cases e
  exact zd_0 (op := 126) h rfl rfl rfl
theorem zd_128 : zdP (128, 0, fun b1 b2 => some (.ior)) := by
  intro code pc b1 b2 i h h1 h2 e
  cases e
  exact zd_0 (op := 128) h rfl rfl rfl
theorem zd_130 : zdP (130, 0, fun b1 b2 => some (.ixor)) := by
  intro code pc b1 b2 i h h1 h2 e
  cases e
  exact zd_0 (op := 130) h rfl rfl rfl
theorem zd_133 : zdP (133, 0, fun b1 b2 => some (.i2l)) := by
  intro code pc b1 b2 i h h1 h2 e
  cases e
  exact zd_0 (op := 133) h rfl rfl rfl
theorem zd_136 : zdP (136, 0, fun b1 b2 => some (.l2i)) := by
  intro code pc b1 b2 i h h1 h2 e
  cases e
  exact zd_0 (op := 136) h rfl rfl rfl
theorem zd_145 : zdP (145, 0, fun b1 b2 => some (.i2b)) := by
  intro code pc b1 b2 i h h1 h2 e
  cases e
  exact zd_0 (op := 145) h rfl rfl rfl
theorem zd_146 : zdP (146, 0, fun b1 b2 => some (.i2c)) := by
  intro code pc b1 b2 i h h1 h2 e
  cases e
  exact zd_0 (op := 146) h rfl rfl rfl
theorem zd_172 : zdP (172, 0, fun b1 b2 => some (.ireturn)) := by
  intro code pc b1 b2 i h h1 h2 e
  cases e
  exact zd_0 (op := 172) h rfl rfl rfl
theorem zd_176 : zdP (176, 0, fun b1 b2 => some (.areturn)) := by
  intro code pc b1 b2 i h h1 h2 e
  cases e
  exact zd_0 (op := 176) h rfl rfl rfl
theorem zd_177 : zdP (177, 0, fun b1 b2 => some (.return_)) := by
  intro code pc b1 b2 i h h1 h2 e
  cases e
  exact zd_0 (op := 177) h rfl rfl rfl
theorem zd_190 : zdP (190, 0, fun b1 b2 => some (.arraylength)) := by
  intro code pc b1 b2 i h h1 h2 e
  cases e
  exact zd_0 (op := 190) h rfl rfl rfl
theorem zd_191 : zdP (191, 0, fun b1 b2 => some (.athrow)) := by
  intro code pc b1 b2 i h h1 h2 e
  cases e
  exact zd_0 (op := 191) h rfl rfl rfl
theorem zd_18 : zdP (18, 1, fun b1 b2 => some (.ldc b1)) := by
  intro code pc b1 b2 i h h1 h2 e
  cases e
  refine zd_0 (op := 18) h rfl rfl ?_
  show Reader.runAt ((Reader.u1 : Decoder Nat) >>= fun x => Pure.pure (Instr.ldc x)) code (pc + 1) = _
  rw [zr_bind, zr_u1 (h1 (Nat.le_refl 1))]
  rfl
theorem zd_21 : zdP (21, 1, fun b1 b2 => some (.iload b1)) := by
  intro code pc b1 b2 i h h1 h2 e
  cases e
  refine zd_0 (op := 21) h rfl rfl ?_
  show Reader.runAt ((Reader.u1 : Decoder Nat) >>= fun x => Pure.pure (Instr.iload x)) code (pc + 1) = _
  rw [zr_bind, zr_u1 (h1 (Nat.le_refl 1))]
  rfl
theorem zd_25 : zdP (25, 1, fun b1 b2 => some (.aload b1)) := by
  intro code pc b1 b2 i h h1 h2 e
  cases e
  refine zd_0 (op := 25) h rfl rfl ?_
  show Reader.runAt ((Reader.u1 : Decoder Nat) >>= fun x => Pure.pure (Instr.aload x)) code (pc + 1) = _
  rw [zr_bind, zr_u1 (h1 (Nat.le_refl 1))]
  rfl
theorem zd_54 : zdP (54, 1, fun b1 b2 => some (.istore b1)) := by
  intro code pc b1 b2 i h h1 h2 e
  cases e
  refine zd_0 (op := 54) h rfl rfl ?_
  show Reader.runAt ((Reader.u1 : Decoder Nat) >>= fun x => Pure.pure (Instr.istore x)) code (pc + 1) = _
  rw [zr_bind, zr_u1 (h1 (Nat.le_refl 1))]
  rfl
theorem zd_58 : zdP (58, 1, fun b1 b2 => some (.astore b1)) := by
  intro code pc b1 b2 i h h1 h2 e
  cases e
  refine zd_0 (op := 58) h rfl rfl ?_
  show Reader.runAt ((Reader.u1 : Decoder Nat) >>= fun x => Pure.pure (Instr.astore x)) code (pc + 1) = _
  rw [zr_bind, zr_u1 (h1 (Nat.le_refl 1))]
  rfl
theorem zd_16 : zdP (16, 1, fun b1 b2 => some (.bipush (Reader.signed 8 b1))) := by
  intro code pc b1 b2 i h h1 h2 e
  cases e
  refine zd_0 (op := 16) h rfl rfl ?_
  show Reader.runAt ((Reader.s1 : Decoder Int) >>= fun x => Pure.pure (Instr.bipush x)) code (pc + 1) = _
  rw [zr_bind, zr_s1 (h1 (Nat.le_refl 1))]
  rfl
theorem zd_19 : zdP (19, 2, fun b1 b2 => some (.ldc_w (b1 * 256 + b2))) := by
  intro code pc b1 b2 i h h1 h2 e
  cases e
  refine zd_0 (op := 19) h rfl rfl ?_
  show Reader.runAt ((Reader.u2 : Decoder Nat) >>= fun x => Pure.pure (Instr.ldc_w x)) code (pc + 1) = _
  rw [zr_bind, zr_u2 (h1 (by decide)) (h2 (Nat.le_refl 2))]
  rfl
theorem zd_20 : zdP (20, 2, fun b1 b2 => some (.ldc2_w (b1 * 256 + b2))) := by
  intro code pc b1 b2 i h h1 h2 e
  cases e
  refine zd_0 (op := 20) h rfl rfl ?_
  show Reader.runAt ((Reader.u2 : Decoder Nat) >>= fun x => Pure.pure (Instr.ldc2_w x)) code (pc + 1) = _
  rw [zr_bind, zr_u2 (h1 (by decide)) (h2 (Nat.le_refl 2))]
  rfl
theorem zd_178 : zdP (178, 2, fun b1 b2 => some (.getstatic (b1 * 256 + b2))) := by
  intro code pc b1 b2 i h h1 h2 e
  cases e
  refine zd_0 (op := 178) h rfl rfl ?_
  show Reader.runAt ((Reader.u2 : Decoder Nat) >>= fun x => Pure.pure (Instr.getstatic x)) code (pc + 1) = _
  rw [zr_bind, zr_u2 (h1 (by decide)) (h2 (Nat.le_refl 2))]
  rfl
theorem zd_180 : zdP (180, 2, fun b1 b2 => some (.getfield (b1 * 256 + b2))) := by
  intro code pc b1 b2 i h h1 h2 e
  cases e
  refine zd_0 (op := 180) h rfl rfl ?_
  show Reader.runAt ((Reader.u2 : Decoder Nat) >>= fun x => Pure.pure (Instr.getfield x)) code (pc + 1) = _
  rw [zr_bind, zr_u2 (h1 (by decide)) (h2 (Nat.le_refl 2))]
  rfl
theorem zd_181 : zdP (181, 2, fun b1 b2 => some (.putfield (b1 * 256 + b2))) := by
  intro code pc b1 b2 i h h1 h2 e
  cases e
  refine zd_0 (op := 181) h rfl rfl ?_
  show Reader.runAt ((Reader.u2 : Decoder Nat) >>= fun x => Pure.pure (Instr.putfield x)) code (pc + 1) = _
  rw [zr_bind, zr_u2 (h1 (by decide)) (h2 (Nat.le_refl 2))]
  rfl
theorem zd_182 : zdP (182, 2, fun b1 b2 => some (.invokevirtual (b1 * 256 + b2))) := by
  intro code pc b1 b2 i h h1 h2 e
  cases e
  refine zd_0 (op := 182) h rfl rfl ?_
  show Reader.runAt ((Reader.u2 : Decoder Nat) >>= fun x => Pure.pure (Instr.invokevirtual x)) code (pc + 1) = _
  rw [zr_bind, zr_u2 (h1 (by decide)) (h2 (Nat.le_refl 2))]
  rfl
theorem zd_183 : zdP (183, 2, fun b1 b2 => some (.invokespecial (b1 * 256 + b2))) := by
  intro code pc b1 b2 i h h1 h2 e
  cases e
  refine zd_0 (op := 183) h rfl rfl ?_
  show Reader.runAt ((Reader.u2 : Decoder Nat) >>= fun x => Pure.pure (Instr.invokespecial x)) code (pc + 1) = _
  rw [zr_bind, zr_u2 (h1 (by decide)) (h2 (Nat.le_refl 2))]
  rfl
theorem zd_184 : zdP (184, 2, fun b1 b2 => some (.invokestatic (b1 * 256 + b2))) := by
  intro code pc b1 b2 i h h1 h2 e
  cases e
  refine zd_0 (op := 184) h rfl rfl ?_
  show Reader.runAt ((Reader.u2 : Decoder Nat) >>= fun x => Pure.pure (Instr.invokestatic x)) code (pc + 1) = _
  rw [zr_bind, zr_u2 (h1 (by decide)) (h2 (Nat.le_refl 2))]
  rfl
theorem zd_187 : zdP (187, 2, fun b1 b2 => some (.new (b1 * 256 + b2))) := by
  intro code pc b1 b2 i h h1 h2 e
  cases e
  refine zd_0 (op := 187) h rfl rfl ?_
  show Reader.runAt ((Reader.u2 : Decoder Nat) >>= fun x => Pure.pure (Instr.new x)) code (pc + 1) = _
  rw [zr_bind, zr_u2 (h1 (by decide)) (h2 (Nat.le_refl 2))]
  rfl
theorem zd_189 : zdP (189, 2, fun b1 b2 => some (.anewarray (b1 * 256 + b2))) := by
  intro code pc b1 b2 i h h1 h2 e
  cases e
  refine zd_0 (op := 189) h rfl rfl ?_
  show Reader.runAt ((Reader.u2 : Decoder Nat) >>= fun x => Pure.pure (Instr.anewarray x)) code (pc + 1) = _
  rw [zr_bind, zr_u2 (h1 (by decide)) (h2 (Nat.le_refl 2))]
  rfl
theorem zd_17 : zdP (17, 2, fun b1 b2 => some (.sipush (Reader.signed 16 (b1 * 256 + b2)))) := by
  intro code pc b1 b2 i h h1 h2 e
  cases e
  refine zd_0 (op := 17) h rfl rfl ?_
  show Reader.runAt ((Reader.s2 : Decoder Int) >>= fun x => Pure.pure (Instr.sipush x)) code (pc + 1) = _
  rw [zr_bind, zr_s2 (h1 (by decide)) (h2 (Nat.le_refl 2))]
  rfl
theorem zd_153 : zdP (153, 2, fun b1 b2 => some (.ifCond .eq (Reader.signed 16 (b1 * 256 + b2)))) := by
  intro code pc b1 b2 i h h1 h2 e
  cases e
  refine zd_0 (op := 153) h rfl rfl ?_
  show Reader.runAt ((Reader.s2 : Decoder Int) >>= fun x => Pure.pure (Instr.ifCond .eq x)) code (pc + 1) = _
  rw [zr_bind, zr_s2 (h1 (by decide)) (h2 (Nat.le_refl 2))]
  rfl
theorem zd_154 : zdP (154, 2, fun b1 b2 => some (.ifCond .ne (Reader.signed 16 (b1 * 256 + b2)))) := by
  intro code pc b1 b2 i h h1 h2 e
  cases e
  refine zd_0 (op := 154) h rfl rfl ?_
  show Reader.runAt ((Reader.s2 : Decoder Int) >>= fun x => Pure.pure (Instr.ifCond .ne x)) code (pc + 1) = _
  rw [zr_bind, zr_s2 (h1 (by decide)) (h2 (Nat.le_refl 2))]
  rfl
theorem zd_155 : zdP (155, 2, fun b1 b2 => some (.ifCond .lt (Reader.signed 16 (b1 * 256 + b2)))) := by
  intro code pc b1 b2 i h h1 h2 e
  cases e
  refine zd_0 (op := 155) h rfl rfl ?_
  show Reader.runAt ((Reader.s2 : Decoder Int) >>= fun x => Pure.pure (Instr.ifCond .lt x)) code (pc + 1) = _
  rw [zr_bind, zr_s2 (h1 (by decide)) (h2 (Nat.le_refl 2))]
  rfl
theorem zd_156 : zdP (156, 2, fun b1 b2 => some (.ifCond .ge (Reader.signed 16 (b1 * 256 + b2)))) := by
  intro code pc b1 b2 i h h1 h2 e
  cases e
  refine zd_0 (op := 156) h rfl rfl ?_
  show Reader.runAt ((Reader.s2 : Decoder Int) >>= fun x => Pure.pure (Instr.ifCond .ge x)) code (pc + 1) = _
  rw [zr_bind, zr_s2 (h1 (by decide)) (h2 (Nat.le_refl 2))]
  rfl
theorem zd_157 : zdP (157, 2, fun b1 b2 => some (.ifCond .gt (Reader.signed 16 (b1 * 256 + b2)))) := by
  intro code pc b1 b2 i h h1 h2 e
  cases e
  refine zd_0 (op := 157) h rfl rfl ?_
  show Reader.runAt ((Reader.s2 : Decoder Int) >>= fun x => Pure.pure (Instr.ifCond .gt x)) code (pc + 1) = _
  rw [zr_bind, zr_s2 (h1 (by decide)) (h2 (Nat.le_refl 2))]
  rfl
theorem zd_158 : zdP (158, 2, fun b1 b2 => some (.ifCond .le (Reader.signed 16 (b1 * 256 + b2)))) := by
  intro code pc b1 b2 i h h1 h2 e
  cases e
  refine zd_0 (op := 158) h rfl rfl ?_
  show Reader.runAt ((Reader.s2 : Decoder Int) >>= fun x => Pure.pure (Instr.ifCond .le x)) code (pc + 1) = _
  rw [zr_bind, zr_s2 (h1 (by decide)) (h2 (Nat.le_refl 2))]
  rfl
theorem zd_159 : zdP (159, 2, fun b1 b2 => some (.if_icmp .eq (Reader.signed 16 (b1 * 256 + b2)))) := by
  intro code pc b1 b2 i h h1 h2 e
  cases e
  refine zd_0 (op := 159) h rfl rfl ?_
  show Reader.runAt ((Reader.s2 : Decoder Int) >>= fun x => Pure.pure (Instr.if_icmp .eq x)) code (pc + 1) = _
  rw [zr_bind, zr_s2 (h1 (by decide)) (h2 (Nat.le_refl 2))]
  rfl
theorem zd_160 : zdP (160, 2, fun b1 b2 => some (.if_icmp .ne (Reader.signed 16 (b1 * 256 + b2)))) := by
  intro code pc b1 b2 i h h1 h2 e
  cases e
  refine zd_0 (op := 160) h rfl rfl ?_
  show Reader.runAt ((Reader.s2 : Decoder Int) >>= fun x => Pure.pure (Instr.if_icmp .ne x)) code (pc + 1) = _
  rw [zr_bind, zr_s2 (h1 (by decide)) (h2 (Nat.le_refl 2))]
  rfl
theorem zd_161 : zdP (161, 2, fun b1 b2 => some (.if_icmp .lt (Reader.signed 16 (b1 * 256 + b2)))) := by
  intro code pc b1 b2 i h h1 h2 e
  cases e
  refine zd_0 (op := 161) h rfl rfl ?_
  show Reader.runAt ((Reader.s2 : Decoder Int) >>= fun x => Pure.pure (Instr.if_icmp .lt x)) code (pc + 1) = _
  rw [zr_bind, zr_s2 (h1 (by decide)) (h2 (Nat.le_refl 2))]
  rfl
theorem zd_162 : zdP (162, 2, fun b1 b2 => some (.if_icmp .ge (Reader.signed 16 (b1 * 256 + b2)))) := by
  intro code pc b1 b2 i h h1 h2 e
  cases e
  refine zd_0 (op := 162) h rfl rfl ?_
  show Reader.runAt ((Reader.s2 : Decoder Int) >>= fun x => Pure.pure (Instr.if_icmp .ge x)) code (pc + 1) = _
  rw [zr_bind, zr_s2 (h1 (by decide)) (h2 (Nat.le_refl 2))]
  rfl
theorem zd_163 : zdP (163, 2, fun b1 b2 => some (.if_icmp .gt (Reader.signed 16 (b1 * 256 + b2)))) := by
  intro code pc b1 b2 i h h1 h2 e
  cases e
  refine zd_0 (op := 163) h rfl rfl ?_
  show Reader.runAt ((Reader.s2 : Decoder Int) >>= fun x => Pure.pure (Instr.if_icmp .gt x)) code (pc + 1) = _
  rw [zr_bind, zr_s2 (h1 (by decide)) (h2 (Nat.le_refl 2))]
  rfl
theorem zd_164 : zdP (164, 2, fun b1 b2 => some (.if_icmp .le (Reader.signed 16 (b1 * 256 + b2)))) := by
  intro code pc b1 b2 i h h1 h2 e
  cases e
  refine zd_0 (op := 164) h rfl rfl ?_
  show Reader.runAt ((Reader.s2 : Decoder Int) >>= fun x => Pure.pure (Instr.if_icmp .le x)) code (pc + 1) = _
  rw [zr_bind, zr_s2 (h1 (by decide)) (h2 (Nat.le_refl 2))]
  rfl
theorem zd_167 : zdP (167, 2, fun b1 b2 => some (.goto (Reader.signed 16 (b1 * 256 + b2)))) := by
  intro code pc b1 b2 i h h1 h2 e
  cases e
  refine zd_0 (op := 167) h rfl rfl ?_
  show Reader.runAt ((Reader.s2 : Decoder Int) >>= fun x => Pure.pure (Instr.goto x)) code (pc + 1) = _
  rw [zr_bind, zr_s2 (h1 (by decide)) (h2 (Nat.le_refl 2))]
  rfl
theorem zd_132 : zdP (132, 2, fun b1 b2 => some (.iinc b1 (Reader.signed 8 b2))) := by
  intro code pc b1 b2 i h h1 h2 e
  cases e
  refine zd_0 (op := 132) h rfl rfl ?_
  show Reader.runAt ((Reader.u1 : Decoder Nat) >>= fun x => (Reader.s1 : Decoder Int) >>= fun y => Pure.pure (Instr.iinc x y)) code (pc + 1) = _
  rw [zr_bind, zr_u1 (h1 (by decide))]
  show Reader.runAt ((Reader.s1 : Decoder Int) >>= fun y => Pure.pure (Instr.iinc b1.toNat y)) code (pc + 1 + 1) = _
  rw [zr_bind, zr_s1 (h2 (Nat.le_refl 2))]
  rfl
theorem zd_188 : zdP (188, 1, fun b1 b2 => (if b1 = 10 then some (.newarray .int) else if b1 = 8 then some (.newarray .byte) else none)) := by
  intro code pc b1 b2 i h h1 h2 e
  refine zd_0 (op := 188) h rfl rfl ?_
  show Reader.runAt (Decoder.newarray pc) code (pc + 1) = _
  unfold Decoder.newarray
  rw [zr_bind, zr_u1 (h1 (Nat.le_refl 1))]
  dsimp only at e
  by_cases c1 : b1.toNat = 10
  · rw [if_pos c1] at e
    cases e
    rw [c1]
    rfl
  · rw [if_neg c1] at e
    by_cases c2 : b1.toNat = 8
    · rw [if_pos c2] at e
      cases e
      rw [c2]
      rfl
    · rw [if_neg c2] at e
      cases e
def zents : List (Nat × Nat × (Nat → Nat → Option Instr)) := [(2, 0, fun b1 b2 => some (.iconst (-1))), (3, 0, fun b1 b2 => some (.iconst 0)), (4, 0, fun b1 b2 => some (.iconst 1)), (5, 0, fun b1 b2 => some (.iconst 2)), (6, 0, fun b1 b2 => some (.iconst 3)), (7, 0, fun b1 b2 => some (.iconst 4)), (8, 0, fun b1 b2 => some (.iconst 5)), (9, 0, fun b1 b2 => some (.lconst 0)), (10, 0, fun b1 b2 => some (.lconst 1)), (16, 1, fun b1 b2 => some (.bipush (Reader.signed 8 b1))), (17, 2, fun b1 b2 => some (.sipush (Reader.signed 16 (b1 * 256 + b2)))), (18, 1, fun b1 b2 => some (.ldc b1)), (19, 2, fun b1 b2 => some (.ldc_w (b1 * 256 + b2))), (20, 2, fun b1 b2 => some (.ldc2_w (b1 * 256 + b2))), (21, 1, fun b1 b2 => some (.iload b1)), (25, 1, fun b1 b2 => some (.aload b1)), (26, 0, fun b1 b2 => some (.iload_n 0)), (27, 0, fun b1 b2 => some (.iload_n 1)), (28, 0, fun b1 b2 => some (.iload_n 2)), (29, 0, fun b1 b2 => some (.iload_n 3)), (30, 0, fun b1 b2 => some (.lload_n 0)), (31, 0, fun b1 b2 => some (.lload_n 1)), (32, 0, fun b1 b2 => some (.lload_n 2)), (33, 0, fun b1 b2 => some (.lload_n 3)), (42, 0, fun b1 b2 => some (.aload_n 0)), (43, 0, fun b1 b2 => some (.aload_n 1)), (44, 0, fun b1 b2 => some (.aload_n 2)), (45, 0, fun b1 b2 => some (.aload_n 3)), (46, 0, fun b1 b2 => some (.iaload)), (50, 0, fun b1 b2 => some (.aaload)), (51, 0, fun b1 b2 => some (.baload)), (54, 1, fun b1 b2 => some (.istore b1)), (58, 1, fun b1 b2 => some (.astore b1)), (59, 0, fun b1 b2 => some (.istore_n 0)), (60, 0, fun b1 b2 => some (.istore_n 1)), (61, 0, fun b1 b2 => some (.istore_n 2)), (62, 0, fun b1 b2 => some (.istore_n 3)), (63, 0, fun b1 b2 => some (.lstore_n 0)), (64, 0, fun b1 b2 => some (.lstore_n 1)), (65, 0, fun b1 b2 => some (.lstore_n 2)), (66, 0, fun b1 b2 => some (.lstore_n 3)), (75, 0, fun b1 b2 => some (.astore_n 0)), (76, 0, fun b1 b2 => some (.astore_n 1)), (77, 0, fun b1 b2 => some (.astore_n 2)), (78, 0, fun b1 b2 => some (.astore_n 3)), (79, 0, fun b1 b2 => some (.iastore)), (83, 0, fun b1 b2 => some (.aastore)), (84, 0, fun b1 b2 => some (.bastore)), (87, 0, fun b1 b2 => some (.pop)), (89, 0, fun b1 b2 => some (.dup)), (92, 0, fun b1 b2 => some (.dup2)), (96, 0, fun b1 b2 => some (.iadd)), (97, 0, fun b1 b2 => some (.ladd)), (100, 0, fun b1 b2 => some (.isub)), (101, 0, fun b1 b2 => some (.lsub)), (104, 0, fun b1 b2 => some (.imul)), (105, 0, fun b1 b2 => some (.lmul)), (108, 0, fun b1 b2 => some (.idiv)), (109, 0, fun b1 b2 => some (.ldiv)), (112, 0, fun b1 b2 => some (.irem)), (113, 0, fun b1 b2 => some (.lrem)), (116, 0, fun b1 b2 => some (.ineg)), (120, 0, fun b1 b2 => some (.ishl)), (122, 0, fun b1 b2 => some (.ishr)), (124, 0, fun b1 b2 => some (.iushr)), (126, 0, fun b1 b2 => some (.iand)), (128, 0, fun b1 b2 => some (.ior)), (130, 0, fun b1 b2 => some (.ixor)), (132, 2, fun b1 b2 => some (.iinc b1 (Reader.signed 8 b2))), (133, 0, fun b1 b2 => some (.i2l)), (136, 0, fun b1 b2 => some (.l2i)), (145, 0, fun b1 b2 => some (.i2b)), (146, 0, fun b1 b2 => some (.i2c)), (153, 2, fun b1 b2 => some (.ifCond .eq (Reader.signed 16 (b1 * 256 + b2)))), (154, 2, fun b1 b2 => some (.ifCond .ne (Reader.signed 16 (b1 * 256 + b2)))), (155, 2, fun b1 b2 => some (.ifCond .lt (Reader.signed 16 (b1 * 256 + b2)))), (156, 2, fun b1 b2 => some (.ifCond .ge (Reader.signed 16 (b1 * 256 + b2)))), (157, 2, fun b1 b2 => some (.ifCond .gt (Reader.signed 16 (b1 * 256 + b2)))), (158, 2, fun b1 b2 => some (.ifCond .le (Reader.signed 16 (b1 * 256 + b2)))), (159, 2, fun b1 b2 => some (.if_icmp .eq (Reader.signed 16 (b1 * 256 + b2)))), (160, 2, fun b1 b2 => some (.if_icmp .ne (Reader.signed 16 (b1 * 256 + b2)))), (161, 2, fun b1 b2 => some (.if_icmp .lt (Reader.signed 16 (b1 * 256 + b2)))), (162, 2, fun b1 b2 => some (.if_icmp .ge (Reader.signed 16 (b1 * 256 + b2)))), (163, 2, fun b1 b2 => some (.if_icmp .gt (Reader.signed 16 (b1 * 256 + b2)))), (164, 2, fun b1 b2 => some (.if_icmp .le (Reader.signed 16 (b1 * 256 + b2)))), (167, 2, fun b1 b2 => some (.goto (Reader.signed 16 (b1 * 256 + b2)))), (172, 0, fun b1 b2 => some (.ireturn)), (176, 0, fun b1 b2 => some (.areturn)), (177, 0, fun b1 b2 => some (.return_)), (178, 2, fun b1 b2 => some (.getstatic (b1 * 256 + b2))), (180, 2, fun b1 b2 => some (.getfield (b1 * 256 + b2))), (181, 2, fun b1 b2 => some (.putfield (b1 * 256 + b2))), (182, 2, fun b1 b2 => some (.invokevirtual (b1 * 256 + b2))), (183, 2, fun b1 b2 => some (.invokespecial (b1 * 256 + b2))), (184, 2, fun b1 b2 => some (.invokestatic (b1 * 256 + b2))), (187, 2, fun b1 b2 => some (.new (b1 * 256 + b2))), (188, 1, fun b1 b2 => (if b1 = 10 then some (.newarray .int) else if b1 = 8 then some (.newarray .byte) else none)), (189, 2, fun b1 b2 => some (.anewarray (b1 * 256 + b2))), (190, 0, fun b1 b2 => some (.arraylength)), (191, 0, fun b1 b2 => some (.athrow))]
theorem zents_ok : ∀ e ∈ zents, zdP e := List.forall_mem_cons.mpr ⟨zd_2, List.forall_mem_cons.mpr ⟨zd_3, List.forall_mem_cons.mpr ⟨zd_4, List.forall_mem_cons.mpr ⟨zd_5, List.forall_mem_cons.mpr ⟨zd_6, List.forall_mem_cons.mpr ⟨zd_7, List.forall_mem_cons.mpr ⟨zd_8, List.forall_mem_cons.mpr ⟨zd_9, List.forall_mem_cons.mpr ⟨zd_10, List.forall_mem_cons.mpr ⟨zd_16, List.forall_mem_cons.mpr ⟨zd_17, List.forall_mem_cons.mpr ⟨zd_18, List.forall_mem_cons.mpr ⟨zd_19, List.forall_mem_cons.mpr ⟨zd_20, List.forall_mem_cons.mpr ⟨zd_21, List.forall_mem_cons.mpr ⟨zd_25, List.forall_mem_cons.mpr ⟨zd_26, List.forall_mem_cons.mpr ⟨zd_27, List.forall_mem_cons.mpr ⟨zd_28, List.forall_mem_cons.mpr ⟨zd_29, List.forall_mem_cons.mpr ⟨zd_30, List.forall_mem_cons.mpr ⟨zd_31, List.forall_mem_cons.mpr ⟨zd_32, List.forall_mem_cons.mpr ⟨zd_33, List.forall_mem_cons.mpr ⟨zd_42, List.forall_mem_cons.mpr ⟨zd_43, List.forall_mem_cons.mpr ⟨zd_44, List.forall_mem_cons.mpr ⟨zd_45, List.forall_mem_cons.mpr ⟨zd_46, List.forall_mem_cons.mpr ⟨zd_50, List.forall_mem_cons.mpr ⟨zd_51, List.forall_mem_cons.mpr ⟨zd_54, List.forall_mem_cons.mpr ⟨zd_58, List.forall_mem_cons.mpr ⟨zd_59, List.forall_mem_cons.mpr ⟨zd_60, List.forall_mem_cons.mpr ⟨zd_61, List.forall_mem_cons.mpr ⟨zd_62, List.forall_mem_cons.mpr ⟨zd_63, List.forall_mem_cons.mpr ⟨zd_64, List.forall_mem_cons.mpr ⟨zd_65, List.forall_mem_cons.mpr ⟨zd_66, List.forall_mem_cons.mpr ⟨zd_75, List.forall_mem_cons.mpr ⟨zd_76, List.forall_mem_cons.mpr ⟨zd_77, List.forall_mem_cons.mpr ⟨zd_78, List.forall_mem_cons.mpr ⟨zd_79, List.forall_mem_cons.mpr ⟨zd_83, List.forall_mem_cons.mpr ⟨zd_84, List.forall_mem_cons.mpr ⟨zd_87, List.forall_mem_cons.mpr ⟨zd_89, List.forall_mem_cons.mpr ⟨zd_92, List.forall_mem_cons.mpr ⟨zd_96, List.forall_mem_cons.mpr ⟨zd_97, List.forall_mem_cons.mpr ⟨zd_100, List.forall_mem_cons.mpr ⟨zd_101, List.forall_mem_cons.mpr ⟨zd_104, List.forall_mem_cons.mpr ⟨zd_105, List.forall_mem_cons.mpr ⟨zd_108, List.forall_mem_cons.mpr ⟨zd_109, List.forall_mem_cons.mpr ⟨zd_112, List.forall_mem_cons.mpr ⟨zd_113, List.forall_mem_cons.mpr ⟨zd_116, List.forall_mem_cons.mpr ⟨zd_120, List.forall_mem_cons.mpr ⟨zd_122, List.forall_mem_cons.mpr ⟨zd_124, List.forall_mem_cons.mpr ⟨zd_126, List.forall_mem_cons.mpr ⟨zd_128, List.forall_mem_cons.mpr ⟨zd_130, List.forall_mem_cons.mpr ⟨zd_132, List.forall_mem_cons.mpr ⟨zd_133, List.forall_mem_cons.mpr ⟨zd_136, List.forall_mem_cons.mpr ⟨zd_145, List.forall_mem_cons.mpr ⟨zd_146, List.forall_mem_cons.mpr ⟨zd_153, List.forall_mem_cons.mpr ⟨zd_154, List.forall_mem_cons.mpr ⟨zd_155, List.forall_mem_cons.mpr ⟨zd_156, List.forall_mem_cons.mpr ⟨zd_157, List.forall_mem_cons.mpr ⟨zd_158, List.forall_mem_cons.mpr ⟨zd_159, List.forall_mem_cons.mpr ⟨zd_160, List.forall_mem_cons.mpr ⟨zd_161, List.forall_mem_cons.mpr ⟨zd_162, List.forall_mem_cons.mpr ⟨zd_163, List.forall_mem_cons.mpr ⟨zd_164, List.forall_mem_cons.mpr ⟨zd_167, List.forall_mem_cons.mpr ⟨zd_172, List.forall_mem_cons.mpr ⟨zd_176, List.forall_mem_cons.mpr ⟨zd_177, List.forall_mem_cons.mpr ⟨zd_178, List.forall_mem_cons.mpr ⟨zd_180, List.forall_mem_cons.mpr ⟨zd_181, List.forall_mem_cons.mpr ⟨zd_182, List.forall_mem_cons.mpr ⟨zd_183, List.forall_mem_cons.mpr ⟨zd_184, List.forall_mem_cons.mpr ⟨zd_187, List.forall_mem_cons.mpr ⟨zd_188, List.forall_mem_cons.mpr ⟨zd_189, List.forall_mem_cons.mpr ⟨zd_190, List.forall_mem_cons.mpr ⟨zd_191, fun _ h => absurd h List.not_mem_nil⟩⟩⟩⟩⟩⟩⟩⟩⟩⟩⟩⟩⟩⟩⟩⟩⟩⟩⟩⟩⟩⟩⟩⟩⟩⟩⟩⟩⟩⟩⟩⟩⟩⟩⟩⟩⟩⟩⟩⟩⟩⟩⟩⟩⟩⟩⟩⟩⟩⟩⟩⟩⟩⟩⟩⟩⟩⟩⟩⟩⟩⟩⟩⟩⟩⟩⟩⟩⟩⟩⟩⟩⟩⟩⟩⟩⟩⟩⟩⟩⟩⟩⟩⟩⟩⟩⟩⟩⟩⟩⟩⟩⟩⟩⟩⟩⟩⟩⟩⟩
def zfd (l : List UInt8) : Option (Instr × Nat) := match l with
  | [] => none
  | b :: r => match zents.find? (fun e => Nat.beq e.1 b.toNat) with
    | none => none
    | some e => match e.2.2 (r.headD 0).toNat ((r.drop 1).headD 0).toNat with
      | none => none
      | some i => if Nat.ble e.2.1 r.length then some (i, e.2.1 + 1) else none
theorem zga (l : List UInt8) (i : Nat) : (ByteArray.mk ⟨l⟩)[i]? = l[i]? := by
  by_cases h : i < l.length
  · rw [getElem?_pos (ByteArray.mk ⟨l⟩) i h, List.getElem?_eq_getElem h]
    rfl
  · rw [getElem?_neg (ByteArray.mk ⟨l⟩) i h, List.getElem?_eq_none (Nat.not_lt.mp h)]
theorem zfd_ok {l : List UInt8} {pc : Nat} {i : Instr} {w : Nat} (h : zfd (l.drop pc) = some (i, w)) : decode (ByteArray.mk ⟨l⟩) pc = .ok (i, w) := by
  cases hl : l.drop pc with
  | nil => rw [hl] at h; cases h
  | cons b r =>
    rw [hl] at h
    have g0 : l[pc]? = some b := by
      have := List.getElem?_drop (xs := l) (i := pc) (j := 0)
      rw [hl] at this
      simpa using this.symm
    have gk : ∀ k, l[pc + (k + 1)]? = r[k]? := fun k => by
      have := List.getElem?_drop (xs := l) (i := pc) (j := k + 1)
      rw [hl] at this
      simpa using this.symm
    unfold zfd at h
    simp only at h
    split at h
    · cases h
    · next e he =>
      split at h
      · cases h
      · next i' hi =>
        split at h
        · next hle =>
          cases h
          have hm := List.mem_of_find?_eq_some he
          have hb := List.find?_some he
          have hb2 : e.1 = b.toNat := Nat.eq_of_beq_eq_true hb
          have hle := Nat.le_of_ble_eq_true hle
          refine zents_ok e hm (ByteArray.mk ⟨l⟩) pc (r.headD 0) ((r.drop 1).headD 0) i ?_ ?_ ?_ hi
          · rw [zga, g0, hb2]
            simp
          · intro q
            rw [zga, gk 0]
            cases r with
            | nil => simp at hle; omega
            | cons x r => rfl
          · intro q
            rw [zga, gk 1]
            cases r with
            | nil => simp at hle; omega
            | cons x r =>
              cases r with
              | nil => simp at hle; omega
              | cons y r => rfl
        · cases h
def zsw (i : Instr) : Bool := match i with
  | .tableswitch _ _ _ _ => true
  | .lookupswitch _ _ => true
  | _ => false
def zchk : Nat → List UInt8 → List (Nat × Instr × Nat) → Bool
  | _, _, [] => true
  | pc, l, q :: t => Nat.beq q.1 pc && (zsw q.2.1 || decide (zfd l = some q.2)) && zchk (pc + q.2.2) (l.drop q.2.2) t
theorem zchk_ok {l : List UInt8} : ∀ (t : List (Nat × Instr × Nat)) (pc : Nat), zchk pc (l.drop pc) t = true → ∀ q ∈ t, zsw q.2.1 = false → decode (ByteArray.mk ⟨l⟩) q.1 = .ok q.2
  | [], _, _ => fun _ h => absurd h List.not_mem_nil
  | q :: t, pc, h => by
    unfold zchk at h
    rw [Bool.and_eq_true, Bool.and_eq_true] at h
    obtain ⟨⟨h1, h2⟩, h3⟩ := h
    rw [List.drop_drop] at h3
    have ih := zchk_ok t (pc + q.2.2) h3
    intro x hx hs
    rcases List.mem_cons.mp hx with rfl | hx
    · rw [hs, Bool.false_or] at h2
      rw [Nat.eq_of_beq_eq_true h1]
      exact zfd_ok (of_decide_eq_true h2)
    · exact ih x hx hs

