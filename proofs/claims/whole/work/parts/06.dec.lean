theorem dec_r1 {b : ByteArray} {p : Nat} (h : p < b.size) : (Reader.u1 : Decoder Nat) b p = .ok (b[p].toNat, p + 1) := by
  show ((if h : p < b.size then (do set (p + 1); pure b[p].toNat) else throw (HasTruncated.truncated p) : Decoder Nat)) b p = _
  rw [dif_pos h]
  rfl
theorem dec_r2 {b : ByteArray} {p : Nat} (h : p + 1 < b.size) : (Reader.u2 : Decoder Nat) b p = .ok (b[p].toNat * 256 + b[p + 1].toNat, p + 2) := by
  have h1 : p < b.size := by omega
  show ((Reader.u1 : Decoder Nat) b p).bind (fun z => ((Reader.u1 : Decoder Nat) b z.2).bind fun y => .ok (z.1 * 256 + y.1, y.2)) = _
  rw [dec_r1 h1]
  show ((Reader.u1 : Decoder Nat) b (p + 1)).bind (fun y => .ok (b[p].toNat * 256 + y.1, y.2)) = _
  rw [dec_r1 h]
  rfl
theorem dec_r3 {b : ByteArray} {p : Nat} (h : p < b.size) : (Reader.s1 : Decoder Int) b p = .ok (Reader.signed 8 b[p].toNat, p + 1) := by
  show ((Reader.u1 : Decoder Nat) b p).bind (fun z => .ok (Reader.signed 8 z.1, z.2)) = _
  rw [dec_r1 h]
  rfl
theorem dec_r4 {b : ByteArray} {p : Nat} (h : p + 1 < b.size) : (Reader.s2 : Decoder Int) b p = .ok (Reader.signed 16 (b[p].toNat * 256 + b[p + 1].toNat), p + 2) := by
  show ((Reader.u2 : Decoder Nat) b p).bind (fun z => .ok (Reader.signed 16 z.1, z.2)) = _
  rw [dec_r2 h]
  rfl
theorem dec_b {α β : Type} {x : Decoder α} {k : α → Decoder β} {b : ByteArray} {p q : Nat} {a : α} (h : x b p = .ok (a, q)) : (x >>= k) b p = k a b q := by
  show (x b p).bind (fun z => k z.1 b z.2) = _
  rw [h]
  rfl
theorem dec_of {b : ByteArray} {pc q n : Nat} {i : Instr} (h : Decoder.instr pc b pc = .ok (i, q)) (hn : q - pc = n) : decode b pc = .ok (i, n) := by
  subst hn
  show (Decoder.instr pc b pc).bind (fun z => .ok (z.1, z.2 - pc)) = _
  rw [h]
  rfl
/-- what is at a place of the bytes, out of what is left of them there -/
theorem dec_at {b : ByteArray} {pc : Nat} {x : UInt8} {r : List UInt8} (h : b.data.toList.drop pc = x :: r) : ∃ hs : pc < b.size, b[pc] = x ∧ b.data.toList.drop (pc + 1) = r := by
  have hl : pc < b.data.toList.length := by
    rcases Nat.lt_or_ge pc b.data.toList.length with q | q
    · exact q
    · rw [List.drop_eq_nil_of_le q] at h; cases h
  have hs : pc < b.size := by
    rw [Array.length_toList] at hl
    exact hl
  rw [List.drop_eq_getElem_cons hl] at h
  injection h with h1 h2
  refine ⟨hs, ?_, h2⟩
  rw [← h1]
  show b.data[pc] = _
  rw [Array.getElem_toList]
def mA1 (f : Nat → Instr) : List UInt8 → Option (Instr × Nat)
  | a :: _ => some (f a.toNat, 2)
  | _ => none
def mA2 (f : Nat → Instr) : List UInt8 → Option (Instr × Nat)
  | a :: c :: _ => some (f (a.toNat * 256 + c.toNat), 3)
  | _ => none
def mA3 : List UInt8 → Option (Instr × Nat)
  | a :: c :: _ => some (.iinc a.toNat (Reader.signed 8 c.toNat), 3)
  | _ => none
set_option maxRecDepth 20000 in
theorem dop_2 {b : ByteArray} {pc : Nat} (h : pc < b.size) (h0 : b[pc].toNat = 2) : decode b pc = .ok (.iconst (-1), 1) := dec_of (q := pc + 1) (by unfold Decoder.instr; rw [dec_b (dec_r1 h), h0]; rfl) (by omega)
set_option maxRecDepth 20000 in
theorem dop_3 {b : ByteArray} {pc : Nat} (h : pc < b.size) (h0 : b[pc].toNat = 3) : decode b pc = .ok (.iconst 0, 1) := dec_of (q := pc + 1) (by unfold Decoder.instr; rw [dec_b (dec_r1 h), h0]; rfl) (by omega)
set_option maxRecDepth 20000 in
theorem dop_4 {b : ByteArray} {pc : Nat} (h : pc < b.size) (h0 : b[pc].toNat = 4) : decode b pc = .ok (.iconst 1, 1) := dec_of (q := pc + 1) (by unfold Decoder.instr; rw [dec_b (dec_r1 h), h0]; rfl) (by omega)
set_option maxRecDepth 20000 in
theorem dop_5 {b : ByteArray} {pc : Nat} (h : pc < b.size) (h0 : b[pc].toNat = 5) : decode b pc = .ok (.iconst 2, 1) := dec_of (q := pc + 1) (by unfold Decoder.instr; rw [dec_b (dec_r1 h), h0]; rfl) (by omega)
set_option maxRecDepth 20000 in
theorem dop_6 {b : ByteArray} {pc : Nat} (h : pc < b.size) (h0 : b[pc].toNat = 6) : decode b pc = .ok (.iconst 3, 1) := dec_of (q := pc + 1) (by unfold Decoder.instr; rw [dec_b (dec_r1 h), h0]; rfl) (by omega)
set_option maxRecDepth 20000 in
theorem dop_7 {b : ByteArray} {pc : Nat} (h : pc < b.size) (h0 : b[pc].toNat = 7) : decode b pc = .ok (.iconst 4, 1) := dec_of (q := pc + 1) (by unfold Decoder.instr; rw [dec_b (dec_r1 h), h0]; rfl) (by omega)
set_option maxRecDepth 20000 in
theorem dop_8 {b : ByteArray} {pc : Nat} (h : pc < b.size) (h0 : b[pc].toNat = 8) : decode b pc = .ok (.iconst 5, 1) := dec_of (q := pc + 1) (by unfold Decoder.instr; rw [dec_b (dec_r1 h), h0]; rfl) (by omega)
set_option maxRecDepth 20000 in
theorem dop_9 {b : ByteArray} {pc : Nat} (h : pc < b.size) (h0 : b[pc].toNat = 9) : decode b pc = .ok (.lconst 0, 1) := dec_of (q := pc + 1) (by unfold Decoder.instr; rw [dec_b (dec_r1 h), h0]; rfl) (by omega)
set_option maxRecDepth 20000 in
theorem dop_10 {b : ByteArray} {pc : Nat} (h : pc < b.size) (h0 : b[pc].toNat = 10) : decode b pc = .ok (.lconst 1, 1) := dec_of (q := pc + 1) (by unfold Decoder.instr; rw [dec_b (dec_r1 h), h0]; rfl) (by omega)
set_option maxRecDepth 20000 in
theorem dop_16 {b : ByteArray} {pc : Nat} (h : pc + 1 < b.size) (h0 : b[pc].toNat = 16) : decode b pc = .ok (.bipush (Reader.signed 8 b[pc + 1].toNat), 2) := dec_of (q := pc + 2) (by unfold Decoder.instr; rw [dec_b (dec_r1 (by omega)), h0]; exact dec_b (dec_r3 h)) (by omega)
set_option maxRecDepth 20000 in
theorem dop_17 {b : ByteArray} {pc : Nat} (h : pc + 2 < b.size) (h0 : b[pc].toNat = 17) : decode b pc = .ok (.sipush (Reader.signed 16 (b[pc + 1].toNat * 256 + b[pc + 2].toNat)), 3) := dec_of (q := pc + 3) (by unfold Decoder.instr; rw [dec_b (dec_r1 (by omega)), h0]; exact dec_b (dec_r4 h)) (by omega)
set_option maxRecDepth 20000 in
theorem dop_18 {b : ByteArray} {pc : Nat} (h : pc + 1 < b.size) (h0 : b[pc].toNat = 18) : decode b pc = .ok (.ldc b[pc + 1].toNat, 2) := dec_of (q := pc + 2) (by unfold Decoder.instr; rw [dec_b (dec_r1 (by omega)), h0]; exact dec_b (dec_r1 h)) (by omega)
set_option maxRecDepth 20000 in
theorem dop_19 {b : ByteArray} {pc : Nat} (h : pc + 2 < b.size) (h0 : b[pc].toNat = 19) : decode b pc = .ok (.ldc_w (b[pc + 1].toNat * 256 + b[pc + 2].toNat), 3) := dec_of (q := pc + 3) (by unfold Decoder.instr; rw [dec_b (dec_r1 (by omega)), h0]; exact dec_b (dec_r2 h)) (by omega)
set_option maxRecDepth 20000 in
theorem dop_21 {b : ByteArray} {pc : Nat} (h : pc + 1 < b.size) (h0 : b[pc].toNat = 21) : decode b pc = .ok (.iload b[pc + 1].toNat, 2) := dec_of (q := pc + 2) (by unfold Decoder.instr; rw [dec_b (dec_r1 (by omega)), h0]; exact dec_b (dec_r1 h)) (by omega)
set_option maxRecDepth 20000 in
theorem dop_25 {b : ByteArray} {pc : Nat} (h : pc + 1 < b.size) (h0 : b[pc].toNat = 25) : decode b pc = .ok (.aload b[pc + 1].toNat, 2) := dec_of (q := pc + 2) (by unfold Decoder.instr; rw [dec_b (dec_r1 (by omega)), h0]; exact dec_b (dec_r1 h)) (by omega)
set_option maxRecDepth 20000 in
theorem dop_26 {b : ByteArray} {pc : Nat} (h : pc < b.size) (h0 : b[pc].toNat = 26) : decode b pc = .ok (.iload_n 0, 1) := dec_of (q := pc + 1) (by unfold Decoder.instr; rw [dec_b (dec_r1 h), h0]; rfl) (by omega)
set_option maxRecDepth 20000 in
theorem dop_27 {b : ByteArray} {pc : Nat} (h : pc < b.size) (h0 : b[pc].toNat = 27) : decode b pc = .ok (.iload_n 1, 1) := dec_of (q := pc + 1) (by unfold Decoder.instr; rw [dec_b (dec_r1 h), h0]; rfl) (by omega)
set_option maxRecDepth 20000 in
theorem dop_28 {b : ByteArray} {pc : Nat} (h : pc < b.size) (h0 : b[pc].toNat = 28) : decode b pc = .ok (.iload_n 2, 1) := dec_of (q := pc + 1) (by unfold Decoder.instr; rw [dec_b (dec_r1 h), h0]; rfl) (by omega)
set_option maxRecDepth 20000 in
theorem dop_29 {b : ByteArray} {pc : Nat} (h : pc < b.size) (h0 : b[pc].toNat = 29) : decode b pc = .ok (.iload_n 3, 1) := dec_of (q := pc + 1) (by unfold Decoder.instr; rw [dec_b (dec_r1 h), h0]; rfl) (by omega)
set_option maxRecDepth 20000 in
theorem dop_42 {b : ByteArray} {pc : Nat} (h : pc < b.size) (h0 : b[pc].toNat = 42) : decode b pc = .ok (.aload_n 0, 1) := dec_of (q := pc + 1) (by unfold Decoder.instr; rw [dec_b (dec_r1 h), h0]; rfl) (by omega)
set_option maxRecDepth 20000 in
theorem dop_43 {b : ByteArray} {pc : Nat} (h : pc < b.size) (h0 : b[pc].toNat = 43) : decode b pc = .ok (.aload_n 1, 1) := dec_of (q := pc + 1) (by unfold Decoder.instr; rw [dec_b (dec_r1 h), h0]; rfl) (by omega)
set_option maxRecDepth 20000 in
theorem dop_44 {b : ByteArray} {pc : Nat} (h : pc < b.size) (h0 : b[pc].toNat = 44) : decode b pc = .ok (.aload_n 2, 1) := dec_of (q := pc + 1) (by unfold Decoder.instr; rw [dec_b (dec_r1 h), h0]; rfl) (by omega)
set_option maxRecDepth 20000 in
theorem dop_45 {b : ByteArray} {pc : Nat} (h : pc < b.size) (h0 : b[pc].toNat = 45) : decode b pc = .ok (.aload_n 3, 1) := dec_of (q := pc + 1) (by unfold Decoder.instr; rw [dec_b (dec_r1 h), h0]; rfl) (by omega)
set_option maxRecDepth 20000 in
theorem dop_46 {b : ByteArray} {pc : Nat} (h : pc < b.size) (h0 : b[pc].toNat = 46) : decode b pc = .ok (.iaload, 1) := dec_of (q := pc + 1) (by unfold Decoder.instr; rw [dec_b (dec_r1 h), h0]; rfl) (by omega)
set_option maxRecDepth 20000 in
theorem dop_47 {b : ByteArray} {pc : Nat} (h : pc < b.size) (h0 : b[pc].toNat = 47) : decode b pc = .ok (.laload, 1) := dec_of (q := pc + 1) (by unfold Decoder.instr; rw [dec_b (dec_r1 h), h0]; rfl) (by omega)
set_option maxRecDepth 20000 in
theorem dop_50 {b : ByteArray} {pc : Nat} (h : pc < b.size) (h0 : b[pc].toNat = 50) : decode b pc = .ok (.aaload, 1) := dec_of (q := pc + 1) (by unfold Decoder.instr; rw [dec_b (dec_r1 h), h0]; rfl) (by omega)
set_option maxRecDepth 20000 in
theorem dop_51 {b : ByteArray} {pc : Nat} (h : pc < b.size) (h0 : b[pc].toNat = 51) : decode b pc = .ok (.baload, 1) := dec_of (q := pc + 1) (by unfold Decoder.instr; rw [dec_b (dec_r1 h), h0]; rfl) (by omega)
set_option maxRecDepth 20000 in
theorem dop_54 {b : ByteArray} {pc : Nat} (h : pc + 1 < b.size) (h0 : b[pc].toNat = 54) : decode b pc = .ok (.istore b[pc + 1].toNat, 2) := dec_of (q := pc + 2) (by unfold Decoder.instr; rw [dec_b (dec_r1 (by omega)), h0]; exact dec_b (dec_r1 h)) (by omega)
set_option maxRecDepth 20000 in
theorem dop_58 {b : ByteArray} {pc : Nat} (h : pc + 1 < b.size) (h0 : b[pc].toNat = 58) : decode b pc = .ok (.astore b[pc + 1].toNat, 2) := dec_of (q := pc + 2) (by unfold Decoder.instr; rw [dec_b (dec_r1 (by omega)), h0]; exact dec_b (dec_r1 h)) (by omega)
set_option maxRecDepth 20000 in
theorem dop_59 {b : ByteArray} {pc : Nat} (h : pc < b.size) (h0 : b[pc].toNat = 59) : decode b pc = .ok (.istore_n 0, 1) := dec_of (q := pc + 1) (by unfold Decoder.instr; rw [dec_b (dec_r1 h), h0]; rfl) (by omega)
set_option maxRecDepth 20000 in
theorem dop_60 {b : ByteArray} {pc : Nat} (h : pc < b.size) (h0 : b[pc].toNat = 60) : decode b pc = .ok (.istore_n 1, 1) := dec_of (q := pc + 1) (by unfold Decoder.instr; rw [dec_b (dec_r1 h), h0]; rfl) (by omega)
set_option maxRecDepth 20000 in
theorem dop_61 {b : ByteArray} {pc : Nat} (h : pc < b.size) (h0 : b[pc].toNat = 61) : decode b pc = .ok (.istore_n 2, 1) := dec_of (q := pc + 1) (by unfold Decoder.instr; rw [dec_b (dec_r1 h), h0]; rfl) (by omega)
set_option maxRecDepth 20000 in
theorem dop_62 {b : ByteArray} {pc : Nat} (h : pc < b.size) (h0 : b[pc].toNat = 62) : decode b pc = .ok (.istore_n 3, 1) := dec_of (q := pc + 1) (by unfold Decoder.instr; rw [dec_b (dec_r1 h), h0]; rfl) (by omega)
set_option maxRecDepth 20000 in
theorem dop_75 {b : ByteArray} {pc : Nat} (h : pc < b.size) (h0 : b[pc].toNat = 75) : decode b pc = .ok (.astore_n 0, 1) := dec_of (q := pc + 1) (by unfold Decoder.instr; rw [dec_b (dec_r1 h), h0]; rfl) (by omega)
set_option maxRecDepth 20000 in
theorem dop_76 {b : ByteArray} {pc : Nat} (h : pc < b.size) (h0 : b[pc].toNat = 76) : decode b pc = .ok (.astore_n 1, 1) := dec_of (q := pc + 1) (by unfold Decoder.instr; rw [dec_b (dec_r1 h), h0]; rfl) (by omega)
set_option maxRecDepth 20000 in
theorem dop_77 {b : ByteArray} {pc : Nat} (h : pc < b.size) (h0 : b[pc].toNat = 77) : decode b pc = .ok (.astore_n 2, 1) := dec_of (q := pc + 1) (by unfold Decoder.instr; rw [dec_b (dec_r1 h), h0]; rfl) (by omega)
set_option maxRecDepth 20000 in
theorem dop_78 {b : ByteArray} {pc : Nat} (h : pc < b.size) (h0 : b[pc].toNat = 78) : decode b pc = .ok (.astore_n 3, 1) := dec_of (q := pc + 1) (by unfold Decoder.instr; rw [dec_b (dec_r1 h), h0]; rfl) (by omega)
set_option maxRecDepth 20000 in
theorem dop_79 {b : ByteArray} {pc : Nat} (h : pc < b.size) (h0 : b[pc].toNat = 79) : decode b pc = .ok (.iastore, 1) := dec_of (q := pc + 1) (by unfold Decoder.instr; rw [dec_b (dec_r1 h), h0]; rfl) (by omega)
set_option maxRecDepth 20000 in
theorem dop_80 {b : ByteArray} {pc : Nat} (h : pc < b.size) (h0 : b[pc].toNat = 80) : decode b pc = .ok (.lastore, 1) := dec_of (q := pc + 1) (by unfold Decoder.instr; rw [dec_b (dec_r1 h), h0]; rfl) (by omega)
set_option maxRecDepth 20000 in
theorem dop_83 {b : ByteArray} {pc : Nat} (h : pc < b.size) (h0 : b[pc].toNat = 83) : decode b pc = .ok (.aastore, 1) := dec_of (q := pc + 1) (by unfold Decoder.instr; rw [dec_b (dec_r1 h), h0]; rfl) (by omega)
set_option maxRecDepth 20000 in
theorem dop_84 {b : ByteArray} {pc : Nat} (h : pc < b.size) (h0 : b[pc].toNat = 84) : decode b pc = .ok (.bastore, 1) := dec_of (q := pc + 1) (by unfold Decoder.instr; rw [dec_b (dec_r1 h), h0]; rfl) (by omega)
set_option maxRecDepth 20000 in
theorem dop_87 {b : ByteArray} {pc : Nat} (h : pc < b.size) (h0 : b[pc].toNat = 87) : decode b pc = .ok (.pop, 1) := dec_of (q := pc + 1) (by unfold Decoder.instr; rw [dec_b (dec_r1 h), h0]; rfl) (by omega)
set_option maxRecDepth 20000 in
theorem dop_89 {b : ByteArray} {pc : Nat} (h : pc < b.size) (h0 : b[pc].toNat = 89) : decode b pc = .ok (.dup, 1) := dec_of (q := pc + 1) (by unfold Decoder.instr; rw [dec_b (dec_r1 h), h0]; rfl) (by omega)
set_option maxRecDepth 20000 in
theorem dop_92 {b : ByteArray} {pc : Nat} (h : pc < b.size) (h0 : b[pc].toNat = 92) : decode b pc = .ok (.dup2, 1) := dec_of (q := pc + 1) (by unfold Decoder.instr; rw [dec_b (dec_r1 h), h0]; rfl) (by omega)
set_option maxRecDepth 20000 in
theorem dop_96 {b : ByteArray} {pc : Nat} (h : pc < b.size) (h0 : b[pc].toNat = 96) : decode b pc = .ok (.iadd, 1) := dec_of (q := pc + 1) (by unfold Decoder.instr; rw [dec_b (dec_r1 h), h0]; rfl) (by omega)
set_option maxRecDepth 20000 in
theorem dop_100 {b : ByteArray} {pc : Nat} (h : pc < b.size) (h0 : b[pc].toNat = 100) : decode b pc = .ok (.isub, 1) := dec_of (q := pc + 1) (by unfold Decoder.instr; rw [dec_b (dec_r1 h), h0]; rfl) (by omega)
set_option maxRecDepth 20000 in
theorem dop_104 {b : ByteArray} {pc : Nat} (h : pc < b.size) (h0 : b[pc].toNat = 104) : decode b pc = .ok (.imul, 1) := dec_of (q := pc + 1) (by unfold Decoder.instr; rw [dec_b (dec_r1 h), h0]; rfl) (by omega)
set_option maxRecDepth 20000 in
theorem dop_108 {b : ByteArray} {pc : Nat} (h : pc < b.size) (h0 : b[pc].toNat = 108) : decode b pc = .ok (.idiv, 1) := dec_of (q := pc + 1) (by unfold Decoder.instr; rw [dec_b (dec_r1 h), h0]; rfl) (by omega)
set_option maxRecDepth 20000 in
theorem dop_112 {b : ByteArray} {pc : Nat} (h : pc < b.size) (h0 : b[pc].toNat = 112) : decode b pc = .ok (.irem, 1) := dec_of (q := pc + 1) (by unfold Decoder.instr; rw [dec_b (dec_r1 h), h0]; rfl) (by omega)
set_option maxRecDepth 20000 in
theorem dop_116 {b : ByteArray} {pc : Nat} (h : pc < b.size) (h0 : b[pc].toNat = 116) : decode b pc = .ok (.ineg, 1) := dec_of (q := pc + 1) (by unfold Decoder.instr; rw [dec_b (dec_r1 h), h0]; rfl) (by omega)
set_option maxRecDepth 20000 in
theorem dop_120 {b : ByteArray} {pc : Nat} (h : pc < b.size) (h0 : b[pc].toNat = 120) : decode b pc = .ok (.ishl, 1) := dec_of (q := pc + 1) (by unfold Decoder.instr; rw [dec_b (dec_r1 h), h0]; rfl) (by omega)
set_option maxRecDepth 20000 in
theorem dop_122 {b : ByteArray} {pc : Nat} (h : pc < b.size) (h0 : b[pc].toNat = 122) : decode b pc = .ok (.ishr, 1) := dec_of (q := pc + 1) (by unfold Decoder.instr; rw [dec_b (dec_r1 h), h0]; rfl) (by omega)
set_option maxRecDepth 20000 in
theorem dop_124 {b : ByteArray} {pc : Nat} (h : pc < b.size) (h0 : b[pc].toNat = 124) : decode b pc = .ok (.iushr, 1) := dec_of (q := pc + 1) (by unfold Decoder.instr; rw [dec_b (dec_r1 h), h0]; rfl) (by omega)
set_option maxRecDepth 20000 in
theorem dop_126 {b : ByteArray} {pc : Nat} (h : pc < b.size) (h0 : b[pc].toNat = 126) : decode b pc = .ok (.iand, 1) := dec_of (q := pc + 1) (by unfold Decoder.instr; rw [dec_b (dec_r1 h), h0]; rfl) (by omega)
set_option maxRecDepth 20000 in
theorem dop_128 {b : ByteArray} {pc : Nat} (h : pc < b.size) (h0 : b[pc].toNat = 128) : decode b pc = .ok (.ior, 1) := dec_of (q := pc + 1) (by unfold Decoder.instr; rw [dec_b (dec_r1 h), h0]; rfl) (by omega)
set_option maxRecDepth 20000 in
theorem dop_130 {b : ByteArray} {pc : Nat} (h : pc < b.size) (h0 : b[pc].toNat = 130) : decode b pc = .ok (.ixor, 1) := dec_of (q := pc + 1) (by unfold Decoder.instr; rw [dec_b (dec_r1 h), h0]; rfl) (by omega)
set_option maxRecDepth 20000 in
theorem dop_132 {b : ByteArray} {pc : Nat} (h : pc + 2 < b.size) (h0 : b[pc].toNat = 132) : decode b pc = .ok (.iinc b[pc + 1].toNat (Reader.signed 8 b[pc + 2].toNat), 3) := dec_of (q := pc + 3) (by unfold Decoder.instr; rw [dec_b (dec_r1 (by omega)), h0]; exact (dec_b (dec_r1 (by omega))).trans (dec_b (dec_r3 h))) (by omega)
set_option maxRecDepth 20000 in
theorem dop_133 {b : ByteArray} {pc : Nat} (h : pc < b.size) (h0 : b[pc].toNat = 133) : decode b pc = .ok (.i2l, 1) := dec_of (q := pc + 1) (by unfold Decoder.instr; rw [dec_b (dec_r1 h), h0]; rfl) (by omega)
set_option maxRecDepth 20000 in
theorem dop_145 {b : ByteArray} {pc : Nat} (h : pc < b.size) (h0 : b[pc].toNat = 145) : decode b pc = .ok (.i2b, 1) := dec_of (q := pc + 1) (by unfold Decoder.instr; rw [dec_b (dec_r1 h), h0]; rfl) (by omega)
set_option maxRecDepth 20000 in
theorem dop_146 {b : ByteArray} {pc : Nat} (h : pc < b.size) (h0 : b[pc].toNat = 146) : decode b pc = .ok (.i2c, 1) := dec_of (q := pc + 1) (by unfold Decoder.instr; rw [dec_b (dec_r1 h), h0]; rfl) (by omega)
set_option maxRecDepth 20000 in
theorem dop_148 {b : ByteArray} {pc : Nat} (h : pc < b.size) (h0 : b[pc].toNat = 148) : decode b pc = .ok (.lcmp, 1) := dec_of (q := pc + 1) (by unfold Decoder.instr; rw [dec_b (dec_r1 h), h0]; rfl) (by omega)
set_option maxRecDepth 20000 in
theorem dop_153 {b : ByteArray} {pc : Nat} (h : pc + 2 < b.size) (h0 : b[pc].toNat = 153) : decode b pc = .ok (.ifCond .eq (Reader.signed 16 (b[pc + 1].toNat * 256 + b[pc + 2].toNat)), 3) := dec_of (q := pc + 3) (by unfold Decoder.instr; rw [dec_b (dec_r1 (by omega)), h0]; exact dec_b (dec_r4 h)) (by omega)
set_option maxRecDepth 20000 in
theorem dop_154 {b : ByteArray} {pc : Nat} (h : pc + 2 < b.size) (h0 : b[pc].toNat = 154) : decode b pc = .ok (.ifCond .ne (Reader.signed 16 (b[pc + 1].toNat * 256 + b[pc + 2].toNat)), 3) := dec_of (q := pc + 3) (by unfold Decoder.instr; rw [dec_b (dec_r1 (by omega)), h0]; exact dec_b (dec_r4 h)) (by omega)
set_option maxRecDepth 20000 in
theorem dop_155 {b : ByteArray} {pc : Nat} (h : pc + 2 < b.size) (h0 : b[pc].toNat = 155) : decode b pc = .ok (.ifCond .lt (Reader.signed 16 (b[pc + 1].toNat * 256 + b[pc + 2].toNat)), 3) := dec_of (q := pc + 3) (by unfold Decoder.instr; rw [dec_b (dec_r1 (by omega)), h0]; exact dec_b (dec_r4 h)) (by omega)
set_option maxRecDepth 20000 in
theorem dop_156 {b : ByteArray} {pc : Nat} (h : pc + 2 < b.size) (h0 : b[pc].toNat = 156) : decode b pc = .ok (.ifCond .ge (Reader.signed 16 (b[pc + 1].toNat * 256 + b[pc + 2].toNat)), 3) := dec_of (q := pc + 3) (by unfold Decoder.instr; rw [dec_b (dec_r1 (by omega)), h0]; exact dec_b (dec_r4 h)) (by omega)
set_option maxRecDepth 20000 in
theorem dop_157 {b : ByteArray} {pc : Nat} (h : pc + 2 < b.size) (h0 : b[pc].toNat = 157) : decode b pc = .ok (.ifCond .gt (Reader.signed 16 (b[pc + 1].toNat * 256 + b[pc + 2].toNat)), 3) := dec_of (q := pc + 3) (by unfold Decoder.instr; rw [dec_b (dec_r1 (by omega)), h0]; exact dec_b (dec_r4 h)) (by omega)
set_option maxRecDepth 20000 in
theorem dop_158 {b : ByteArray} {pc : Nat} (h : pc + 2 < b.size) (h0 : b[pc].toNat = 158) : decode b pc = .ok (.ifCond .le (Reader.signed 16 (b[pc + 1].toNat * 256 + b[pc + 2].toNat)), 3) := dec_of (q := pc + 3) (by unfold Decoder.instr; rw [dec_b (dec_r1 (by omega)), h0]; exact dec_b (dec_r4 h)) (by omega)
set_option maxRecDepth 20000 in
theorem dop_159 {b : ByteArray} {pc : Nat} (h : pc + 2 < b.size) (h0 : b[pc].toNat = 159) : decode b pc = .ok (.if_icmp .eq (Reader.signed 16 (b[pc + 1].toNat * 256 + b[pc + 2].toNat)), 3) := dec_of (q := pc + 3) (by unfold Decoder.instr; rw [dec_b (dec_r1 (by omega)), h0]; exact dec_b (dec_r4 h)) (by omega)
set_option maxRecDepth 20000 in
theorem dop_160 {b : ByteArray} {pc : Nat} (h : pc + 2 < b.size) (h0 : b[pc].toNat = 160) : decode b pc = .ok (.if_icmp .ne (Reader.signed 16 (b[pc + 1].toNat * 256 + b[pc + 2].toNat)), 3) := dec_of (q := pc + 3) (by unfold Decoder.instr; rw [dec_b (dec_r1 (by omega)), h0]; exact dec_b (dec_r4 h)) (by omega)
set_option maxRecDepth 20000 in
theorem dop_161 {b : ByteArray} {pc : Nat} (h : pc + 2 < b.size) (h0 : b[pc].toNat = 161) : decode b pc = .ok (.if_icmp .lt (Reader.signed 16 (b[pc + 1].toNat * 256 + b[pc + 2].toNat)), 3) := dec_of (q := pc + 3) (by unfold Decoder.instr; rw [dec_b (dec_r1 (by omega)), h0]; exact dec_b (dec_r4 h)) (by omega)
set_option maxRecDepth 20000 in
theorem dop_162 {b : ByteArray} {pc : Nat} (h : pc + 2 < b.size) (h0 : b[pc].toNat = 162) : decode b pc = .ok (.if_icmp .ge (Reader.signed 16 (b[pc + 1].toNat * 256 + b[pc + 2].toNat)), 3) := dec_of (q := pc + 3) (by unfold Decoder.instr; rw [dec_b (dec_r1 (by omega)), h0]; exact dec_b (dec_r4 h)) (by omega)
set_option maxRecDepth 20000 in
theorem dop_163 {b : ByteArray} {pc : Nat} (h : pc + 2 < b.size) (h0 : b[pc].toNat = 163) : decode b pc = .ok (.if_icmp .gt (Reader.signed 16 (b[pc + 1].toNat * 256 + b[pc + 2].toNat)), 3) := dec_of (q := pc + 3) (by unfold Decoder.instr; rw [dec_b (dec_r1 (by omega)), h0]; exact dec_b (dec_r4 h)) (by omega)
set_option maxRecDepth 20000 in
theorem dop_164 {b : ByteArray} {pc : Nat} (h : pc + 2 < b.size) (h0 : b[pc].toNat = 164) : decode b pc = .ok (.if_icmp .le (Reader.signed 16 (b[pc + 1].toNat * 256 + b[pc + 2].toNat)), 3) := dec_of (q := pc + 3) (by unfold Decoder.instr; rw [dec_b (dec_r1 (by omega)), h0]; exact dec_b (dec_r4 h)) (by omega)
set_option maxRecDepth 20000 in
theorem dop_167 {b : ByteArray} {pc : Nat} (h : pc + 2 < b.size) (h0 : b[pc].toNat = 167) : decode b pc = .ok (.goto (Reader.signed 16 (b[pc + 1].toNat * 256 + b[pc + 2].toNat)), 3) := dec_of (q := pc + 3) (by unfold Decoder.instr; rw [dec_b (dec_r1 (by omega)), h0]; exact dec_b (dec_r4 h)) (by omega)
set_option maxRecDepth 20000 in
theorem dop_172 {b : ByteArray} {pc : Nat} (h : pc < b.size) (h0 : b[pc].toNat = 172) : decode b pc = .ok (.ireturn, 1) := dec_of (q := pc + 1) (by unfold Decoder.instr; rw [dec_b (dec_r1 h), h0]; rfl) (by omega)
set_option maxRecDepth 20000 in
theorem dop_177 {b : ByteArray} {pc : Nat} (h : pc < b.size) (h0 : b[pc].toNat = 177) : decode b pc = .ok (.return_, 1) := dec_of (q := pc + 1) (by unfold Decoder.instr; rw [dec_b (dec_r1 h), h0]; rfl) (by omega)
set_option maxRecDepth 20000 in
theorem dop_178 {b : ByteArray} {pc : Nat} (h : pc + 2 < b.size) (h0 : b[pc].toNat = 178) : decode b pc = .ok (.getstatic (b[pc + 1].toNat * 256 + b[pc + 2].toNat), 3) := dec_of (q := pc + 3) (by unfold Decoder.instr; rw [dec_b (dec_r1 (by omega)), h0]; exact dec_b (dec_r2 h)) (by omega)
set_option maxRecDepth 20000 in
theorem dop_180 {b : ByteArray} {pc : Nat} (h : pc + 2 < b.size) (h0 : b[pc].toNat = 180) : decode b pc = .ok (.getfield (b[pc + 1].toNat * 256 + b[pc + 2].toNat), 3) := dec_of (q := pc + 3) (by unfold Decoder.instr; rw [dec_b (dec_r1 (by omega)), h0]; exact dec_b (dec_r2 h)) (by omega)
set_option maxRecDepth 20000 in
theorem dop_181 {b : ByteArray} {pc : Nat} (h : pc + 2 < b.size) (h0 : b[pc].toNat = 181) : decode b pc = .ok (.putfield (b[pc + 1].toNat * 256 + b[pc + 2].toNat), 3) := dec_of (q := pc + 3) (by unfold Decoder.instr; rw [dec_b (dec_r1 (by omega)), h0]; exact dec_b (dec_r2 h)) (by omega)
set_option maxRecDepth 20000 in
theorem dop_182 {b : ByteArray} {pc : Nat} (h : pc + 2 < b.size) (h0 : b[pc].toNat = 182) : decode b pc = .ok (.invokevirtual (b[pc + 1].toNat * 256 + b[pc + 2].toNat), 3) := dec_of (q := pc + 3) (by unfold Decoder.instr; rw [dec_b (dec_r1 (by omega)), h0]; exact dec_b (dec_r2 h)) (by omega)
set_option maxRecDepth 20000 in
theorem dop_183 {b : ByteArray} {pc : Nat} (h : pc + 2 < b.size) (h0 : b[pc].toNat = 183) : decode b pc = .ok (.invokespecial (b[pc + 1].toNat * 256 + b[pc + 2].toNat), 3) := dec_of (q := pc + 3) (by unfold Decoder.instr; rw [dec_b (dec_r1 (by omega)), h0]; exact dec_b (dec_r2 h)) (by omega)
set_option maxRecDepth 20000 in
theorem dop_184 {b : ByteArray} {pc : Nat} (h : pc + 2 < b.size) (h0 : b[pc].toNat = 184) : decode b pc = .ok (.invokestatic (b[pc + 1].toNat * 256 + b[pc + 2].toNat), 3) := dec_of (q := pc + 3) (by unfold Decoder.instr; rw [dec_b (dec_r1 (by omega)), h0]; exact dec_b (dec_r2 h)) (by omega)
set_option maxRecDepth 20000 in
theorem dop_187 {b : ByteArray} {pc : Nat} (h : pc + 2 < b.size) (h0 : b[pc].toNat = 187) : decode b pc = .ok (.new (b[pc + 1].toNat * 256 + b[pc + 2].toNat), 3) := dec_of (q := pc + 3) (by unfold Decoder.instr; rw [dec_b (dec_r1 (by omega)), h0]; exact dec_b (dec_r2 h)) (by omega)
set_option maxRecDepth 20000 in
theorem dop_189 {b : ByteArray} {pc : Nat} (h : pc + 2 < b.size) (h0 : b[pc].toNat = 189) : decode b pc = .ok (.anewarray (b[pc + 1].toNat * 256 + b[pc + 2].toNat), 3) := dec_of (q := pc + 3) (by unfold Decoder.instr; rw [dec_b (dec_r1 (by omega)), h0]; exact dec_b (dec_r2 h)) (by omega)
set_option maxRecDepth 20000 in
theorem dop_190 {b : ByteArray} {pc : Nat} (h : pc < b.size) (h0 : b[pc].toNat = 190) : decode b pc = .ok (.arraylength, 1) := dec_of (q := pc + 1) (by unfold Decoder.instr; rw [dec_b (dec_r1 h), h0]; rfl) (by omega)
set_option maxRecDepth 20000 in
theorem dop_191 {b : ByteArray} {pc : Nat} (h : pc < b.size) (h0 : b[pc].toNat = 191) : decode b pc = .ok (.athrow, 1) := dec_of (q := pc + 1) (by unfold Decoder.instr; rw [dec_b (dec_r1 h), h0]; rfl) (by omega)
def mOp (op : Nat) (r : List UInt8) : Option (Instr × Nat) := match op with
  | 2 => some (.iconst (-1), 1)
  | 3 => some (.iconst 0, 1)
  | 4 => some (.iconst 1, 1)
  | 5 => some (.iconst 2, 1)
  | 6 => some (.iconst 3, 1)
  | 7 => some (.iconst 4, 1)
  | 8 => some (.iconst 5, 1)
  | 9 => some (.lconst 0, 1)
  | 10 => some (.lconst 1, 1)
  | 16 => mA1 (fun a => .bipush (Reader.signed 8 a)) r
  | 17 => mA2 (fun a => .sipush (Reader.signed 16 a)) r
  | 18 => mA1 (fun a => .ldc a) r
  | 19 => mA2 (fun a => .ldc_w a) r
  | 21 => mA1 (fun a => .iload a) r
  | 25 => mA1 (fun a => .aload a) r
  | 26 => some (.iload_n 0, 1)
  | 27 => some (.iload_n 1, 1)
  | 28 => some (.iload_n 2, 1)
  | 29 => some (.iload_n 3, 1)
  | 42 => some (.aload_n 0, 1)
  | 43 => some (.aload_n 1, 1)
  | 44 => some (.aload_n 2, 1)
  | 45 => some (.aload_n 3, 1)
  | 46 => some (.iaload, 1)
  | 47 => some (.laload, 1)
  | 50 => some (.aaload, 1)
  | 51 => some (.baload, 1)
  | 54 => mA1 (fun a => .istore a) r
  | 58 => mA1 (fun a => .astore a) r
  | 59 => some (.istore_n 0, 1)
  | 60 => some (.istore_n 1, 1)
  | 61 => some (.istore_n 2, 1)
  | 62 => some (.istore_n 3, 1)
  | 75 => some (.astore_n 0, 1)
  | 76 => some (.astore_n 1, 1)
  | 77 => some (.astore_n 2, 1)
  | 78 => some (.astore_n 3, 1)
  | 79 => some (.iastore, 1)
  | 80 => some (.lastore, 1)
  | 83 => some (.aastore, 1)
  | 84 => some (.bastore, 1)
  | 87 => some (.pop, 1)
  | 89 => some (.dup, 1)
  | 92 => some (.dup2, 1)
  | 96 => some (.iadd, 1)
  | 100 => some (.isub, 1)
  | 104 => some (.imul, 1)
  | 108 => some (.idiv, 1)
  | 112 => some (.irem, 1)
  | 116 => some (.ineg, 1)
  | 120 => some (.ishl, 1)
  | 122 => some (.ishr, 1)
  | 124 => some (.iushr, 1)
  | 126 => some (.iand, 1)
  | 128 => some (.ior, 1)
  | 130 => some (.ixor, 1)
  | 132 => mA3 r
  | 133 => some (.i2l, 1)
  | 145 => some (.i2b, 1)
  | 146 => some (.i2c, 1)
  | 148 => some (.lcmp, 1)
  | 153 => mA2 (fun a => .ifCond .eq (Reader.signed 16 a)) r
  | 154 => mA2 (fun a => .ifCond .ne (Reader.signed 16 a)) r
  | 155 => mA2 (fun a => .ifCond .lt (Reader.signed 16 a)) r
  | 156 => mA2 (fun a => .ifCond .ge (Reader.signed 16 a)) r
  | 157 => mA2 (fun a => .ifCond .gt (Reader.signed 16 a)) r
  | 158 => mA2 (fun a => .ifCond .le (Reader.signed 16 a)) r
  | 159 => mA2 (fun a => .if_icmp .eq (Reader.signed 16 a)) r
  | 160 => mA2 (fun a => .if_icmp .ne (Reader.signed 16 a)) r
  | 161 => mA2 (fun a => .if_icmp .lt (Reader.signed 16 a)) r
  | 162 => mA2 (fun a => .if_icmp .ge (Reader.signed 16 a)) r
  | 163 => mA2 (fun a => .if_icmp .gt (Reader.signed 16 a)) r
  | 164 => mA2 (fun a => .if_icmp .le (Reader.signed 16 a)) r
  | 167 => mA2 (fun a => .goto (Reader.signed 16 a)) r
  | 172 => some (.ireturn, 1)
  | 177 => some (.return_, 1)
  | 178 => mA2 (fun a => .getstatic a) r
  | 180 => mA2 (fun a => .getfield a) r
  | 181 => mA2 (fun a => .putfield a) r
  | 182 => mA2 (fun a => .invokevirtual a) r
  | 183 => mA2 (fun a => .invokespecial a) r
  | 184 => mA2 (fun a => .invokestatic a) r
  | 187 => mA2 (fun a => .new a) r
  | 189 => mA2 (fun a => .anewarray a) r
  | 190 => some (.arraylength, 1)
  | 191 => some (.athrow, 1)
  | _ => none
def mDec : List UInt8 → Option (Instr × Nat)
  | x :: r => mOp x.toNat r
  | [] => none
theorem mA1_inv {f : Nat → Instr} {b : ByteArray} {pc : Nat} {r : List UInt8} {z : Instr × Nat} (hd : b.data.toList.drop (pc + 1) = r) (h : mA1 f r = some z) : ∃ hs : pc + 1 < b.size, f b[pc + 1].toNat = z.1 ∧ z = (z.1, 2) := by
  unfold mA1 at h
  split at h
  · cases h
    obtain ⟨hs, e1, -⟩ := dec_at hd
    exact ⟨hs, by rw [e1], rfl⟩
  · cases h
theorem mA2_inv {f : Nat → Instr} {b : ByteArray} {pc : Nat} {r : List UInt8} {z : Instr × Nat} (hd : b.data.toList.drop (pc + 1) = r) (h : mA2 f r = some z) : ∃ hs : pc + 2 < b.size, f (b[pc + 1].toNat * 256 + b[pc + 2].toNat) = z.1 ∧ z = (z.1, 3) := by
  unfold mA2 at h
  split at h
  · cases h
    obtain ⟨hs, e1, hd2⟩ := dec_at hd
    obtain ⟨hs2, e2, -⟩ := dec_at hd2
    exact ⟨hs2, by rw [e1, e2], rfl⟩
  · cases h
theorem mA3_inv {b : ByteArray} {pc : Nat} {r : List UInt8} {z : Instr × Nat} (hd : b.data.toList.drop (pc + 1) = r) (h : mA3 r = some z) : ∃ hs : pc + 2 < b.size, z = (.iinc b[pc + 1].toNat (Reader.signed 8 b[pc + 2].toNat), 3) := by
  unfold mA3 at h
  split at h
  · cases h
    obtain ⟨hs, e1, hd2⟩ := dec_at hd
    obtain ⟨hs2, e2, -⟩ := dec_at hd2
    exact ⟨hs2, by rw [e1, e2]⟩
  · cases h
set_option maxRecDepth 20000 in
set_option maxHeartbeats 4000000 in
theorem mOp_ok {b : ByteArray} {pc op : Nat} {r : List UInt8} {z : Instr × Nat} (hs : pc < b.size) (h0 : b[pc].toNat = op) (hd : b.data.toList.drop (pc + 1) = r) (h : mOp op r = some z) : decode b pc = .ok z := by
  unfold mOp at h
  split at h
  · cases h; exact dop_2 hs h0
  · cases h; exact dop_3 hs h0
  · cases h; exact dop_4 hs h0
  · cases h; exact dop_5 hs h0
  · cases h; exact dop_6 hs h0
  · cases h; exact dop_7 hs h0
  · cases h; exact dop_8 hs h0
  · cases h; exact dop_9 hs h0
  · cases h; exact dop_10 hs h0
  · obtain ⟨hs1, e1, h⟩ := mA1_inv hd h; rw [h, ← e1]; exact dop_16 hs1 h0
  · obtain ⟨hs1, e1, h⟩ := mA2_inv hd h; rw [h, ← e1]; exact dop_17 hs1 h0
  · obtain ⟨hs1, e1, h⟩ := mA1_inv hd h; rw [h, ← e1]; exact dop_18 hs1 h0
  · obtain ⟨hs1, e1, h⟩ := mA2_inv hd h; rw [h, ← e1]; exact dop_19 hs1 h0
  · obtain ⟨hs1, e1, h⟩ := mA1_inv hd h; rw [h, ← e1]; exact dop_21 hs1 h0
  · obtain ⟨hs1, e1, h⟩ := mA1_inv hd h; rw [h, ← e1]; exact dop_25 hs1 h0
  · cases h; exact dop_26 hs h0
  · cases h; exact dop_27 hs h0
  · cases h; exact dop_28 hs h0
  · cases h; exact dop_29 hs h0
  · cases h; exact dop_42 hs h0
  · cases h; exact dop_43 hs h0
  · cases h; exact dop_44 hs h0
  · cases h; exact dop_45 hs h0
  · cases h; exact dop_46 hs h0
  · cases h; exact dop_47 hs h0
  · cases h; exact dop_50 hs h0
  · cases h; exact dop_51 hs h0
  · obtain ⟨hs1, e1, h⟩ := mA1_inv hd h; rw [h, ← e1]; exact dop_54 hs1 h0
  · obtain ⟨hs1, e1, h⟩ := mA1_inv hd h; rw [h, ← e1]; exact dop_58 hs1 h0
  · cases h; exact dop_59 hs h0
  · cases h; exact dop_60 hs h0
  · cases h; exact dop_61 hs h0
  · cases h; exact dop_62 hs h0
  · cases h; exact dop_75 hs h0
  · cases h; exact dop_76 hs h0
  · cases h; exact dop_77 hs h0
  · cases h; exact dop_78 hs h0
  · cases h; exact dop_79 hs h0
  · cases h; exact dop_80 hs h0
  · cases h; exact dop_83 hs h0
  · cases h; exact dop_84 hs h0
  · cases h; exact dop_87 hs h0
  · cases h; exact dop_89 hs h0
  · cases h; exact dop_92 hs h0
  · cases h; exact dop_96 hs h0
  · cases h; exact dop_100 hs h0
  · cases h; exact dop_104 hs h0
  · cases h; exact dop_108 hs h0
  · cases h; exact dop_112 hs h0
  · cases h; exact dop_116 hs h0
  · cases h; exact dop_120 hs h0
  · cases h; exact dop_122 hs h0
  · cases h; exact dop_124 hs h0
  · cases h; exact dop_126 hs h0
  · cases h; exact dop_128 hs h0
  · cases h; exact dop_130 hs h0
  · obtain ⟨hs1, h⟩ := mA3_inv hd h; rw [h]; exact dop_132 hs1 h0
  · cases h; exact dop_133 hs h0
  · cases h; exact dop_145 hs h0
  · cases h; exact dop_146 hs h0
  · cases h; exact dop_148 hs h0
  · obtain ⟨hs1, e1, h⟩ := mA2_inv hd h; rw [h, ← e1]; exact dop_153 hs1 h0
  · obtain ⟨hs1, e1, h⟩ := mA2_inv hd h; rw [h, ← e1]; exact dop_154 hs1 h0
  · obtain ⟨hs1, e1, h⟩ := mA2_inv hd h; rw [h, ← e1]; exact dop_155 hs1 h0
  · obtain ⟨hs1, e1, h⟩ := mA2_inv hd h; rw [h, ← e1]; exact dop_156 hs1 h0
  · obtain ⟨hs1, e1, h⟩ := mA2_inv hd h; rw [h, ← e1]; exact dop_157 hs1 h0
  · obtain ⟨hs1, e1, h⟩ := mA2_inv hd h; rw [h, ← e1]; exact dop_158 hs1 h0
  · obtain ⟨hs1, e1, h⟩ := mA2_inv hd h; rw [h, ← e1]; exact dop_159 hs1 h0
  · obtain ⟨hs1, e1, h⟩ := mA2_inv hd h; rw [h, ← e1]; exact dop_160 hs1 h0
  · obtain ⟨hs1, e1, h⟩ := mA2_inv hd h; rw [h, ← e1]; exact dop_161 hs1 h0
  · obtain ⟨hs1, e1, h⟩ := mA2_inv hd h; rw [h, ← e1]; exact dop_162 hs1 h0
  · obtain ⟨hs1, e1, h⟩ := mA2_inv hd h; rw [h, ← e1]; exact dop_163 hs1 h0
  · obtain ⟨hs1, e1, h⟩ := mA2_inv hd h; rw [h, ← e1]; exact dop_164 hs1 h0
  · obtain ⟨hs1, e1, h⟩ := mA2_inv hd h; rw [h, ← e1]; exact dop_167 hs1 h0
  · cases h; exact dop_172 hs h0
  · cases h; exact dop_177 hs h0
  · obtain ⟨hs1, e1, h⟩ := mA2_inv hd h; rw [h, ← e1]; exact dop_178 hs1 h0
  · obtain ⟨hs1, e1, h⟩ := mA2_inv hd h; rw [h, ← e1]; exact dop_180 hs1 h0
  · obtain ⟨hs1, e1, h⟩ := mA2_inv hd h; rw [h, ← e1]; exact dop_181 hs1 h0
  · obtain ⟨hs1, e1, h⟩ := mA2_inv hd h; rw [h, ← e1]; exact dop_182 hs1 h0
  · obtain ⟨hs1, e1, h⟩ := mA2_inv hd h; rw [h, ← e1]; exact dop_183 hs1 h0
  · obtain ⟨hs1, e1, h⟩ := mA2_inv hd h; rw [h, ← e1]; exact dop_184 hs1 h0
  · obtain ⟨hs1, e1, h⟩ := mA2_inv hd h; rw [h, ← e1]; exact dop_187 hs1 h0
  · obtain ⟨hs1, e1, h⟩ := mA2_inv hd h; rw [h, ← e1]; exact dop_189 hs1 h0
  · cases h; exact dop_190 hs h0
  · cases h; exact dop_191 hs h0
  · cases h
theorem mDec_ok {b : ByteArray} {pc : Nat} {L : List UInt8} {z : Instr × Nat} (hL : b.data.toList.drop pc = L) (h : mDec L = some z) : decode b pc = .ok z := by
  cases L with
  | nil => cases h
  | cons x r =>
    obtain ⟨hs, e, hd⟩ := dec_at hL
    exact mOp_ok hs (by rw [e]) hd h
