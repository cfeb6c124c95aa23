/-! CONTRACTS, 1: small ones -/
section LEAF
variable {ar : Nat → Nat × (Nat → Int32)} {d t : Nat} {K : Nat → Nat → Option Nat} {A : Nat → Int → Int} {O : Nat → Int64}
theorem zr_and {x y : Int} : -2147483648 ≤ zAnd x y ∧ zAnd x y < 2147483648 := ⟨Int32.le_toInt _, Int32.toInt_lt _⟩
theorem zr_or {x y : Int} : -2147483648 ≤ zOr x y ∧ zOr x y < 2147483648 := ⟨Int32.le_toInt _, Int32.toInt_lt _⟩
theorem zr_xor {x y : Int} : -2147483648 ≤ zXor x y ∧ zXor x y < 2147483648 := ⟨Int32.le_toInt _, Int32.toInt_lt _⟩
theorem zr_shl {x y : Int} : -2147483648 ≤ zShl x y ∧ zShl x y < 2147483648 := ⟨Int32.le_toInt _, Int32.toInt_lt _⟩
theorem zr_shr {x y : Int} : -2147483648 ≤ zShr x y ∧ zShr x y < 2147483648 := ⟨Int32.le_toInt _, Int32.toInt_lt _⟩
theorem zr_ushr {x y : Int} : -2147483648 ≤ zUshr x y ∧ zUshr x y < 2147483648 := ⟨Int32.le_toInt _, Int32.toInt_lt _⟩
theorem zr_byte {x : Int} : -2147483648 ≤ zByte x ∧ zByte x < 2147483648 := ⟨Int32.le_toInt _, Int32.toInt_lt _⟩
def zAbs (x : Int) : Int := if x < 0 then -x else x
theorem c_abs {x : Int} (hx : -2147483647 ≤ x ∧ x < 2147483648) : mGd ar (d) 36 0 [.int (zI x)] [] (zW K A O t) = some (.inl (some (.int (zI (zAbs x)))), zW K A O t) := by
  unfold zAbs
  by_cases h : x < 0 <;> simp (disch := first | assumption | omega | exact zr_and | exact zr_or | exact zr_xor | exact zr_shl | exact zr_shr | exact zr_ushr | exact zr_byte) only [i36_0, i36_4, i36_9, i36_10, mB1_i, mB0_i, mB1n_i, mB0n_i, mB1_x, mB0_x, if_true, if_false, if_pos, if_neg]
theorem c_min {x y : Int} (hx : -2147483648 ≤ x ∧ x < 2147483648) (hy : -2147483648 ≤ y ∧ y < 2147483648) : mGd ar (d) 39 0 [.int (zI x), .int (zI y)] [] (zW K A O t) = some (.inl (some (.int (zI (min x y)))), zW K A O t) := by
  by_cases h : x ≤ y <;> simp (disch := first | assumption | omega | exact zr_and | exact zr_or | exact zr_xor | exact zr_shl | exact zr_shr | exact zr_ushr | exact zr_byte) only [i39_0, i39_5, i39_9, i39_10, Int.min_def, mB1_i, mB0_i, mB1n_i, mB0n_i, mB1_x, mB0_x, if_true, if_false, if_pos, if_neg]
theorem c_max {x y : Int} (hx : -2147483648 ≤ x ∧ x < 2147483648) (hy : -2147483648 ≤ y ∧ y < 2147483648) : mGd ar (d) 40 0 [.int (zI x), .int (zI y)] [] (zW K A O t) = some (.inl (some (.int (zI (max x y)))), zW K A O t) := by
  by_cases h : y ≤ x
  · simp (disch := first | assumption | omega | exact zr_and | exact zr_or | exact zr_xor | exact zr_shl | exact zr_shr | exact zr_ushr | exact zr_byte) only [i40_0, i40_5, i40_9, i40_10, mB1_i, mB0_i, mB1n_i, mB0n_i, mB1_x, mB0_x, if_true, if_false, if_pos, if_neg]
    rw [show max x y = x by omega]
  · simp (disch := first | assumption | omega | exact zr_and | exact zr_or | exact zr_xor | exact zr_shl | exact zr_shr | exact zr_ushr | exact zr_byte) only [i40_0, i40_5, i40_9, i40_10, mB1_i, mB0_i, mB1n_i, mB0n_i, mB1_x, mB0_x, if_true, if_false, if_pos, if_neg]
    rw [show max x y = y by omega]
theorem c_in {x a b : Int} (hx : -2147483648 ≤ x ∧ x < 2147483648) (ha : -2147483648 ≤ a ∧ a < 2147483648) (hb : -2147483648 ≤ b ∧ b < 2147483648) : mGd ar (d) 256 0 [.int (zI x), .int (zI a), .int (zI b)] [] (zW K A O t) = some (.inl (some (.int (zI (if a ≤ x ∧ x ≤ b then 1 else 0)))), zW K A O t) := by
  by_cases h : a ≤ x
  · by_cases h2 : x ≤ b <;> simp (disch := first | assumption | omega | exact zr_and | exact zr_or | exact zr_xor | exact zr_shl | exact zr_shr | exact zr_ushr | exact zr_byte) only [i256_0, i256_5, i256_10, i256_14, i256_15, mB1_i, mB0_i, mB1n_i, mB0n_i, mB1_x, mB0_x, if_true, if_false, if_pos, if_neg]
  · simp (disch := first | assumption | omega | exact zr_and | exact zr_or | exact zr_xor | exact zr_shl | exact zr_shr | exact zr_ushr | exact zr_byte) only [i256_0, i256_5, i256_10, i256_14, i256_15, mB1_i, mB0_i, mB1n_i, mB0n_i, mB1_x, mB0_x, if_true, if_false, if_pos, if_neg]
theorem c_compare {x y : Int} (hx : -2147483648 ≤ x ∧ x < 2147483648) (hy : -2147483648 ≤ y ∧ y < 2147483648) : mGd ar (d) 198 0 [.int (zI x), .int (zI y)] [] (zW K A O t) = some (.inl (some (.int (zI (if x < y then -1 else if x = y then 0 else 1)))), zW K A O t) := by
  by_cases h : x < y
  · simp (disch := first | assumption | omega | exact zr_and | exact zr_or | exact zr_xor | exact zr_shl | exact zr_shr | exact zr_ushr | exact zr_byte) only [i198_0, i198_5, i198_9, i198_14, i198_18, i198_19, mB1_i, mB0_i, mB1n_i, mB0n_i, mB1_x, mB0_x, if_true, if_false, if_pos, if_neg]
  · by_cases h2 : x = y <;> simp (disch := first | assumption | omega | exact zr_and | exact zr_or | exact zr_xor | exact zr_shl | exact zr_shr | exact zr_ushr | exact zr_byte) only [i198_0, i198_5, i198_9, i198_14, i198_18, i198_19, mB1_i, mB0_i, mB1n_i, mB0n_i, mB1_x, mB0_x, if_true, if_false, if_pos, if_neg]
/-- the bit of a set -/
def zB (s k : Int) : Bool := s.toNat.testBit k.toNat
theorem zShr_eq {x : Int} {k : Nat} (hx : -2147483648 ≤ x ∧ x < 2147483648) (hk : k < 32) : zShr x (k : Int) = x / 2 ^ k := by
  unfold zShr
  have h1 : (zI (k : Int) &&& 31) = Int32.ofNat k := by
    have : ∀ j : Fin 32, (zI ((j.val : Nat) : Int) &&& 31) = Int32.ofNat j.val := by decide +kernel
    exact this ⟨k, hk⟩
  rw [h1]
  have h2 : (zI x >>> Int32.ofNat k).toInt = (zI x).toInt / 2 ^ k := by
    have h3 : (zI x >>> Int32.ofNat k).toBitVec = (zI x).toBitVec.sshiftRight k := by
      have h4 : ∀ j : Fin 32, ((Int32.ofNat j.val).toBitVec.smod 32) = BitVec.ofNat 32 j.val := by decide +kernel
      show (zI x).toBitVec.sshiftRight' ((Int32.ofNat k).toBitVec.smod 32) = _
      rw [h4 ⟨k, hk⟩]
      unfold BitVec.sshiftRight'
      rw [BitVec.toNat_ofNat, Nat.mod_eq_of_lt (by omega)]
    show (zI x >>> Int32.ofNat k).toBitVec.toInt = _
    rw [h3, BitVec.toInt_sshiftRight, Int.shiftRight_eq_div_pow]
    rfl
  rw [h2, toInt_zI hx]
theorem zI_nat {x : Int} : (zI x).toBitVec.toNat = (x % 4294967296).toNat := by
  show (BitVec.ofInt 32 x).toNat = _
  rw [BitVec.toNat_ofInt]
  rfl
theorem zUshr_eq {x : Int} {k : Nat} (hk : k < 32) (h1 : 1 ≤ k) : zUshr x (k : Int) = (x % 4294967296) / 2 ^ k := by
  unfold zUshr
  have e1 : (zI (k : Int)).toUInt32 &&& Int32.toUInt32 31 = UInt32.ofNat k := by
    have : ∀ j : Fin 32, ((zI ((j.val : Nat) : Int)).toUInt32 &&& Int32.toUInt32 31) = UInt32.ofNat j.val := by decide +kernel
    exact this ⟨k, hk⟩
  rw [e1]
  have e2 : ((zI x).toUInt32 >>> UInt32.ofNat k).toNat = (x % 4294967296).toNat / 2 ^ k := by
    rw [UInt32.toNat_shiftRight, Nat.shiftRight_eq_div_pow]
    have e3 : (UInt32.ofNat k).toNat % 32 = k := by
      rw [UInt32.toNat_ofNat_of_lt' (show k < UInt32.size from by show k < 4294967296; omega), Nat.mod_eq_of_lt hk]
    rw [e3]
    congr 1
  have hlt : (x % 4294967296).toNat / 2 ^ k < 2147483648 := by
    have h2 : (2 : Nat) ^ 1 ≤ 2 ^ k := Nat.pow_le_pow_right (by decide) h1
    have h3 : (x % 4294967296).toNat < 4294967296 := by omega
    have h4 : (x % 4294967296).toNat / 2 ^ k ≤ (x % 4294967296).toNat / 2 ^ 1 := Nat.div_le_div_left h2 (by decide)
    omega
  have e4 : (((zI x).toUInt32 >>> UInt32.ofNat k).toInt32).toInt = (((zI x).toUInt32 >>> UInt32.ofNat k).toNat : Int) := by
    generalize (zI x).toUInt32 >>> UInt32.ofNat k = u at e2
    show u.toBitVec.toInt = _
    rw [BitVec.toInt_eq_toNat_of_lt]
    · rfl
    · show 2 * u.toNat < 2 ^ 32
      rw [e2]
      omega
  rw [e4, e2, Int.natCast_ediv, Int.toNat_of_nonneg (by omega)]
  rfl
theorem zAnd_mask {x : Int} {m : Nat} (hm : m < 31) : zAnd x (2 ^ m - 1) = x % 2 ^ m := by
  unfold zAnd
  have hp : (2 : Nat) ^ m < 2 ^ 31 := Nat.pow_lt_pow_right (by decide) hm
  have hpp : 0 < (2 : Nat) ^ m := Nat.pow_pos (by decide)
  have e0 : ((2 : Int) ^ m) = ((2 ^ m : Nat) : Int) := by simp
  have e1 : (zI x &&& zI (2 ^ m - 1)).toBitVec.toNat = (x % 4294967296).toNat % 2 ^ m := by
    show ((zI x).toBitVec &&& (zI (2 ^ m - 1)).toBitVec).toNat = _
    rw [BitVec.toNat_and, zI_nat, zI_nat, show ((2 : Int) ^ m - 1) % 4294967296 = ((2 ^ m - 1 : Nat) : Int) by omega, Int.toNat_natCast, Nat.and_two_pow_sub_one_eq_mod]
  have hl := Nat.mod_lt ((x % 4294967296).toNat) hpp
  show (zI x &&& zI (2 ^ m - 1)).toBitVec.toInt = _
  rw [BitVec.toInt_eq_toNat_of_lt (by rw [e1]; omega), e1, Int.natCast_emod, Int.toNat_of_nonneg (by omega), ← e0]
  exact Int.emod_emod_of_dvd _ (by
    have : ((2 : Int) ^ 32) = 2 ^ m * 2 ^ (32 - m) := by rw [← Int.pow_add]; congr 1; omega
    rw [show (4294967296 : Int) = 2 ^ 32 from by decide, this]
    exact ⟨_, rfl⟩)
/-- sets of at most eight: facts by trial -/
theorem zf_shr {s k : Int} (hs : 0 ≤ s ∧ s < 256) (hk : 0 ≤ k ∧ k < 8) : zAnd (zShr s k) 1 = if zB s k = true then 1 else 0 := by
  have h : ∀ s : Fin 256, ∀ k : Fin 8, zAnd (zShr (s.val : Int) (k.val : Int)) 1 = if zB (s.val : Int) (k.val : Int) = true then 1 else 0 := by decide +kernel
  have := h ⟨s.toNat, by omega⟩ ⟨k.toNat, by omega⟩
  simpa only [Int.toNat_of_nonneg hs.1, Int.toNat_of_nonneg hk.1] using this
theorem zf_ushr {s k : Int} (hs : 0 ≤ s ∧ s < 256) (hk : 0 ≤ k ∧ k < 8) : zAnd (zUshr s k) 1 = if zB s k = true then 1 else 0 := by
  have h : ∀ s : Fin 256, ∀ k : Fin 8, zAnd (zUshr (s.val : Int) (k.val : Int)) 1 = if zB (s.val : Int) (k.val : Int) = true then 1 else 0 := by decide +kernel
  have := h ⟨s.toNat, by omega⟩ ⟨k.toNat, by omega⟩
  simpa only [Int.toNat_of_nonneg hs.1, Int.toNat_of_nonneg hk.1] using this
/-- all of n -/
def zAll (n : Int) : Int := 2 ^ n.toNat - 1
theorem zf_all {n : Int} (hn : 0 ≤ n ∧ n ≤ 8) : zShl 1 n - 1 = zAll n := by
  have h : ∀ k : Fin 9, zShl 1 (k.val : Int) - 1 = zAll (k.val : Int) := by decide +kernel
  have := h ⟨n.toNat, by omega⟩
  simpa only [Int.toNat_of_nonneg hn.1] using this
theorem zAll_lt {n : Int} (hn : 0 ≤ n ∧ n ≤ 8) : 0 ≤ zAll n ∧ zAll n < 256 := by
  have h : ∀ k : Fin 9, 0 ≤ zAll (k.val : Int) ∧ zAll (k.val : Int) < 256 := by decide +kernel
  have := h ⟨n.toNat, by omega⟩
  simpa only [Int.toNat_of_nonneg hn.1] using this
theorem zB_all {n k : Int} (hn : 0 ≤ n ∧ n ≤ 8) (hk : 0 ≤ k ∧ k < 8) : zB (zAll n) k = decide (k < n) := by
  have h : ∀ n : Fin 9, ∀ k : Fin 8, zB (zAll (n.val : Int)) (k.val : Int) = decide ((k.val : Int) < (n.val : Int)) := by decide +kernel
  have := h ⟨n.toNat, by omega⟩ ⟨k.toNat, by omega⟩
  simpa only [Int.toNat_of_nonneg hn.1, Int.toNat_of_nonneg hk.1] using this
theorem zf_less {s k : Int} (hs : 0 ≤ s ∧ s < 256) (hk : 0 ≤ k ∧ k < 8) : (0 ≤ zAnd s (zXor (zShl 1 k) (-1)) ∧ zAnd s (zXor (zShl 1 k) (-1)) < 256) ∧ ∀ j, 0 ≤ j ∧ j < 8 → zB (zAnd s (zXor (zShl 1 k) (-1))) j = (zB s j && decide (j ≠ k)) := by
  have h : ∀ s : Fin 256, ∀ k : Fin 8, (0 ≤ zAnd (s.val : Int) (zXor (zShl 1 (k.val : Int)) (-1)) ∧ zAnd (s.val : Int) (zXor (zShl 1 (k.val : Int)) (-1)) < 256) ∧ ∀ j : Fin 8, zB (zAnd (s.val : Int) (zXor (zShl 1 (k.val : Int)) (-1))) (j.val : Int) = (zB (s.val : Int) (j.val : Int) && decide ((j.val : Int) ≠ (k.val : Int))) := by decide +kernel
  have h1 := h ⟨s.toNat, by omega⟩ ⟨k.toNat, by omega⟩
  simp only [Int.toNat_of_nonneg hs.1, Int.toNat_of_nonneg hk.1] at h1
  refine ⟨h1.1, fun j hj => ?_⟩
  have h2 := h1.2 ⟨j.toNat, by omega⟩
  simpa only [Int.toNat_of_nonneg hj.1] using h2
theorem zf_more {s k : Int} (hs : 0 ≤ s ∧ s < 256) (hk : 0 ≤ k ∧ k < 8) : (0 ≤ zOr s (zShl 1 k) ∧ zOr s (zShl 1 k) < 256) ∧ ∀ j, 0 ≤ j ∧ j < 8 → zB (zOr s (zShl 1 k)) j = (zB s j || decide (j = k)) := by
  have h : ∀ s : Fin 256, ∀ k : Fin 8, (0 ≤ zOr (s.val : Int) (zShl 1 (k.val : Int)) ∧ zOr (s.val : Int) (zShl 1 (k.val : Int)) < 256) ∧ ∀ j : Fin 8, zB (zOr (s.val : Int) (zShl 1 (k.val : Int))) (j.val : Int) = (zB (s.val : Int) (j.val : Int) || decide ((j.val : Int) = (k.val : Int))) := by decide +kernel
  have h1 := h ⟨s.toNat, by omega⟩ ⟨k.toNat, by omega⟩
  simp only [Int.toNat_of_nonneg hs.1, Int.toNat_of_nonneg hk.1] at h1
  refine ⟨h1.1, fun j hj => ?_⟩
  have h2 := h1.2 ⟨j.toNat, by omega⟩
  simpa only [Int.toNat_of_nonneg hj.1] using h2
theorem zf_not {s n : Int} (hs : 0 ≤ s ∧ s ≤ zAll n) (hn : 0 ≤ n ∧ n ≤ 8) : zAnd (zAll n) (zXor s (-1)) = zAll n - s ∧ ∀ j, 0 ≤ j ∧ j < n → zB (zAll n - s) j = !zB s j := by
  have h : ∀ n : Fin 9, ∀ s : Fin 256, (s.val : Int) ≤ zAll (n.val : Int) → zAnd (zAll (n.val : Int)) (zXor (s.val : Int) (-1)) = zAll (n.val : Int) - (s.val : Int) ∧ ∀ j : Fin 8, j.val < n.val → zB (zAll (n.val : Int) - (s.val : Int)) (j.val : Int) = !zB (s.val : Int) (j.val : Int) := by decide +kernel
  have hl := zAll_lt hn
  have h1 := h ⟨n.toNat, by omega⟩ ⟨s.toNat, by omega⟩
  simp only [Int.toNat_of_nonneg hs.1, Int.toNat_of_nonneg hn.1] at h1
  refine ⟨(h1 hs.2).1, fun j hj => ?_⟩
  have h2 := (h1 hs.2).2 ⟨j.toNat, by omega⟩ (by show j.toNat < n.toNat; omega)
  simpa only [Int.toNat_of_nonneg hj.1] using h2
/-- how many bits -/
def zCnt (s : Int) : Int := (((List.range 8).filter fun k => s.toNat.testBit k).length : Int)
theorem c_bits {s : Int} (hs : 0 ≤ s ∧ s < 256) : mGd ar (d) 138 0 [.int (zI s)] [] (zW K A O t) = some (.inl (some (.int (zI (zCnt s)))), zW K A O t) := by
  simp (disch := first | assumption | omega | exact zr_and | exact zr_or | exact zr_xor | exact zr_shl | exact zr_shr | exact zr_ushr | exact zr_byte) only [i138_0, mB1_i, mB0_i, mB1n_i, mB0n_i, mB1_x, mB0_x, if_true, if_false, if_pos, if_neg]
  congr 5
  obtain ⟨n, rfl⟩ : ∃ n : Nat, s = (n : Int) := ⟨s.toNat, by omega⟩
  have hn : n < 256 := by omega
  clear hs
  revert n
  decide +kernel
theorem c_signum {x : Int} (hx : -100 < x ∧ x < 100) : mGd ar (d) 333 0 [.int (zI x)] [] (zW K A O t) = some (.inl (some (.int (zI (if x < 0 then -1 else if x = 0 then 0 else 1)))), zW K A O t) := by
  simp (disch := first | assumption | omega | exact zr_and | exact zr_or | exact zr_xor | exact zr_shl | exact zr_shr | exact zr_ushr | exact zr_byte) only [i333_0, mB1_i, mB0_i, mB1n_i, mB0n_i, mB1_x, mB0_x, if_true, if_false, if_pos, if_neg]
  congr 5
  obtain ⟨n, rfl⟩ : ∃ n : Nat, x = (n : Int) - 100 := ⟨(x + 100).toNat, by omega⟩
  have hn : n < 200 := by omega
  clear hx
  revert n
  decide +kernel
theorem zf_x60 {x : Int} (hx : -60 < x ∧ x < 60) : (0 ≤ zXor x 60 ↔ 0 ≤ x) ∧ Int.tmod x 60 = x := by
  obtain ⟨n, rfl⟩ : ∃ n : Nat, x = (n : Int) - 60 := ⟨(x + 60).toNat, by omega⟩
  have hn : n < 120 ∧ n ≠ 0 := by omega
  have h : ∀ n : Nat, n < 120 → n ≠ 0 → (0 ≤ zXor ((n : Int) - 60) 60 ↔ 0 ≤ (n : Int) - 60) ∧ Int.tmod ((n : Int) - 60) 60 = (n : Int) - 60 := by decide +kernel
  exact h n hn.1 hn.2
theorem c_fmod {x : Int} (hx : -60 < x ∧ x < 60) : mGd ar (d) 54 0 [.int (zI x), .int (zI 60), .double 0] [] (zW K A O t) = some (.inl (some (.int (zI (x % 60)))), zW K A O t) := by
  obtain ⟨h1, h2⟩ := zf_x60 hx
  by_cases h : 0 ≤ x
  · have h3 := h1.mpr h
    rw [show x % 60 = x by omega]
    simp (disch := first | assumption | omega | exact zr_and | exact zr_or | exact zr_xor | exact zr_shl | exact zr_shr | exact zr_ushr | exact zr_byte) only [i54_0, i54_10, i54_14, i54_18, h2, mB1_i, mB0_i, mB1n_i, mB0n_i, mB1_x, mB0_x, if_true, if_false, if_pos, if_neg]
  · have h3 : ¬ 0 ≤ zXor x 60 := fun q => h (h1.mp q)
    rw [show x % 60 = x + 60 by omega]
    simp (disch := first | assumption | omega | exact zr_and | exact zr_or | exact zr_xor | exact zr_shl | exact zr_shr | exact zr_ushr | exact zr_byte) only [i54_0, i54_10, i54_14, i54_18, h2, mB1_i, mB0_i, mB1n_i, mB0n_i, mB1_x, mB0_x, if_true, if_false, if_pos, if_neg]
theorem c_has {s k : Int} (hs : 0 ≤ s ∧ s < 256) (hk : 0 ≤ k ∧ k < 8) : mGd ar (d) 267 0 [.int (zI s), .int (zI k)] [] (zW K A O t) = some (.inl (some (.int (zI (if zB s k = true then 1 else 0)))), zW K A O t) := by
  have h := zf_shr hs hk
  by_cases hb : zB s k = true
  · rw [if_pos hb] at h ⊢
    simp (disch := first | assumption | omega | exact zr_and | exact zr_or | exact zr_xor | exact zr_shl | exact zr_shr | exact zr_ushr | exact zr_byte) only [i267_0, i267_9, i267_13, i267_14, h, mB1_i, mB0_i, mB1n_i, mB0n_i, mB1_x, mB0_x, if_true, if_false, if_pos, if_neg]
  · rw [if_neg hb] at h ⊢
    simp (disch := first | assumption | omega | exact zr_and | exact zr_or | exact zr_xor | exact zr_shl | exact zr_shr | exact zr_ushr | exact zr_byte) only [i267_0, i267_9, i267_13, i267_14, h, mB1_i, mB0_i, mB1n_i, mB0n_i, mB1_x, mB0_x, if_true, if_false, if_pos, if_neg]
end LEAF
