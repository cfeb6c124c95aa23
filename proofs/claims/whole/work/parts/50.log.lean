/-! CONTRACTS, 11: the log -/
def zTell (h : Int → Int) (ch i : Int) : Int := if i = 5 then min 60 (h 5 + 1) else if 69 ≤ i ∧ i < 423 then h (i - 6) else if i = 63 then h 3 else if 64 ≤ i ∧ i < 68 then h (11 + (i - 64)) else if i = 68 then ch else h i
noncomputable def zDL (L : zLines) (h : Int → Int) : Int → Int := zEnd (zTell (zStr (zGo1 h L)) (zChg h L))
theorem zDL_lo {L : zLines} {h : Int → Int} {i : Int} (hi : i < 63) (h5 : i ≠ 5) : zDL L h i = zD1 L h i := by
  unfold zDL zD1 zEnd
  have e : ∀ i, i < 63 → i ≠ 5 → zTell (zStr (zGo1 h L)) (zChg h L) i = zStr (zGo1 h L) i := fun i h1 h2 => by
    unfold zTell; rw [if_neg h2, if_neg (by omega), if_neg (by omega), if_neg (by omega), if_neg (by omega)]
  rw [e 3 (by omega) (by omega), e i hi h5]
theorem zDL_hi {L : zLines} {h : Int → Int} {i : Int} (hi : 63 ≤ i ∨ i = 5) : zDL L h i = zTell (zStr (zGo1 h L)) (zChg h L) i := by
  unfold zDL zEnd; rw [if_neg (by omega)]
theorem zDL_wf {L : zLines} {h : Int → Int} (hw : zHWf h) : zHWf (zDL L h) := by
  refine ⟨zHW0_congr (fun i h1 h2 h3 => zDL_lo (by omega) h3) (zD1_wf hw.1), ?_⟩
  obtain ⟨w5, wl⟩ := hw.2
  have w0 := hw.1.1
  have wg := zGo1_wf (L := L) hw.1
  have wc := zChg_rng (L := L) hw.1
  have f5 : zStr (zGo1 h L) 5 = h 5 := by rw [zStr_at wg (by omega) (by omega), zGo1_lo (by omega)]
  have fh : ∀ i, 63 ≤ i → zStr (zGo1 h L) i = h i := fun i hi => by rw [zStr_at wg (by omega) (by omega), zGo1_hi (by omega) hi]
  unfold zHWl
  have e5 : zDL L h 5 = min 60 (h 5 + 1) := by rw [zDL_hi (by omega)]; unfold zTell; rw [if_pos rfl, f5]
  rw [e5]
  refine ⟨by omega, fun i h1 h2 => ?_⟩
  by_cases hi : i = 0
  · subst hi
    refine ⟨?_, fun k k1 k2 => ?_, ?_⟩
    · rw [zDL_hi (by omega)]; unfold zTell; rw [if_neg (by omega), if_neg (by omega), if_pos (by omega), zStr_at wg (by omega) (by omega)]
      exact wg.2.2.2.1
    · rw [zDL_hi (by omega)]; unfold zTell; rw [if_neg (by omega), if_neg (by omega), if_neg (by omega), if_pos (by omega), zStr_at wg (by omega) (by omega)]
      rw [show 11 + (63 + 6 * 0 + k - 64) = 11 + (k - 1) by omega]
      exact wg.2.2.2.2.2.2.1 (k - 1) (by omega) (by omega)
    · rw [zDL_hi (by omega)]; unfold zTell; rw [if_neg (by omega), if_neg (by omega), if_neg (by omega), if_neg (by omega), if_pos (by omega)]
      exact wc
  · have q := wl (i - 1) (by omega) (by omega)
    refine ⟨?_, fun k k1 k2 => ?_, ?_⟩
    · rw [zDL_hi (by omega)]; unfold zTell; rw [if_neg (by omega), if_pos (by omega), fh _ (by omega), show 63 + 6 * i - 6 = 63 + 6 * (i - 1) by omega]
      exact q.1
    · rw [zDL_hi (by omega)]; unfold zTell; rw [if_neg (by omega), if_pos (by omega), fh _ (by omega), show 63 + 6 * i + k - 6 = 63 + 6 * (i - 1) + k by omega]
      exact q.2.1 k k1 k2
    · rw [zDL_hi (by omega)]; unfold zTell; rw [if_neg (by omega), if_pos (by omega), fh _ (by omega), show 63 + 6 * i + 5 - 6 = 63 + 6 * (i - 1) + 5 by omega]
      exact q.2.2
theorem zOr_nat {x y : Int} (hx : 0 ≤ x ∧ x < 2147483648) (hy : 0 ≤ y ∧ y < 2147483648) : zOr x y = ((x.toNat ||| y.toNat : Nat) : Int) := by
  unfold zOr
  have hlt : x.toNat ||| y.toNat < 2 ^ 31 := Nat.or_lt_two_pow (by omega) (by omega)
  have e1 : (zI x ||| zI y).toBitVec.toNat = x.toNat ||| y.toNat := by
    show ((zI x).toBitVec ||| (zI y).toBitVec).toNat = _
    rw [BitVec.toNat_or, zI_nat, zI_nat, show x % 4294967296 = x by omega, show y % 4294967296 = y by omega]
  show (zI x ||| zI y).toBitVec.toInt = _
  rw [BitVec.toInt_eq_toNat_of_lt (by rw [e1]; omega), e1]
theorem zOr_shl {x y : Int} {k : Nat} (hx : 0 ≤ x ∧ x < 2 ^ k) (hy : 0 ≤ y) (hlt : y * 2 ^ k + x < 2147483648) : zOr x (y * 2 ^ k) = x + y * 2 ^ k := by
  have hp : (0 : Int) < 2 ^ k := Int.pow_pos (by decide)
  have hyp : 0 ≤ y * 2 ^ k := Int.mul_nonneg hy (by omega)
  rw [zOr_nat (by omega) (by omega)]
  have e0 : ((2 : Int) ^ k) = ((2 ^ k : Nat) : Int) := by simp
  have e1 : (y * 2 ^ k).toNat = 2 ^ k * y.toNat := by
    have : y * 2 ^ k = ((2 ^ k * y.toNat : Nat) : Int) := by rw [Int.natCast_mul, Int.toNat_of_nonneg hy, e0, Int.mul_comm]
    rw [this, Int.toNat_natCast]
  rw [e1, Nat.or_comm, ← Nat.two_pow_add_eq_or_of_lt (by omega), Int.natCast_add, Int.natCast_mul, Int.toNat_of_nonneg hy, Int.toNat_of_nonneg hx.1, ← e0]
  rw [Int.add_comm, Int.mul_comm y]
theorem zf_shl7 {y : Int} (hy : 0 ≤ y ∧ y ≤ 99) : zShl y 0 = y ∧ zShl y 7 = y * 2 ^ 7 ∧ zShl y 14 = y * 2 ^ 14 ∧ zShl y 21 = y * 2 ^ 21 := by
  obtain ⟨n, rfl⟩ : ∃ n : Nat, y = (n : Int) := ⟨y.toNat, by omega⟩
  have hn : n < 100 := by omega
  clear hy
  revert n
  decide +kernel
theorem zf_pack {w x y z : Int} (hw : 0 ≤ w ∧ w ≤ 99) (hx : 0 ≤ x ∧ x ≤ 99) (hy : 0 ≤ y ∧ y ≤ 99) (hz : 0 ≤ z ∧ z ≤ 99) : zOr (zOr (zOr (zOr 0 (zShl w 0)) (zShl x 7)) (zShl y 14)) (zShl z 21) = zPack w x y z := by
  rw [(zf_shl7 hw).1, (zf_shl7 hx).2.1, (zf_shl7 hy).2.2.1, (zf_shl7 hz).2.2.2]
  have p7 : (2 : Int) ^ 7 = 128 := by decide
  have p14 : (2 : Int) ^ 14 = 16384 := by decide
  have p21 : (2 : Int) ^ 21 = 2097152 := by decide
  have e0 : zOr 0 w = w := by
    have := zOr_shl (x := 0) (y := w) (k := 0) (by decide) hw.1 (by simp; omega)
    simpa using this
  rw [e0, zOr_shl (by omega) hx.1 (by omega), zOr_shl (by omega) hy.1 (by omega), zOr_shl (by omega) hz.1 (by omega)]
  unfold zPack
  omega
theorem zf_unpack {w x y z k : Int} (hw : 0 ≤ w ∧ w ≤ 99) (hx : 0 ≤ x ∧ x ≤ 99) (hy : 0 ≤ y ∧ y ≤ 99) (hz : 0 ≤ z ∧ z ≤ 99) (hk : 0 ≤ k ∧ k < 4) : zAnd (zUshr (zPack w x y z) (7 * k)) 127 = if k = 0 then w else if k = 1 then x else if k = 2 then y else z := by
  have hm : ∀ v : Int, zAnd v 127 = v % 128 := fun v => by
    have := zAnd_mask (x := v) (m := 7) (by decide)
    rw [show ((2 : Int) ^ 7) = 128 from by decide, show (128 - 1 : Int) = 127 from rfl] at this
    exact this
  rw [hm]
  have hp : 0 ≤ zPack w x y z ∧ zPack w x y z < 268435456 := by unfold zPack; omega
  by_cases k0 : k = 0
  · subst k0
    have e : zUshr (zPack w x y z) (7 * 0) = zPack w x y z := by
      unfold zUshr
      have e1 : ((zI (7 * 0)).toUInt32 &&& Int32.toUInt32 31) = 0 := by decide
      rw [e1]
      have e2 : (zI (zPack w x y z)).toUInt32 >>> (0 : UInt32) = (zI (zPack w x y z)).toUInt32 := by
        apply UInt32.toNat_inj.mp
        rw [UInt32.toNat_shiftRight]
        simp
      rw [e2]
      show (zI (zPack w x y z)).toInt = _
      exact toInt_zI (by omega)
    rw [e, if_pos rfl]; unfold zPack; omega
  by_cases k1 : k = 1
  · subst k1
    have e := zUshr_eq (x := zPack w x y z) (k := 7) (by decide) (by decide)
    rw [show ((7 : Nat) : Int) = 7 * 1 from rfl] at e
    rw [e, if_neg (by decide), if_pos rfl, show ((2 : Int) ^ 7) = 128 from by decide]; unfold zPack at *; omega
  by_cases k2 : k = 2
  · subst k2
    have e := zUshr_eq (x := zPack w x y z) (k := 14) (by decide) (by decide)
    rw [show ((14 : Nat) : Int) = 7 * 2 from rfl] at e
    rw [e, if_neg (by decide), if_neg (by decide), if_pos rfl, show ((2 : Int) ^ 14) = 16384 from by decide]; unfold zPack at *; omega
  · have k3 : k = 3 := by omega
    subst k3
    have e := zUshr_eq (x := zPack w x y z) (k := 21) (by decide) (by decide)
    rw [show ((21 : Nat) : Int) = 7 * 3 from rfl] at e
    rw [e, if_neg (by decide), if_neg (by decide), if_neg (by decide), show ((2 : Int) ^ 21) = 2097152 from by decide]; unfold zPack at *; omega
section LOG
variable {ar : Nat → Nat × (Nat → Int32)} {d t : Nat} {K : Nat → Nat → Option Nat} {A A' : Nat → Int → Int} {O : Nat → Int64}
theorem zHR0_same5 {a : Nat} {h : Int → Int} (e : ∀ c, a ≤ c → c ≤ a + 4 → A' c = A c) (hr : zHR0 A a h) : zHR0 A' a h := by
  unfold zHR0
  rw [e a (by omega) (by omega), e (a + 1) (by omega) (by omega), e (a + 2) (by omega) (by omega), e (a + 3) (by omega) (by omega), e (a + 4) (by omega) (by omega)]
  exact hr
theorem c_packed {a : Nat} (ha : isHall a) (h : ∀ k, 0 ≤ k → k < 4 → 0 ≤ A (a + 4) k ∧ A (a + 4) k ≤ 99) : mGd ar (d) 21 0 [.ref a, .double 0, .double 0] [] (zW K A O t) = some (.inl (some (.int (zI (zPack (A (a + 4) 0) (A (a + 4) 1) (A (a + 4) 2) (A (a + 4) 3))))), zW K A O t) := by
  rw [← zf_pack (h 0 (by omega) (by omega)) (h 1 (by omega) (by omega)) (h 2 (by omega) (by omega)) (h 3 (by omega) (by omega))]
  simp (disch := first | assumption | omega | exact zr_and | exact zr_or | exact zr_xor | exact zr_shl | exact zr_shr | exact zr_ushr | exact zr_byte) only [i21_0, i21_4, i21_9, i21_29, mB1_i, mB0_i, mB1n_i, mB0n_i, mB1_x, mB0_x, ↓if_pos, ↓if_neg, if_true, if_false, if_pos, if_neg]
  rfl
theorem c_slot {a : Nat} (ha : isHall a) {i : Int} (hl : 0 ≤ A (a + 5) 1 ∧ A (a + 5) 1 < 60) (hi : 0 ≤ i ∧ i < 60) : mGd ar (d + 1) 53 0 [.ref ((a + 5)), .int (zI i)] [] (zW K A O t) = some (.inl (some (.int (zI ((A (a + 5) 1 - i) % 60)))), zW K A O t) := by
  have hlog := isHall_log ha
  have c1 := c_fmod (d := d) (K := K) (O := O) (t := t) (ar := ar) (A := A) (x := A (a + 5) 1 - i) (by omega)
  simp (disch := first | assumption | omega | exact zr_and | exact zr_or | exact zr_xor | exact zr_shl | exact zr_shr | exact zr_ushr | exact zr_byte) only [i53_0, i53_11, c1, mB1_i, mB0_i, mB1n_i, mB0n_i, mB1_x, mB0_x, ↓if_pos, ↓if_neg, if_true, if_false, if_pos, if_neg]
theorem c_logAdd {a : Nat} (ha : isHall a) (hl : 0 ≤ A (a + 5) 1 ∧ A (a + 5) 1 < 60) (h0 : 0 ≤ A (a + 5) 0 ∧ A (a + 5) 0 ≤ 60) {x y z : Int} : ∃ A', mGd ar (d + 1) 132 0 [.ref ((a + 5)), .int (zI x), .int (zI y), .int (zI z)] [] (zW K A O t) = some (.inl none, zW K A' O t) ∧ A' (a + 5) 0 = min 60 (A (a + 5) 0 + 1) ∧ A' (a + 5) 1 = (A (a + 5) 1 + 1) % 60 ∧ (∀ i, A' (a + 6) i = if i = (A (a + 5) 1 + 1) % 60 then x else A (a + 6) i) ∧ (∀ i, A' (a + 7) i = if i = (A (a + 5) 1 + 1) % 60 then y else A (a + 7) i) ∧ (∀ i, A' (a + 8) i = if i = (A (a + 5) 1 + 1) % 60 then z else A (a + 8) i) ∧ ∀ c, ¬ (a + 5 ≤ c ∧ c ≤ a + 8) → A' c = A c := by
  have hlog := isHall_log ha
  have tm : Int.tmod (A (a + 5) 1 + 1) 60 = (A (a + 5) 1 + 1) % 60 := Int.tmod_eq_emod_of_nonneg (by omega)
  have m1 : ∀ B : Nat → Int → Int, mGd ar (d) 39 0 [.int (zI 60), .int (zI ((A (a + 5) 0 + 1)))] [] (zW K B O t) = some (.inl (some (.int (zI (min 60 (A (a + 5) 0 + 1))))), zW K B O t) := fun B => c_min (by omega) (by omega)
  rw [i132_0 hlog (by omega) (by rw [tm]; simp (disch := first | assumption | omega) only [zU_at, zU_c, zU_s, zU_r]; omega) (by rw [tm]; simp (disch := first | assumption | omega) only [zU_at, zU_c, zU_s, zU_r]; omega) (by rw [tm]; simp (disch := first | assumption | omega) only [zU_at, zU_c, zU_s, zU_r]; omega)]
  rw [tm]
  simp (disch := first | assumption | omega) only [Nat.add_assoc, Nat.reduceAdd, zU_at, zU_c, zU_s, zU_r]
  rw [m1]
  simp (disch := first | assumption | omega | exact zr_and | exact zr_or | exact zr_xor | exact zr_shl | exact zr_shr | exact zr_ushr | exact zr_byte) only [i132_55, mB1_i, mB0_i, mB1n_i, mB0n_i, mB1_x, mB0_x, ↓if_pos, ↓if_neg, if_true, if_false, if_pos, if_neg]
  refine ⟨_, rfl, ?_, ?_, fun i => ?_, fun i => ?_, fun i => ?_, fun c hc => ?_⟩
  · simp (disch := first | assumption | omega) only [zU_at, zU_c, zU_s, zU_r]
  · simp (disch := first | assumption | omega) only [zU_at, zU_c, zU_s, zU_r]
  · by_cases hi : i = (A (a + 5) 1 + 1) % 60
    · rw [if_pos hi, hi]; simp (disch := first | assumption | omega) only [zU_at, zU_c, zU_s, zU_r]
    · rw [if_neg hi]; simp (disch := first | assumption | omega) only [zU_at, zU_c, zU_s, zU_r]
  · by_cases hi : i = (A (a + 5) 1 + 1) % 60
    · rw [if_pos hi, hi]; simp (disch := first | assumption | omega) only [zU_at, zU_c, zU_s, zU_r]
    · rw [if_neg hi]; simp (disch := first | assumption | omega) only [zU_at, zU_c, zU_s, zU_r]
  · by_cases hi : i = (A (a + 5) 1 + 1) % 60
    · rw [if_pos hi, hi]; simp (disch := first | assumption | omega) only [zU_at, zU_c, zU_s, zU_r]
    · rw [if_neg hi]; simp (disch := first | assumption | omega) only [zU_at, zU_c, zU_s, zU_r]
  · simp (disch := first | assumption | omega) only [zU_at, zU_c, zU_s, zU_r]
/-- what a logged day leaves as it was -/
def zPl (A A' : Nat → Int → Int) (a b : Nat) : Prop := ∀ x, ¬ (a ≤ x ∧ x ≤ a + 8) → x ≠ 173 → x ≠ 174 → x ≠ b + 5 → x ≠ b + 6 → A' x = A x
theorem c_logged {a b : Nat} (ha : isHall a) (hb : isLaw b) (hab : b + 6 < a ∨ a + 8 < b) {h : Int → Int} {L : zLines} (hw : zHWf h) (hr : zHR A a h) (hL : zLawC A b L) :
    ∃ A', mGd ar (d + 5) 131 0 [.ref a, .ref b, .ref 173, .double 0, .double 0] [] (zW K A O t) = some (.inl (some (.int (zI (zChg h L)))), zW K A' O t) ∧ zHR A' a (zDL L h) ∧ zPl A A' a b := by
  have hlt := isHall_lt ha
  have hlb := isLaw_lt hb
  obtain ⟨B, g1, g2, g3⟩ := c_passDay (d := d) (K := K) (O := O) (t := t) (ar := ar) ha hb hab hw.1 hr.1 hL (dr := 1) (Or.inr rfl)
  rw [if_pos rfl] at g2
  have wg := zGo1_wf (L := L) hw.1
  have wd := zD1_wf (L := L) hw.1
  have hm : ∀ k, 0 ≤ k → k < 4 → B (a + 4) k = zGo1 h L (11 + k) := fun k k0 k1 => by
    rw [g2.2.2.2.2.2.2.1 k k0 k1]
    unfold zD1 zEnd
    rw [if_neg (by omega), zStr_at wg (by omega) (by omega)]
  have hm9 : ∀ k, 0 ≤ k → k < 4 → 0 ≤ B (a + 4) k ∧ B (a + 4) k ≤ 99 := fun k k0 k1 => by rw [hm k k0 k1]; exact wg.2.2.2.2.2.2.1 k k0 k1
  have p1 := c_packed (d := d + 4) (K := K) (O := O) (t := t) (ar := ar) (A := B) ha hm9
  have e5 : B (a + 5) = A (a + 5) := g3 _ (by omega) (by omega) (by omega) (by omega) (by omega) (by omega) (by omega)
  have e6 : B (a + 6) = A (a + 6) := g3 _ (by omega) (by omega) (by omega) (by omega) (by omega) (by omega) (by omega)
  have e7 : B (a + 7) = A (a + 7) := g3 _ (by omega) (by omega) (by omega) (by omega) (by omega) (by omega) (by omega)
  have e8 : B (a + 8) = A (a + 8) := g3 _ (by omega) (by omega) (by omega) (by omega) (by omega) (by omega) (by omega)
  obtain ⟨q0, q1, q2⟩ := hr.2
  have w5 := hw.2.1
  obtain ⟨A', f1, f2, f3, f4, f5, f6, f7⟩ := c_logAdd (d := d + 3) (K := K) (O := O) (t := t) (ar := ar) (A := B) ha (x := A a 7) (y := zPack (B (a + 4) 0) (B (a + 4) 1) (B (a + 4) 2) (B (a + 4) 3)) (z := zChg h L) (by rw [e5]; exact q1) (by rw [e5, q0]; exact w5)
  rw [e5] at f2 f3 f4 f5 f6
  rw [e6] at f4
  rw [e7] at f5
  rw [e8] at f6
  refine ⟨A', ?_, ⟨?_, ?_⟩, fun x x1 x2 x3 x4 x5 => by rw [f7 x (by omega), g3 x (by omega) (by omega) (by omega) x2 x3 x4 x5]⟩
  · simp (disch := first | assumption | omega | exact zr_and | exact zr_or | exact zr_xor | exact zr_shl | exact zr_shr | exact zr_ushr | exact zr_byte) only [i131_0, i131_12, i131_23, i131_28, g1, p1, f1, mB1_i, mB0_i, mB1n_i, mB0n_i, mB1_x, mB0_x, ↓if_pos, ↓if_neg, if_true, if_false, if_pos, if_neg]
  · refine zHR0_congr (h := zD1 L h) (fun i h1 h2 h3 => zDL_lo (by omega) h3) wd ?_
    exact zHR0_same5 (fun c h1 h2 => f7 c (by omega)) g2
  · have fh : ∀ i, 63 ≤ i → zStr (zGo1 h L) i = h i := fun i hi => by rw [zStr_at wg (by omega) (by omega), zGo1_hi (by have := hw.1.1; omega) hi]
    have f5' : zStr (zGo1 h L) 5 = h 5 := by rw [zStr_at wg (by omega) (by omega), zGo1_lo (by omega)]
    have e5' : zDL L h 5 = min 60 (h 5 + 1) := by rw [zDL_hi (by omega)]; unfold zTell; rw [if_pos rfl, f5']
    unfold zLog
    rw [f2, f3, e5', q0]
    refine ⟨rfl, by omega, fun i i0 i1 => ?_⟩
    rw [f4, f5, f6]
    by_cases hi : i = 0
    · subst hi
      rw [if_pos (by omega), if_pos (by omega), if_pos (by omega)]
      have r7 := hr.1.2.2.1
      refine ⟨?_, ?_, ?_⟩
      · rw [r7, zDL_hi (by omega)]; unfold zTell; rw [if_neg (by omega), if_neg (by omega), if_pos (by omega), zStr_at wg (by omega) (by omega), zGo1_lo (by omega)]
      · rw [hm 0 (by omega) (by omega), hm 1 (by omega) (by omega), hm 2 (by omega) (by omega), hm 3 (by omega) (by omega)]
        have e : ∀ k, 1 ≤ k → k ≤ 4 → zDL L h (63 + 6 * 0 + k) = zGo1 h L (11 + (k - 1)) := fun k k1 k2 => by
          rw [zDL_hi (by omega)]; unfold zTell; rw [if_neg (by omega), if_neg (by omega), if_neg (by omega), if_pos (by omega), zStr_at wg (by omega) (by omega)]
          congr 1; omega
        rw [e 1 (by omega) (by omega), e 2 (by omega) (by omega), e 3 (by omega) (by omega), e 4 (by omega) (by omega)]
        rfl
      · rw [zDL_hi (by omega)]; unfold zTell; rw [if_neg (by omega), if_neg (by omega), if_neg (by omega), if_neg (by omega), if_pos (by omega)]
    · rw [if_neg (by omega), if_neg (by omega), if_neg (by omega)]
      have q := q2 (i - 1) (by omega) (by omega)
      have e : ∀ k, 0 ≤ k → k < 6 → zDL L h (63 + 6 * i + k) = h (63 + 6 * (i - 1) + k) := fun k k1 k2 => by
        rw [zDL_hi (by omega)]; unfold zTell; rw [if_neg (by omega), if_pos (by omega), fh _ (by omega)]
        congr 1; omega
      have e0 := e 0 (by omega) (by omega)
      rw [Int.add_zero, Int.add_zero] at e0
      rw [e0, e 1 (by omega) (by omega), e 2 (by omega) (by omega), e 3 (by omega) (by omega), e 4 (by omega) (by omega), e 5 (by omega) (by omega)]
      rw [show ((A (a + 5) 1 + 1) % 60 - i) % 60 = (A (a + 5) 1 - (i - 1)) % 60 by omega]
      exact q
end LOG
