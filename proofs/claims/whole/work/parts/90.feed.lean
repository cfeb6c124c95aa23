/-! CALLS THAT CHANGE, 11: feed -/
theorem zByte_eq {x : Int} (hx : -2147483648 ≤ x ∧ x < 2147483648) : zByte x = (x + 128) % 256 - 128 := by
  unfold zByte
  rw [Int8.toInt_toInt32, Int32.toInt_toInt8, toInt_zI hx, Int.bmod_def]
  split <;> omega
theorem zUshr_0 {x : Int} (hx : -2147483648 ≤ x ∧ x < 2147483648) : zUshr x ((0 : Nat) : Int) = x := by
  unfold zUshr
  rw [show (zI ((0 : Nat) : Int)).toUInt32 &&& Int32.toUInt32 31 = 0 from by decide, UInt32.shiftRight_zero, Int32.toInt32_toUInt32, toInt_zI hx]
theorem zf_byte {x : Int} (hx : -2147483648 ≤ x ∧ x < 2147483648) {s : Nat} (hs : s = 0 ∨ s = 8 ∨ s = 16 ∨ s = 24) : (0 ≤ zAnd (zUshr x (s : Int)) 255 ∧ zAnd (zUshr x (s : Int)) 255 ≤ 255) ∧ zByte (zByte (zShr x (s : Int))) = zSb (zAnd (zUshr x (s : Int)) 255) := by
  have h1 := zShr_eq (x := x) (k := s) hx (by omega)
  have h3 := zAnd_mask (x := zUshr x (s : Int)) (m := 8) (by decide)
  rw [show ((2 : Int) ^ 8 - 1) = 255 from by decide, show ((2 : Int) ^ 8) = 256 from by decide] at h3
  rw [h3, h1]
  have hb : ∀ y : Int, -2147483648 ≤ y ∧ y < 2147483648 → zByte (zByte y) = (y + 128) % 256 - 128 := fun y hy => by
    rw [zByte_eq hy, zByte_eq (by omega)]
    omega
  rcases hs with rfl | rfl | rfl | rfl
  · rw [zUshr_0 hx, show ((2 : Int) ^ 0) = 1 from by decide, hb _ (by omega)]
    unfold zSb
    refine ⟨by omega, ?_⟩
    split <;> omega
  · rw [zUshr_eq (by decide) (by decide), show ((2 : Int) ^ 8) = 256 from by decide, hb _ (by omega)]
    unfold zSb
    refine ⟨by omega, ?_⟩
    split <;> omega
  · rw [zUshr_eq (by decide) (by decide), show ((2 : Int) ^ 16) = 65536 from by decide, hb _ (by omega)]
    unfold zSb
    refine ⟨by omega, ?_⟩
    split <;> omega
  · rw [zUshr_eq (by decide) (by decide), show ((2 : Int) ^ 24) = 16777216 from by decide, hb _ (by omega)]
    unfold zSb
    refine ⟨by omega, ?_⟩
    split <;> omega
def zBt (x r : Int) : Int := zAnd (zUshr x (24 - 8 * r)) 255
theorem zf_bt {x r : Int} (hx : -2147483648 ≤ x ∧ x < 2147483648) (hr : 0 ≤ r ∧ r < 4) : (0 ≤ zBt x r ∧ zBt x r ≤ 255) ∧ zByte (zByte (zShr x (24 - 8 * r))) = zSb (zBt x r) := by
  unfold zBt
  have h : 24 - 8 * r = ((24 - 8 * r).toNat : Int) := by omega
  rw [h]
  exact zf_byte hx (by omega)
section FEED
variable {ar : Nat → Nat × (Nat → Int32)} {d t : Nat} {K : Nat → Nat → Option Nat} {A : Nat → Int → Int} {O : Nat → Int64}
theorem word_loop {x l : Int} (hl : 0 ≤ l ∧ l + 4 ≤ 400) : ∀ (m : Nat) (r : Int) (B : Nat → Int → Int), r + m = 4 → 0 ≤ r → B 1 1 = l + r → (∀ j, j ≠ 1 → B 1 j = A 1 j) → (∀ c, c ≠ 1 → c ≠ 2 → B c = A c) → (∀ i, B 2 i = if l ≤ i ∧ i < l + r then zBt x (i - l) else A 2 i) → ∃ C, mGd ar (d) 15 3 [.ref 1, .int (zI x), .int (zI ((24 - 8 * r)))] [] (zW K B O t) = some (.inl none, zW K C O t) ∧ C 1 1 = l + 4 ∧ (∀ j, j ≠ 1 → C 1 j = A 1 j) ∧ (∀ c, c ≠ 1 → c ≠ 2 → C c = A c) ∧ ∀ i, C 2 i = if l ≤ i ∧ i < l + 4 then zBt x (i - l) else A 2 i := by
  intro m
  induction m with
  | zero =>
    intro r B hr r0 h1 hj hc hi
    have : r = 4 := by omega
    subst this
    exact ⟨B, by simp (disch := first | assumption | omega | exact zr_and | exact zr_or | exact zr_xor | exact zr_shl | exact zr_shr | exact zr_ushr | exact zr_byte | exact isHall3 | exact isLaw12) only [i15_3, i15_49, mB1_i, mB0_i, mB1n_i, mB0n_i, mB1_x, mB0_x, ↓if_pos, ↓if_neg, if_true, if_false, if_pos, if_neg], h1, hj, hc, hi⟩
  | succ m ih =>
    intro r B hr r0 h1 hj hc hi
    obtain ⟨C, q1, q2⟩ := ih (r + 1) (zU (zU B 2 (l + r) (zBt x r)) 1 1 (l + r + 1)) (by omega) (by omega) (by rw [zU_at]; omega) (fun j h => by rw [zU_s h, zU_c (by decide), hj j h]) (fun c c1 c2 => by rw [zU_r c1, zU_r c2, hc c c1 c2]) (fun i => by
      rw [zU_c (by decide)]
      by_cases he : i = l + r
      · rw [he, zU_at, if_pos (by omega), show l + r - l = r by omega]
      · rw [zU_s he, hi i]
        by_cases hq : l ≤ i ∧ i < l + r
        · rw [if_pos hq, if_pos (by omega)]
        · rw [if_neg hq, if_neg (by omega)])
    refine ⟨C, ?_, q2⟩
    rw [← q1, i15_3 (by omega), if_neg (by omega), i15_7 (by omega), if_neg (by omega), i15_17 (by omega), zU_c (by decide), h1, show 24 - 8 * r + -8 = 24 - 8 * (r + 1) by omega]
    rfl
theorem c_word {x l : Int} (h1 : A 1 1 = l) (hl : 0 ≤ l ∧ l + 4 ≤ 400) : ∃ C, mGd ar (d) 15 0 [.ref 1, .int (zI x), .double 0] [] (zW K A O t) = some (.inl none, zW K C O t) ∧ C 1 1 = l + 4 ∧ (∀ j, j ≠ 1 → C 1 j = A 1 j) ∧ (∀ c, c ≠ 1 → c ≠ 2 → C c = A c) ∧ ∀ i, C 2 i = if l ≤ i ∧ i < l + 4 then zBt x (i - l) else A 2 i := by
  obtain ⟨C, q1, q2⟩ := word_loop (d := d) (K := K) (O := O) (t := t) (ar := ar) (A := A) (x := x) hl 4 0 A (by omega) (by omega) (by omega) (fun _ _ => rfl) (fun _ _ _ => rfl) (fun i => by rw [if_neg (by omega)])
  exact ⟨C, by rw [i15_0]; exact q1, q2⟩
end FEED
