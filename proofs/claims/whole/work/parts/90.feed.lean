/-! CALLS THAT CHANGE, 11: feed -/
theorem zByte_eq {x : Int} (hx : -2147483648 ≤ x ∧ x < 2147483648) : zByte x = (x + 128) % 256 - 128 := by
  unfold zByte
  rw [Int8.toInt_toInt32, Int32.toInt_toInt8, toInt_zI hx, Int.bmod_def]
  split <;> omega
theorem zUshr_0 {x : Int} (hx : -2147483648 ≤ x ∧ x < 2147483648) : zUshr x ((0 : Nat) : Int) = x := by
  unfold zUshr
  rw [show (zI ((0 : Nat) : Int)).toUInt32 &&& Int32.toUInt32 31 = 0 from by decide, UInt32.shiftRight_zero, Int32.toInt32_toUInt32, toInt_zI hx]
theorem zf_byte {x : Int} (hx : -2147483648 ≤ x ∧ x < 2147483648) {s : Nat} (hs : s = 0 ∨ s = 8 ∨ s = 16 ∨ s = 24) : (0 ≤ zAnd (zUshr x (s : Int)) 255 ∧ zAnd (zUshr x (s : Int)) 255 ≤ 255) ∧ zByte (zByte (zShr x (s : Int))) = zSb (zAnd (zUshr x (s : Int)) 255) := by
  have h1 := zShr_eq (x := x) (k := s) hx (by omega)
  have h3 := zAnd_mask (x := zUshr x (s : Int)) (m := 8) (by decide)
  rw [show ((2 : Int) ^ 8 - 1) = 255 from by decide, show ((2 : Int) ^ 8) = 256 from by decide] at h3
  rw [h3, h1]
  have hb : ∀ y : Int, -2147483648 ≤ y ∧ y < 2147483648 → zByte (zByte y) = (y + 128) % 256 - 128 := fun y hy => by
    rw [zByte_eq hy, zByte_eq (by omega)]
    omega
  rcases hs with rfl | rfl | rfl | rfl
  · rw [zUshr_0 hx, show ((2 : Int) ^ 0) = 1 from by decide, hb _ (by omega)]
    unfold zSb
    refine ⟨by omega, ?_⟩
    split <;> omega
  · rw [zUshr_eq (by decide) (by decide), show ((2 : Int) ^ 8) = 256 from by decide, hb _ (by omega)]
    unfold zSb
    refine ⟨by omega, ?_⟩
    split <;> omega
  · rw [zUshr_eq (by decide) (by decide), show ((2 : Int) ^ 16) = 65536 from by decide, hb _ (by omega)]
    unfold zSb
    refine ⟨by omega, ?_⟩
    split <;> omega
  · rw [zUshr_eq (by decide) (by decide), show ((2 : Int) ^ 24) = 16777216 from by decide, hb _ (by omega)]
    unfold zSb
    refine ⟨by omega, ?_⟩
    split <;> omega
