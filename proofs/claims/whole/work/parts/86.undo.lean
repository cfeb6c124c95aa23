/-! CALLS THAT CHANGE, 7: undo -/
section UNDO
variable {ar : Nat → Nat × (Nat → Int32)} {d t : Nat} {K : Nat → Nat → Option Nat} {A : Nat → Int → Int} {O : Nat → Int64}
theorem c_undone (hK : mKok K) (h0 : 0 < A 19 0 ∧ A 19 0 ≤ 12) (h1 : 0 ≤ A 19 1 ∧ A 19 1 < 12) : ∃ C, mGd ar (d + 2) 57 0 [.ref 19, .ref 3] [] (zW K A O t) = some (.inl (some (.int (zI 1))), zW K C O t) ∧ zHEq C 3 A (21 + 9 * ((A 19 1 - 1) % 12).toNat) ∧ C 19 1 = (A 19 1 - 1) % 12 ∧ C 19 0 = A 19 0 - 1 ∧ ∀ c, ¬ (3 ≤ c ∧ c ≤ 11) → c ≠ 19 → C c = A c := by
  have hh : isHall (21 + 9 * ((A 19 1 - 1) % 12).toNat) := by unfold isHall; omega
  have tm : Int.tmod (A 19 1 + 12 - 1) 12 = (A 19 1 - 1) % 12 := by
    rw [Int.tmod_eq_emod_of_nonneg (by omega)]
    omega
  have em : ∀ v, zU A 19 1 v 19 0 = A 19 0 := fun v => zU_s (by decide)
  have e1 : ∀ v w, (zU (zU A 19 1 v) 19 0 w) 19 1 = v := fun v w => by rw [zU_s (by decide), zU_at]
  obtain ⟨C, g1, g2, g3⟩ := c_copy (d := d) (K := K) (O := O) (t := t) (ar := ar) (A := zU (zU A 19 1 ((A 19 1 - 1) % 12)) 19 0 (A 19 0 - 1)) isHall3 hh (by omega)
  have e19 := g3 19 (by omega)
  refine ⟨C, ?_, ?_, by rw [e19]; exact e1 _ _, by rw [e19]; exact zU_at, fun c c1 c2 => by rw [g3 c (by omega), zU_r c2, zU_r c2]⟩
  · rw [i57_0 isHall3 (by omega), if_neg (by omega), i57_9 isHall3 (by omega) (by rw [tm, e1]; omega) (aq44 := 21 + 9 * ((A 19 1 - 1) % 12).toNat) (by rw [tm, e1]; exact hK.1 _ (by omega)) hh, tm, em, g1]
    simp (disch := first | assumption | omega | exact zr_and | exact zr_or | exact zr_xor | exact zr_shl | exact zr_shr | exact zr_ushr | exact zr_byte | exact isHall3 | exact isLaw12) only [i57_48 isHall3, mB1_i, mB0_i, mB1n_i, mB0n_i, mB1_x, mB0_x, ↓if_pos, ↓if_neg, if_true, if_false, if_pos, if_neg]
  · obtain ⟨x0, x1, x2, x3, x4, x5, x6, x7, x8⟩ := g2
    unfold zHEq
    have z : ∀ c, 21 ≤ c → (zU (zU A 19 1 ((A 19 1 - 1) % 12)) 19 0 (A 19 0 - 1)) c = A c := fun c hc => by rw [zU_r (by omega), zU_r (by omega)]
    rw [z _ (by omega)] at x0 x1 x2 x3 x4 x5 x6 x7 x8
    exact ⟨x0, x1, x2, x3, x4, x5, x6, x7, x8⟩
end UNDO
