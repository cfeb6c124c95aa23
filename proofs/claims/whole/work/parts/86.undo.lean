/-! CALLS THAT CHANGE, 7: undo -/
section UNDO
variable {ar : Nat → Nat × (Nat → Int32)} {d t : Nat} {K : Nat → Nat → Option Nat} {A : Nat → Int → Int} {O : Nat → Int64}
theorem c_undone (hK : mKok K) (h0 : 0 < A 19 0 ∧ A 19 0 ≤ 12) (h1 : 0 ≤ A 19 1 ∧ A 19 1 < 12) : ∃ C, mGd ar (d + 2) 57 0 [.ref 19, .ref 3] [] (zW K A O t) = some (.inl (some (.int (zI 1))), zW K C O t) ∧ zHEq C 3 A (21 + 9 * ((A 19 1 - 1) % 12).toNat) ∧ C 19 1 = (A 19 1 - 1) % 12 ∧ C 19 0 = A 19 0 - 1 ∧ ∀ c, ¬ (3 ≤ c ∧ c ≤ 11) → c ≠ 19 → C c = A c := by
  have hh : isHall (21 + 9 * ((A 19 1 - 1) % 12).toNat) := by unfold isHall; omega
  have tm : Int.tmod (A 19 1 + 12 - 1) 12 = (A 19 1 - 1) % 12 := by
    rw [Int.tmod_eq_emod_of_nonneg (by omega)]
    omega
  have em : ∀ v, zU A 19 1 v 19 0 = A 19 0 := fun v => zU_s (by decide)
  have e1 : ∀ v w, (zU (zU A 19 1 v) 19 0 w) 19 1 = v := fun v w => by rw [zU_s (by decide), zU_at]
  obtain ⟨C, g1, g2, g3⟩ := c_copy (d := d) (K := K) (O := O) (t := t) (ar := ar) (A := zU (zU A 19 1 ((A 19 1 - 1) % 12)) 19 0 (A 19 0 - 1)) isHall3 hh (by omega)
  have e19 := g3 19 (by omega)
  refine ⟨C, ?_, ?_, by rw [e19]; exact e1 _ _, by rw [e19]; exact zU_at, fun c c1 c2 => by rw [g3 c (by omega), zU_r c2, zU_r c2]⟩
  · rw [i57_0 isHall3 (by omega), if_neg (by omega), i57_9 isHall3 (by omega) (by rw [tm, e1]; omega) (aq44 := 21 + 9 * ((A 19 1 - 1) % 12).toNat) (by rw [tm, e1]; exact hK.1 _ (by omega)) hh, tm, em, g1]
    simp (disch := first | assumption | omega | exact zr_and | exact zr_or | exact zr_xor | exact zr_shl | exact zr_shr | exact zr_ushr | exact zr_byte | exact isHall3 | exact isLaw12) only [i57_48 isHall3, mB1_i, mB0_i, mB1n_i, mB0n_i, mB1_x, mB0_x, ↓if_pos, ↓if_neg, if_true, if_false, if_pos, if_neg]
  · obtain ⟨x0, x1, x2, x3, x4, x5, x6, x7, x8⟩ := g2
    unfold zHEq
    have z : ∀ c, 21 ≤ c → (zU (zU A 19 1 ((A 19 1 - 1) % 12)) 19 0 (A 19 0 - 1)) c = A c := fun c hc => by rw [zU_r (by omega), zU_r (by omega)]
    rw [z _ (by omega)] at x0 x1 x2 x3 x4 x5 x6 x7 x8
    exact ⟨x0, x1, x2, x3, x4, x5, x6, x7, x8⟩
theorem undo_loop {r : Int} (hr : 0 ≤ r ∧ r < 12) (h7 : A 185 7 = r) : ∀ (m : Nat) (x : Int) (B : Nat → Int → Int), x + m = 423 → 0 ≤ x → (∀ c, c ≠ 186 → B c = A c) → (∀ i, B 186 i = if 0 ≤ i ∧ i < x then A 190 (423 * r + i) else A 186 i) → ∃ C, mGd ar (d) 219 26 [.ref 185, .int (zI x)] [] (zW K B O t) = some (.inl (some (.int (zI 1))), zW K C O t) ∧ (∀ c, c ≠ 186 → C c = A c) ∧ ∀ i, C 186 i = if 0 ≤ i ∧ i < 423 then A 190 (423 * r + i) else A 186 i := by
  intro m
  induction m with
  | zero =>
    intro x B hx x0 hB hS
    have : x = 423 := by omega
    subst this
    exact ⟨B, by simp (disch := first | assumption | omega | exact zr_and | exact zr_or | exact zr_xor | exact zr_shl | exact zr_shr | exact zr_ushr | exact zr_byte | exact isHall3 | exact isLaw12) only [i219_26, i219_60, mB1_i, mB0_i, mB1n_i, mB0n_i, mB1_x, mB0_x, ↓if_pos, ↓if_neg, if_true, if_false, if_pos, if_neg], hB, hS⟩
  | succ m ih =>
    intro x B hx x0 hB hS
    have e6 : B 190 (423 * r + x) = A 190 (423 * r + x) := by rw [hB 190 (by decide)]
    have e7 : B 185 7 = r := by rw [hB 185 (by decide), h7]
    obtain ⟨C, q1, q2⟩ := ih (x + 1) (zU B 186 x (A 190 (423 * r + x))) (by omega) (by omega) (fun c hc => by rw [zU_r hc, hB c hc]) (fun i => by
      by_cases hi : i = x
      · rw [hi, zU_at, if_pos (by omega)]
      · rw [zU_s hi, hS i]
        by_cases hj : 0 ≤ i ∧ i < x
        · rw [if_pos hj, if_pos (by omega)]
        · rw [if_neg hj, if_neg (by omega)])
    refine ⟨C, ?_, q2⟩
    rw [← q1, i219_26 (by omega), if_neg (by omega), i219_33 (by rw [e7]; omega) (by omega), e7, e6]
theorem q_undo (hK : mKok K) (hI : zInv A) : zQ ar K O t (d + 12) 56 [.ref 0] 219 [.ref 185, .double 0] (fun _ => 0) A := by
  obtain ⟨a1, a2, a3, a4⟩ := hI.2.2.2.1
  by_cases hz : A 19 0 = 0
  · refine zQ_ok (b := 0) (A1 := A) hI ?_ zFc_refl (by omega) (fun O' t' => ⟨zU A 185 0 0, ?_, zU_at, zFm_u⟩)
    · simp (disch := first | assumption | omega | exact zr_and | exact zr_or | exact zr_xor | exact zr_shl | exact zr_shr | exact zr_ushr | exact zr_byte | exact isHall3 | exact isLaw12) only [i56_0, i56_11, i57_0 isHall3, hz, i57_7 isHall3, mB1_i, mB0_i, mB1n_i, mB0n_i, mB1_x, mB0_x, ↓if_pos, ↓if_neg, if_true, if_false, if_pos, if_neg]
    · have e7 : (zU A 185 0 0) 185 7 = 0 := by rw [zU_s (by decide), a1, hz]
      rw [i219_0 (by rw [e7]; omega), if_pos e7, i219_12]
  · obtain ⟨C, g1, g2, g3, g4, g5⟩ := c_undone (d := d + 9) (K := K) (O := O) (t := t) (ar := ar) hK (by omega) a3
    refine ⟨C, Or.inl ⟨1, ?_, by omega, fun O' t' => ?_⟩⟩
    · simp (disch := first | assumption | omega | exact zr_and | exact zr_or | exact zr_xor | exact zr_shl | exact zr_shr | exact zr_ushr | exact zr_byte | exact isHall3 | exact isLaw12) only [i56_0, i56_11, g1, mB1_i, mB0_i, mB1n_i, mB0n_i, mB1_x, mB0_x, ↓if_pos, ↓if_neg, if_true, if_false, if_pos, if_neg]
    · have e185 : C 185 = A 185 := g5 185 (by omega) (by omega)
      have e7 : (zU C 185 0 0) 185 7 = A 19 0 := by rw [zU_s (by decide), e185, a1]
      obtain ⟨D, f1, f2, f3⟩ := undo_loop (d := d + 12) (K := K) (O := O') (t := t') (ar := ar) (A := zU (zU C 185 0 0) 185 7 (A 19 0 - 1)) (r := A 19 0 - 1) (by omega) zU_at 423 0 _ (by omega) (by omega) (fun _ _ => rfl) (fun i => by rw [if_neg (by omega)])
      have s : ∀ c, c ≠ 185 → c ≠ 186 → ¬ (3 ≤ c ∧ c ≤ 11) → c ≠ 19 → D c = A c := fun c c1 c2 c3 c4 => by rw [f2 c c2, zU_r c1, zU_r c1, g5 c c3 c4]
      have e6 : ∀ i, D 186 i = if 0 ≤ i ∧ i < 423 then A 190 (423 * (A 19 0 - 1) + i) else A 186 i := fun i => by
        rw [f3 i, zU_r (by decide), zU_r (by decide), zU_r (by decide), zU_r (by decide), g5 190 (by omega) (by omega), g5 186 (by omega) (by omega)]
      obtain ⟨b1, b2, b3⟩ := a4 (A 19 0 - 1) (by omega) (by omega)
      have er : ∀ i, 0 ≤ i → i < 423 → D 186 i = (fun i => A 190 (423 * (A 19 0 - 1) + i)) i := fun i i0 i1 => by rw [e6, if_pos ⟨i0, i1⟩]
      have e2 : D 186 2 = A 186 2 := by rw [er 2 (by omega) (by omega)]; exact b3
      have es : zAh A (A 19 0 - 1) = 21 + 9 * ((A 19 1 - 1) % 12).toNat := by
        unfold zAh
        rw [show (A 19 1 - A 19 0 + (A 19 0 - 1)) % 12 = (A 19 1 - 1) % 12 by omega]
      rw [es] at b2
      have hD : ∀ c, c ≠ 185 → c ≠ 186 → D c = C c := fun c c1 c2 => by rw [f2 c c2, zU_r c1, zU_r c1]
      have hj : ∀ j, j ≠ 0 → j ≠ 7 → D 185 j = A 185 j := fun j j0 j1 => by rw [f2 185 (by decide), zU_s j1, zU_s j0, e185]
      refine ⟨D, ?_, by rw [f2 185 (by decide), zU_s (by decide), zU_at], zInv_hall hI (zHWf_congr er b1) ?_ e2 (fun i hi => by rw [e6, if_neg (by omega)]) ?_ (fun c hc => s c (by omega) (by omega) (by omega) (by omega)) (fun j hx => hj j (by omega) (by omega))⟩
      · rw [i219_0 (by rw [e7]; omega), e7, if_neg hz, i219_14, e7]
        exact f1
      · exact zHR_congr er b1 (zHR_same (A := C) (fun c h1 h2 => hD c (by omega) (by omega)) b1 (zHR_eq g2 b1 b2))
      · have e19 : D 19 = C 19 := hD 19 (by omega) (by omega)
        have e190 : D 190 = A 190 := s 190 (by omega) (by omega) (by omega) (by omega)
        refine ⟨by rw [f2 185 (by decide), zU_at, e19, g4], by rw [e19, g4]; omega, by rw [e19, g3]; omega, fun j j0 j1 => ?_⟩
        rw [e19, g4] at j1
        obtain ⟨c1, c2, c3⟩ := a4 j j0 (by omega)
        have ez : zAh D j = zAh A j := by
          unfold zAh
          rw [e19, g3, g4, show ((A 19 1 - 1) % 12 - (A 19 0 - 1) + j) % 12 = (A 19 1 - A 19 0 + j) % 12 by omega]
        have hl := zAh_lt (A := A) (j := j)
        rw [ez, e190, e2]
        exact ⟨c1, zHR_same (A := A) (fun c h1 h2 => s c (by omega) (by omega) (by omega) (by omega)) c1 c2, c3⟩
end UNDO
