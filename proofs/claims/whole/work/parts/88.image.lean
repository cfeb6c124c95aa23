/-! CALLS THAT CHANGE, 9: image -/
section IMAGE2
variable {ar : Nat → Nat × (Nat → Int32)} {d t : Nat} {K : Nat → Nat → Option Nat} {A : Nat → Int → Int} {O : Nat → Int64}
theorem image_loop : ∀ (m : Nat) (x : Int) (B : Nat → Int → Int), x + m = 1272 → 0 ≤ x → (∀ c, c ≠ 187 → B c = A c) → (∀ i, B 187 i = if 0 ≤ i ∧ i < x then A 186 i else A 187 i) → ∃ C, mGd ar (d) 217 7 [.ref 185, .int (zI x)] [] (zW K B O t) = some (.inl none, zW K (zU C 185 6 1) O t) ∧ (∀ c, c ≠ 187 → C c = A c) ∧ ∀ i, C 187 i = if 0 ≤ i ∧ i < 1272 then A 186 i else A 187 i := by
  intro m
  induction m with
  | zero =>
    intro x B hx x0 hB hS
    have : x = 1272 := by omega
    subst this
    exact ⟨B, by simp (disch := first | assumption | omega | exact zr_and | exact zr_or | exact zr_xor | exact zr_shl | exact zr_shr | exact zr_ushr | exact zr_byte | exact isHall3 | exact isLaw12) only [i217_7, i217_32, mB1_i, mB0_i, mB1n_i, mB0n_i, mB1_x, mB0_x, ↓if_pos, ↓if_neg, if_true, if_false, if_pos, if_neg], hB, hS⟩
  | succ m ih =>
    intro x B hx x0 hB hS
    have e : B 186 x = A 186 x := by rw [hB 186 (by decide)]
    obtain ⟨C, q1, q2⟩ := ih (x + 1) (zU B 187 x (A 186 x)) (by omega) (by omega) (fun c hc => by rw [zU_r hc, hB c hc]) (fun i => by
      by_cases hi : i = x
      · rw [hi, zU_at, if_pos (by omega)]
      · rw [zU_s hi, hS i]
        by_cases hj : 0 ≤ i ∧ i < x
        · rw [if_pos hj, if_pos (by omega)]
        · rw [if_neg hj, if_neg (by omega)])
    refine ⟨C, ?_, q2⟩
    rw [← q1, i217_7 (by omega), if_neg (by omega), i217_14 (by omega) (by omega), e]
theorem q_image (hI : zInv A) : ∃ A1, mGd ar (d + 12) 58 0 [.ref 0] [] (zW K A O t) = some (.inl none, zW K A1 O t) ∧ ∀ O' t', ∃ A2, mGd ar (d + 12) 217 0 [.ref 185, .double 0] [] (zW K A1 O' t') = some (.inl none, zW K A2 O' t') ∧ A2 185 0 = 0 ∧ zInv A2 := by
  obtain ⟨⟨b1, b2⟩, ⟨L, b3, b4, b5⟩, h4, ha, -, h7, h8⟩ := id hI
  obtain ⟨C, g1, g2, g3⟩ := c_copy (d := d + 10) (K := K) (O := O) (t := t) (ar := ar) (A := A) isHall129 isHall3 (by decide)
  have e12 : C 12 = A 12 := g3 12 (by omega)
  obtain ⟨C2, f1, f2, f3, f4⟩ := c_lawCopy (d := d + 11) (K := K) (O := O) (t := t) (ar := ar) (A := C) isLaw138 isLaw12 (by omega) (by rw [e12, b5]; exact b1.1.2.2.1) (zLawC_same b3 (fun c c1 c2 => g3 c (by omega)))
  have s : ∀ c, ¬ (129 ≤ c ∧ c ≤ 142) → c ≠ 0 → (zU C2 0 14 1) c = A c := fun c c1 c2 => by rw [zU_r c2, f4 c (by omega), g3 c (by omega)]
  refine ⟨zU C2 0 14 1, by simp (disch := first | assumption | omega | exact zr_and | exact zr_or | exact zr_xor | exact zr_shl | exact zr_shr | exact zr_ushr | exact zr_byte | exact isHall3 | exact isLaw12) only [i58_0, g1, i58_11, f1, i58_22, mB1_i, mB0_i, mB1n_i, mB0n_i, mB1_x, mB0_x, ↓if_pos, ↓if_neg, if_true, if_false, if_pos, if_neg], fun O' t' => ?_⟩
  obtain ⟨D, p1, p2, p3⟩ := image_loop (d := d + 12) (K := K) (O := O') (t := t') (ar := ar) (A := zU (zU C2 0 14 1) 185 0 0) 1272 0 _ (by omega) (by omega) (fun _ _ => rfl) (fun i => by rw [if_neg (by omega)])
  have q : ∀ c, c ≠ 185 → c ≠ 187 → (zU D 185 6 1) c = (zU C2 0 14 1) c := fun c c1 c2 => by rw [zU_r c1, p2 c c2, zU_r c1]
  have q' : ∀ c, c ≠ 185 → c ≠ 187 → ¬ (129 ≤ c ∧ c ≤ 142) → c ≠ 0 → (zU D 185 6 1) c = A c := fun c c1 c2 c3 c4 => by rw [q c c1 c2, s c c3 c4]
  have q5 : ∀ j, j ≠ 0 → j ≠ 6 → (zU D 185 6 1) 185 j = A 185 j := fun j j0 j7 => by rw [zU_s j7, p2 185 (by decide), zU_s j0, s 185 (by omega) (by omega)]
  have q0 : (zU D 185 6 1) 0 15 = A 0 15 := by rw [q 0 (by omega) (by omega), zU_s (by decide), f4 0 (by omega), g3 0 (by omega)]
  have q14 : (zU D 185 6 1) 0 14 = 1 := by rw [q 0 (by omega) (by omega), zU_at]
  have er : ∀ i, 0 ≤ i → i < 1272 → (zU D 185 6 1) 187 i = A 186 i := fun i x0 x1 => by rw [zU_r (by decide), p3 i, if_pos ⟨x0, x1⟩, zU_r (by decide), s 186 (by omega) (by omega)]
  have er' : ∀ i, 0 ≤ i → i < 423 → (zU D 185 6 1) 187 i = A 186 i := fun i x0 x1 => er i x0 (by omega)
  have e6 : (zU D 185 6 1) 186 = A 186 := q' 186 (by omega) (by omega) (by omega) (by omega)
  refine ⟨zU D 185 6 1, by rw [i217_0]; exact p1, by rw [zU_s (by decide), p2 185 (by decide), zU_at], ⟨by rw [e6]; exact b1, ?_⟩, ⟨L, zLawC_same b3 (fun c h1 h2 => q' c (by omega) (by omega) (by omega) (by omega)), by rw [e6]; exact b4, by rw [e6, q' 12 (by omega) (by omega) (by omega) (by omega)]; exact b5⟩, ?_, ?_, ⟨Or.inr q14, ?_, fun _ => ⟨zHWf_congr er' b1, ?_, L, ?_, ?_, ?_⟩⟩, ?_, ?_⟩
  · rw [e6]; exact zHR_same (fun c h1 h2 => q' c (by omega) (by omega) (by omega) (by omega)) b1 b2
  · unfold zTp
    rw [q' 1 (by omega) (by omega) (by omega) (by omega), q' 2 (by omega) (by omega) (by omega) (by omega), q' 191 (by omega) (by omega) (by omega) (by omega), q5 9 (by omega) (by omega)]
    exact h4
  · exact zActs_same ha (by rw [e6]) (fun c hc => q' c (by omega) (by omega) (by omega) (by omega)) (q5 7 (by omega) (by omega))
  · rw [q14, zU_at]
  · exact zHR_congr er' b1 (zHR_same (A := C) (fun c h1 h2 => by rw [q c (by omega) (by omega), zU_r (by omega), f4 c (by omega)]) b1 (zHR_eq g2 b1 b2))
  · exact zLawC_same f2 (fun c h1 h2 => by rw [q c (by omega) (by omega), zU_r (by omega)])
  · exact zLawR_congr (er 2 (by omega) (by omega)) (fun i x0 x1 => er i (by omega) x1) b4
  · rw [q 138 (by omega) (by omega), zU_r (by decide), f3, e12, b5, er 2 (by omega) (by omega)]
  · rw [q0, q5 14 (by omega) (by omega)]; exact h7
  · rw [q' 176 (by omega) (by omega) (by omega) (by omega)]; exact h8
end IMAGE2
