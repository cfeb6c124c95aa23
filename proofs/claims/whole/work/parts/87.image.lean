/-! CALLS THAT CHANGE, 8: image, back -/
section IMAGE
variable {ar : Nat → Nat × (Nat → Int32)} {d t : Nat} {K : Nat → Nat → Option Nat} {A : Nat → Int → Int} {O : Nat → Int64}
theorem c_lawCopy {a b : Nat} (ha : isLaw a) (hb : isLaw b) (hab : b + 6 < a ∨ a + 6 < b) (h0 : A b 0 = 0 ∨ A b 0 = 1) {L : zLines} (hL : zLawC A b L) : ∃ C, mGd ar (d) 59 0 [.ref a, .ref b] [] (zW K A O t) = some (.inl none, zW K C O t) ∧ zLawC C a L ∧ C a 0 = A b 0 ∧ ∀ c, ¬ (a ≤ c ∧ c ≤ a + 4) → C c = A c := by
  obtain ⟨l1, l2, l3, l4, l5⟩ := hL
  rw [i59_0 ha hb h0]
  refine ⟨_, rfl, ⟨?_, l2, l3, l4, zLwC_of (A := A) (b := b) (fun i h1 h2 => ?_) (fun i h1 h2 => ?_) (fun i h1 h2 => ?_) (fun i h1 h2 => ?_) L 0 0 (by omega) (by omega) (by omega) (by omega) l5⟩, ?_, fun c hc => ?_⟩
  · rw [← l1]; simp (disch := first | assumption | omega) only [zC_r, zU_at, zU_c, zU_s, zU_r]
  all_goals simp (disch := first | assumption | omega) only [zC_r, zC_in, zC_out, Nat.add_assoc, Nat.reduceAdd, Int.sub_zero, Int.zero_add, zU_at, zU_c, zU_s, zU_r]
theorem back_loop : ∀ (m : Nat) (x : Int) (B : Nat → Int → Int), x + m = 1272 → 0 ≤ x → (∀ c, c ≠ 186 → B c = A c) → (∀ i, B 186 i = if 0 ≤ i ∧ i < x then A 187 i else A 186 i) → ∃ C, mGd ar (d) 218 16 [.ref 185, .int (zI x)] [] (zW K B O t) = some (.inl (some (.int (zI 1))), zW K (zU C 185 7 0) O t) ∧ (∀ c, c ≠ 186 → C c = A c) ∧ ∀ i, C 186 i = if 0 ≤ i ∧ i < 1272 then A 187 i else A 186 i := by
  intro m
  induction m with
  | zero =>
    intro x B hx x0 hB hS
    have : x = 1272 := by omega
    subst this
    exact ⟨B, by simp (disch := first | assumption | omega | exact zr_and | exact zr_or | exact zr_xor | exact zr_shl | exact zr_shr | exact zr_ushr | exact zr_byte | exact isHall3 | exact isLaw12) only [i218_16, i218_41, mB1_i, mB0_i, mB1n_i, mB0n_i, mB1_x, mB0_x, ↓if_pos, ↓if_neg, if_true, if_false, if_pos, if_neg], hB, hS⟩
  | succ m ih =>
    intro x B hx x0 hB hS
    have e : B 187 x = A 187 x := by rw [hB 187 (by decide)]
    obtain ⟨C, q1, q2⟩ := ih (x + 1) (zU B 186 x (A 187 x)) (by omega) (by omega) (fun c hc => by rw [zU_r hc, hB c hc]) (fun i => by
      by_cases hi : i = x
      · rw [hi, zU_at, if_pos (by omega)]
      · rw [zU_s hi, hS i]
        by_cases hj : 0 ≤ i ∧ i < x
        · rw [if_pos hj, if_pos (by omega)]
        · rw [if_neg hj, if_neg (by omega)])
    refine ⟨C, ?_, q2⟩
    rw [← q1, i218_16 (by omega), if_neg (by omega), i218_23 (by omega) (by omega), e]
theorem isHall129 : isHall 129 := by unfold isHall; omega
theorem isLaw138 : isLaw 138 := by unfold isLaw; omega
theorem q_back (hI : zInv A) : zQ ar K O t (d + 12) 60 [.ref 0] 218 [.ref 185, .double 0] (fun _ => 0) A := by
  obtain ⟨-, -, h4, ⟨a1, a2, a3, -⟩, ⟨i1, i2, i3⟩, h7, h8⟩ := id hI
  by_cases hz : A 0 14 = 0
  · refine zQ_ok (b := 0) (A1 := A) hI ?_ zFc_refl (by omega) (fun O' t' => ⟨zU A 185 0 0, ?_, zU_at, zFm_u⟩)
    · simp (disch := first | assumption | omega | exact zr_and | exact zr_or | exact zr_xor | exact zr_shl | exact zr_shr | exact zr_ushr | exact zr_byte | exact isHall3 | exact isLaw12) only [i60_0, hz, i60_7, mB1_i, mB0_i, mB1n_i, mB0n_i, mB1_x, mB0_x, ↓if_pos, ↓if_neg, if_true, if_false, if_pos, if_neg]
    · have e7 : (zU A 185 0 0) 185 6 = 0 := by rw [zU_s (by decide), i2, hz]
      rw [i218_0 (by rw [e7]; omega), if_pos e7, i218_12]
  · have h1 : A 0 14 = 1 := by omega
    obtain ⟨b1, b2, L, b3, b4, b5⟩ := i3 h1
    obtain ⟨C, g1, g2, g3⟩ := c_copy (d := d + 10) (K := K) (O := O) (t := t) (ar := ar) (A := A) isHall3 isHall129 (by decide)
    have e138 : C 138 = A 138 := g3 138 (by omega)
    obtain ⟨C2, f1, f2, f3, f4⟩ := c_lawCopy (d := d + 11) (K := K) (O := O) (t := t) (ar := ar) (A := C) isLaw12 isLaw138 (by omega) (by rw [e138, b5]; exact b1.1.2.2.1) (zLawC_same b3 (fun c c1 c2 => g3 c (by omega)))
    have s : ∀ c, ¬ (3 ≤ c ∧ c ≤ 16) → c ≠ 19 → (zU C2 19 0 0) c = A c := fun c c1 c2 => by rw [zU_r c2, f4 c (by omega), g3 c (by omega)]
    refine ⟨zU C2 19 0 0, Or.inl ⟨1, ?_, by omega, fun O' t' => ?_⟩⟩
    · simp (disch := first | assumption | omega | exact zr_and | exact zr_or | exact zr_xor | exact zr_shl | exact zr_shr | exact zr_ushr | exact zr_byte | exact isHall3 | exact isLaw12) only [i60_0, h1, i60_9, g1, i60_20, f1, i60_31, i61_0, i60_38, mB1_i, mB0_i, mB1n_i, mB0n_i, mB1_x, mB0_x, ↓if_pos, ↓if_neg, if_true, if_false, if_pos, if_neg]
    · have e6 : (zU (zU C2 19 0 0) 185 0 0) 185 6 = 1 := by rw [zU_s (by decide), s 185 (by omega) (by omega), i2, h1]
      obtain ⟨D, p1, p2, p3⟩ := back_loop (d := d + 12) (K := K) (O := O') (t := t') (ar := ar) (A := zU (zU C2 19 0 0) 185 0 0) 1272 0 _ (by omega) (by omega) (fun _ _ => rfl) (fun i => by rw [if_neg (by omega)])
      have q : ∀ c, c ≠ 185 → c ≠ 186 → (zU D 185 7 0) c = (zU C2 19 0 0) c := fun c c1 c2 => by rw [zU_r c1, p2 c c2, zU_r c1]
      have q' : ∀ c, c ≠ 185 → c ≠ 186 → ¬ (3 ≤ c ∧ c ≤ 16) → c ≠ 19 → (zU D 185 7 0) c = A c := fun c c1 c2 c3 c4 => by rw [q c c1 c2, s c c3 c4]
      have q5 : ∀ j, j ≠ 0 → j ≠ 7 → (zU D 185 7 0) 185 j = A 185 j := fun j j0 j7 => by rw [zU_s j7, p2 185 (by decide), zU_s j0, s 185 (by omega) (by omega)]
      have er : ∀ i, 0 ≤ i → i < 1272 → (zU D 185 7 0) 186 i = A 187 i := fun i x0 x1 => by rw [zU_r (by decide), p3 i, if_pos ⟨x0, x1⟩, zU_r (by decide), s 187 (by omega) (by omega)]
      have er' : ∀ i, 0 ≤ i → i < 423 → (zU D 185 7 0) 186 i = A 187 i := fun i x0 x1 => er i x0 (by omega)
      refine ⟨zU D 185 7 0, ?_, ?_, ⟨zHWf_congr er' b1, ?_⟩, ⟨L, ?_, zLawR_congr (er 2 (by omega) (by omega)) (fun i x0 x1 => er i (by omega) x1) b4, ?_⟩, ?_, ⟨?_, ?_, ?_, fun j j0 j1 => ?_⟩, ⟨?_, ?_, fun _ => ?_⟩, ?_, ?_⟩
      · rw [i218_0 (by rw [e6]; omega), if_neg (by rw [e6]; decide), i218_14]; exact p1
      · rw [zU_s (by decide), p2 185 (by decide), zU_at]
      · exact zHR_congr er' b1 (zHR_same (A := C) (fun c h1 h2 => by rw [q c (by omega) (by omega), zU_r (by omega), f4 c (by omega)]) b1 (zHR_eq g2 b1 b2))
      · exact zLawC_same f2 (fun c h1 h2 => by rw [q c (by omega) (by omega), zU_r (by omega)])
      · rw [q 12 (by omega) (by omega), zU_r (by decide), f3, e138, b5, er 2 (by omega) (by omega)]
      · unfold zTp
        rw [q' 1 (by omega) (by omega) (by omega) (by omega), q' 2 (by omega) (by omega) (by omega) (by omega), q' 191 (by omega) (by omega) (by omega) (by omega), q5 9 (by omega) (by omega)]
        exact h4
      · rw [zU_at, q 19 (by omega) (by omega), zU_at]
      · rw [q 19 (by omega) (by omega), zU_at]; omega
      · rw [q 19 (by omega) (by omega), zU_s (by decide), f4 19 (by omega), g3 19 (by omega)]; exact a3
      · rw [q 19 (by omega) (by omega), zU_at] at j1; omega
      · rw [q' 0 (by omega) (by omega) (by omega) (by omega)]; exact i1
      · rw [q' 0 (by omega) (by omega) (by omega) (by omega), q5 6 (by omega) (by omega)]; exact i2
      · rw [q' 187 (by omega) (by omega) (by omega) (by omega), q' 138 (by omega) (by omega) (by omega) (by omega)]
        exact ⟨b1, zHR_same (fun c h1 h2 => q' c (by omega) (by omega) (by omega) (by omega)) b1 b2, L, zLawC_same b3 (fun c h1 h2 => q' c (by omega) (by omega) (by omega) (by omega)), b4, b5⟩
      · rw [q' 0 (by omega) (by omega) (by omega) (by omega), q5 14 (by omega) (by omega)]; exact h7
      · rw [q' 176 (by omega) (by omega) (by omega) (by omega)]; exact h8
end IMAGE
