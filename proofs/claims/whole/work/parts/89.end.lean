/-! CALLS THAT CHANGE, 10: end -/
theorem zInv_tape {A A' : Nat → Int → Int} (hI : zInv A) (ht : zTp A') (ec : ∀ c, c ≠ 1 → c ≠ 2 → c ≠ 185 → c ≠ 191 → c ≠ 192 → A' c = A c) (e5 : ∀ j, j = 6 ∨ j = 7 ∨ j = 14 → A' 185 j = A 185 j) : zInv A' := by
  obtain ⟨⟨b1, b2⟩, ⟨L, b3, b4, b5⟩, -, ha, h6, h7, h8⟩ := hI
  have s : ∀ c, (c = 0 ∨ (3 ≤ c ∧ c < 185)) ∨ c = 186 ∨ c = 187 ∨ c = 190 → A' c = A c := fun c hc => ec c (by omega) (by omega) (by omega) (by omega) (by omega)
  refine ⟨⟨by rw [s 186 (by omega)]; exact b1, ?_⟩, ⟨L, zLawC_same b3 (fun c h1 h2 => s c (by omega)), by rw [s 186 (by omega)]; exact b4, by rw [s 186 (by omega), s 12 (by omega)]; exact b5⟩, ht, zActs_same ha (by rw [s 186 (by omega)]) (fun c hc => s c (by omega)) (e5 7 (by omega)), ?_, ?_, ?_⟩
  · rw [s 186 (by omega)]; exact zHR_same (fun c h1 h2 => s c (by omega)) b1 b2
  · obtain ⟨a1, a2, a3⟩ := h6
    unfold zImg
    rw [s 0 (by omega), e5 6 (by omega), s 187 (by omega)]
    refine ⟨a1, a2, fun hk => ?_⟩
    obtain ⟨c1, c2, L', c3, c4, c5⟩ := a3 hk
    exact ⟨c1, zHR_same (fun c h1 h2 => s c (by omega)) c1 c2, L', zLawC_same c3 (fun c h1 h2 => s c (by omega)), c4, by rw [s 138 (by omega)]; exact c5⟩
  · rw [s 0 (by omega), e5 14 (by omega)]; exact h7
  · rw [s 176 (by omega)]; exact h8
section TEND
variable {ar : Nat → Nat × (Nat → Int32)} {d t : Nat} {K : Nat → Nat → Option Nat} {A : Nat → Int → Int} {O : Nat → Int64}
theorem q_end {x : Int} (hI : zInv A) (h_x : -2147483648 ≤ x ∧ x < 2147483648) : zQ ar K O t (d + 12) 16 [.ref 0, .int (zI x)] 221 [.ref 185, .int (zI x)] (fun _ => 0) A := by
  obtain ⟨t1, t2, t3⟩ := hI.2.2.1
  have e9 : (zU A 185 0 0) 185 9 = A 1 1 := by rw [zU_s (by decide), t2]
  by_cases hx : 0 ≤ x ∧ x ≤ A 1 1
  case neg =>
    refine zQ_ok (b := 0) (A1 := A) hI ?_ zFc_refl (by omega) (fun O' t' => ⟨zU A 185 0 0, ?_, zU_at, zFm_u⟩)
    · by_cases h0 : x < 0
      · simp (disch := first | assumption | omega | exact zr_and | exact zr_or | exact zr_xor | exact zr_shl | exact zr_shr | exact zr_ushr | exact zr_byte | exact isHall3 | exact isLaw12) only [i16_0, i16_4, i16_15, i16_17, mB1_i, mB0_i, mB1n_i, mB0n_i, mB1_x, mB0_x, ↓if_pos, ↓if_neg, if_true, if_false, if_pos, if_neg]
      · simp (disch := first | assumption | omega | exact zr_and | exact zr_or | exact zr_xor | exact zr_shl | exact zr_shr | exact zr_ushr | exact zr_byte | exact isHall3 | exact isLaw12) only [i16_0, i16_4, i16_15, i16_17, mB1_i, mB0_i, mB1n_i, mB0n_i, mB1_x, mB0_x, ↓if_pos, ↓if_neg, if_true, if_false, if_pos, if_neg]
    · by_cases h0 : x < 0
      · simp (disch := first | assumption | omega | exact zr_and | exact zr_or | exact zr_xor | exact zr_shl | exact zr_shr | exact zr_ushr | exact zr_byte | exact isHall3 | exact isLaw12) only [i221_0, i221_17, mB1_i, mB0_i, mB1n_i, mB0n_i, mB1_x, mB0_x, ↓if_pos, ↓if_neg, if_true, if_false, if_pos, if_neg]
      · rw [i221_0 h_x, if_neg h0, i221_9 h_x (by rw [e9]; omega), e9, if_neg (by omega), i221_17]
  · refine ⟨zU A 1 1 x, Or.inl ⟨1, ?_, by omega, fun O' t' => ⟨zU (zU (zU A 1 1 x) 185 0 0) 185 9 x, ?_, ?_, ?_⟩⟩⟩
    · simp (disch := first | assumption | omega | exact zr_and | exact zr_or | exact zr_xor | exact zr_shl | exact zr_shr | exact zr_ushr | exact zr_byte | exact isHall3 | exact isLaw12) only [i16_0, i16_4, i16_15, i16_17, mB1_i, mB0_i, mB1n_i, mB0n_i, mB1_x, mB0_x, ↓if_pos, ↓if_neg, if_true, if_false, if_pos, if_neg]
    · have e9' : (zU (zU A 1 1 x) 185 0 0) 185 9 = A 1 1 := by rw [zU_s (by decide), zU_r (by decide), t2]
      rw [i221_0 h_x, if_neg (by omega), i221_9 h_x (by rw [e9']; omega), e9', if_pos hx.2, i221_19]
    · rw [zU_s (by decide), zU_at]
    · refine zInv_tape hI ?_ (fun c c1 _ c3 _ _ => by rw [zU_r c3, zU_r c3, zU_r c1]) (fun j hj => by rw [zU_s (by omega), zU_s (by omega), zU_r (by decide)])
      unfold zTp
      rw [zU_at, zU_r (show (1 : Nat) ≠ 185 by decide), zU_r (show (1 : Nat) ≠ 185 by decide), zU_at, zU_r (show (2 : Nat) ≠ 185 by decide), zU_r (show (2 : Nat) ≠ 185 by decide), zU_r (show (2 : Nat) ≠ 1 by decide), zU_r (show (191 : Nat) ≠ 185 by decide), zU_r (show (191 : Nat) ≠ 185 by decide), zU_r (show (191 : Nat) ≠ 1 by decide)]
      exact ⟨by omega, rfl, fun i i0 i1 => t3 i i0 (by omega)⟩
end TEND
