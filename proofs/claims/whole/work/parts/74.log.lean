/-! CALLS, 22: log -/
section LOG1
variable {ar : Nat → Nat × (Nat → Int32)} {d t : Nat} {K : Nat → Nat → Option Nat} {A : Nat → Int → Int} {O : Nat → Int64}
theorem q_log {i w : Int} (hI : zInv A) (h_i : -2147483648 ≤ i ∧ i < 2147483648) (h_w : -2147483648 ≤ w ∧ w < 2147483648) : zQ ar K O t (d + 12) 213 [.ref 0, .int (zI i), .int (zI w), .double 0] 342 [.ref 185, .int (zI i), .int (zI w)] (fun E => if E = 3 then 1 else 0) A := by
  have wl := hI.1.1.2
  have hl := hI.1.2.2
  have w5 := wl.1
  have e5 : A 8 0 = A 186 5 := hl.1
  have u6 : ∀ j, zU A 185 0 0 186 j = A 186 j := fun j => by rw [zU_r (by decide)]
  by_cases hw : 0 ≤ w ∧ w ≤ 5
  case neg =>
    refine zQ_ex (E := 3) hI ?_ (by decide) (fun O' t' => ⟨0, zU A 185 0 1, ?_, zU_at, zFm_u⟩)
    · by_cases hw0 : w < 0
      · simp (disch := first | assumption | omega | exact zr_and | exact zr_or | exact zr_xor | exact zr_shl | exact zr_shr | exact zr_ushr | exact zr_byte | exact isHall3 | exact isLaw12) only [i213_0, i213_4, i213_9, i213_20, i213_32, i213_40, i213_42, i213_46, i213_51, i213_52, i213_57, i213_62, i213_65, i213_73, mB1_i, mB0_i, mB1n_i, mB0n_i, mB1_x, mB0_x, ↓if_pos, ↓if_neg, if_true, if_false, if_pos, if_neg]
      · simp (disch := first | assumption | omega | exact zr_and | exact zr_or | exact zr_xor | exact zr_shl | exact zr_shr | exact zr_ushr | exact zr_byte | exact isHall3 | exact isLaw12) only [i213_0, i213_4, i213_9, i213_20, i213_32, i213_40, i213_42, i213_46, i213_51, i213_52, i213_57, i213_62, i213_65, i213_73, mB1_i, mB0_i, mB1n_i, mB0n_i, mB1_x, mB0_x, ↓if_pos, ↓if_neg, if_true, if_false, if_pos, if_neg]
    · have n1 := c_in (d := d + 11) (K := K) (O := O') (t := t') (ar := ar) (A := zU A 185 0 0) (x := w) (a := 0) (b := 5) h_w (by omega) (by omega)
      rw [if_neg hw] at n1
      simp (disch := first | assumption | omega | exact zr_and | exact zr_or | exact zr_xor | exact zr_shl | exact zr_shr | exact zr_ushr | exact zr_byte | exact isHall3 | exact isLaw12) only [i342_0, i342_12, i342_15, i342_19, i342_20, i342_24, i342_27, i342_29, i342_42, i342_45, i342_51, i342_54, i342_55, n1, c_thr1, zU_uu, mB1_i, mB0_i, mB1n_i, mB0n_i, mB1_x, mB0_x, ↓if_pos, ↓if_neg, if_true, if_false, if_pos, if_neg]
  have n1 : ∀ O' t', mGd ar (d + 11) 256 0 [.int (zI w), .int (zI 0), .int (zI 5)] [] (zW K (zU A 185 0 0) O' t') = some (.inl (some (.int (zI 1))), zW K (zU A 185 0 0) O' t') := fun O' t' => by
    have n1 := c_in (d := d + 11) (K := K) (O := O') (t := t') (ar := ar) (A := zU A 185 0 0) (x := w) (a := 0) (b := 5) h_w (by omega) (by omega)
    rwa [if_pos hw] at n1
  have n2 : ∀ O' t', mGd ar (d + 11) 256 0 [.int (zI i), .int (zI 0), .int (zI (A 186 5 - 1))] [] (zW K (zU A 185 0 0) O' t') = some (.inl (some (.int (zI (if 0 ≤ i ∧ i ≤ A 186 5 - 1 then 1 else 0)))), zW K (zU A 185 0 0) O' t') := fun O' t' => c_in (d := d + 11) (K := K) (O := O') (t := t') (ar := ar) (A := zU A 185 0 0) (x := i) (a := 0) (b := A 186 5 - 1) h_i (by omega) (by omega)
  by_cases hi : 0 ≤ i ∧ i < A 186 5
  case neg =>
    refine zQ_ok (b := -1) (A1 := A) hI ?_ zFc_refl (by omega) (fun O' t' => ⟨zU A 185 0 0, ?_, zU_at, zFm_u⟩)
    · by_cases hi0 : i < 0
      · simp (disch := first | assumption | omega | exact zr_and | exact zr_or | exact zr_xor | exact zr_shl | exact zr_shr | exact zr_ushr | exact zr_byte | exact isHall3 | exact isLaw12) only [i213_0, i213_4, i213_9, i213_20, i213_32, i213_40, i213_42, i213_46, i213_51, i213_52, i213_57, i213_62, i213_65, i213_73, mB1_i, mB0_i, mB1n_i, mB0n_i, mB1_x, mB0_x, ↓if_pos, ↓if_neg, if_true, if_false, if_pos, if_neg]
      · simp (disch := first | assumption | omega | exact zr_and | exact zr_or | exact zr_xor | exact zr_shl | exact zr_shr | exact zr_ushr | exact zr_byte | exact isHall3 | exact isLaw12) only [i213_0, i213_4, i213_9, i213_20, i213_32, i213_40, i213_42, i213_46, i213_51, i213_52, i213_57, i213_62, i213_65, i213_73, mB1_i, mB0_i, mB1n_i, mB0n_i, mB1_x, mB0_x, ↓if_pos, ↓if_neg, if_true, if_false, if_pos, if_neg]
    · have q1 := n1 O' t'
      have q2 := n2 O' t'
      rw [if_neg (by omega)] at q2
      simp (disch := first | assumption | omega | exact zr_and | exact zr_or | exact zr_xor | exact zr_shl | exact zr_shr | exact zr_ushr | exact zr_byte | exact isHall3 | exact isLaw12) only [i342_0, i342_12, i342_15, i342_19, i342_20, i342_24, i342_27, i342_29, i342_42, i342_45, i342_51, i342_54, i342_55, q1, c_thr0, u6, q2, mB1_i, mB0_i, mB1n_i, mB0n_i, mB1_x, mB0_x, ↓if_pos, ↓if_neg, if_true, if_false, if_pos, if_neg]
  have rd := wl.2 i hi.1 hi.2
  have rw' : 0 ≤ A 186 (63 + 6 * i + w) ∧ A 186 (63 + 6 * i + w) ≤ 9999 := by
    by_cases h0 : w = 0
    · rw [h0, Int.add_zero]; exact rd.1
    · by_cases h5 : w = 5
      · rw [h5]; have := rd.2.2; omega
      · have := rd.2.1 w (by omega) (by omega); omega
  refine zQ_ok (b := A 186 (63 + 6 * i + w)) (A1 := A) hI ?_ zFc_refl (by omega) (fun O' t' => ⟨zU A 185 0 0, ?_, zU_at, zFm_u⟩)
  · by_cases h0 : w = 0
    · subst h0
      have c2 := c_dayAt (d := d + 9) (K := K) (O := O) (t := t) (ar := ar) (A := A) wl hl hi
      rw [Int.add_zero]
      simp (disch := first | assumption | omega | exact zr_and | exact zr_or | exact zr_xor | exact zr_shl | exact zr_shr | exact zr_ushr | exact zr_byte | exact isHall3 | exact isLaw12) only [i213_0, i213_4, i213_9, i213_20, i213_32, i213_40, i213_42, i213_46, i213_51, i213_52, i213_57, i213_62, i213_65, i213_73, c2, mB1_i, mB0_i, mB1n_i, mB0n_i, mB1_x, mB0_x, ↓if_pos, ↓if_neg, if_true, if_false, if_pos, if_neg]
    · by_cases h5 : w = 5
      · subst h5
        have c2 := c_changedAt (d := d + 9) (K := K) (O := O) (t := t) (ar := ar) (A := A) wl hl hi
        simp (disch := first | assumption | omega | exact zr_and | exact zr_or | exact zr_xor | exact zr_shl | exact zr_shr | exact zr_ushr | exact zr_byte | exact isHall3 | exact isLaw12) only [i213_0, i213_4, i213_9, i213_20, i213_32, i213_40, i213_42, i213_46, i213_51, i213_52, i213_57, i213_62, i213_65, i213_73, c2, mB1_i, mB0_i, mB1n_i, mB0n_i, mB1_x, mB0_x, ↓if_pos, ↓if_neg, if_true, if_false, if_pos, if_neg]
      · have c2 := c_manAt (d := d + 9) (K := K) (O := O) (t := t) (ar := ar) (A := A) wl hl hi (k := w - 1) (by omega)
        rw [show 63 + 6 * i + (1 + (w - 1)) = 63 + 6 * i + w by omega] at c2
        simp (disch := first | assumption | omega | exact zr_and | exact zr_or | exact zr_xor | exact zr_shl | exact zr_shr | exact zr_ushr | exact zr_byte | exact isHall3 | exact isLaw12) only [i213_0, i213_4, i213_9, i213_20, i213_32, i213_40, i213_42, i213_46, i213_51, i213_52, i213_57, i213_62, i213_65, i213_73, c2, mB1_i, mB0_i, mB1n_i, mB0n_i, mB1_x, mB0_x, ↓if_pos, ↓if_neg, if_true, if_false, if_pos, if_neg]
  · have q1 := n1 O' t'
    have q2 := n2 O' t'
    rw [if_pos (by omega)] at q2
    simp (disch := first | assumption | omega | exact zr_and | exact zr_or | exact zr_xor | exact zr_shl | exact zr_shr | exact zr_ushr | exact zr_byte | exact isHall3 | exact isLaw12) only [i342_0, i342_12, i342_15, i342_19, i342_20, i342_24, i342_27, i342_29, i342_42, i342_45, i342_51, i342_54, i342_55, q1, c_thr0, u6, q2, i339_0, mB1_i, mB0_i, mB1n_i, mB0n_i, mB1_x, mB0_x, ↓if_pos, ↓if_neg, if_true, if_false, if_pos, if_neg]
end LOG1
