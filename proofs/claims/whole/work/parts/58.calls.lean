/-! CALLS, 6: range, rules, sizes, shoe -/
section CALLS6
variable {ar : Nat → Nat × (Nat → Int32)} {d t : Nat} {K : Nat → Nat → Option Nat} {A : Nat → Int → Int} {O : Nat → Int64}
/-- the reference's row sorted -/
theorem c_sortAll {B : Nat → Int → Int} {h : Int → Int} {k : Int} (hw : zHW0 h) (e : B 186 = h) (hB : zROk B) (hs : ∀ s, zSel s (B 193) 0 (h 0).toNat = zSel s (fun p => h (15 + 6 * p + k)) 0 (h 0).toNat) : ∃ A', mGd ar (d + 1) 269 0 [.ref 185, .int (zI (zAll (h 0))), .double 0, .double 0] [] (zW K B O t) = some (.inl none, zW K A' O t) ∧ zFt B A' ∧ A' 185 19 = (zNs h k).length ∧ zLst (A' 194) 0 (zNs h k).length = zSort (zNs h k) ∧ A' 186 = h ∧ A' 193 = B 193 := by
  subst e
  obtain ⟨A', g1, g2, g3, g4, g5⟩ := c_sorts (d := d) (K := K) (O := O) (t := t) (ar := ar) (A := B) hB.1 (zAll_lt hw.1) hB.2.1
  rw [hs] at g2 g3
  exact ⟨A', g1, zFt_fr ⟨g4, g5⟩, g2, g3, g5 _ (by decide) (by decide), g5 _ (by decide) (by decide)⟩
theorem zNs_len {h : Int → Int} {k : Int} (hw : 0 ≤ h 0 ∧ h 0 ≤ 8) : ((zNs h k).length : Int) = h 0 := by
  rw [← zAP_fst, List.length_map, zAP_len hw]
theorem zV_AP {h : Int → Int} {k : Int} : zV (zAP h k) = zSort (zNs h k) := by unfold zV; rw [zAP_fst]
theorem q_range {k : Int} (hI : zInv A) (h_k : -2147483648 ≤ k ∧ k < 2147483648) : zQ ar K O t (d + 12) 202 [.ref 0, .int (zI k)] 335 [.ref 185, .int (zI k)] (fun E => if E = 2 then 1 else 0) A := by
  obtain ⟨hw, hr, e0, w0⟩ := zInv_f hI
  have u6 : ∀ v, zU A 185 0 v 186 = A 186 := fun v => zU_r (by decide)
  have M1 : ∀ (B : Nat → Int → Int) (O' : Nat → Int64) (t' : Nat), B 186 = A 186 → mGd ar (d + 11) 257 0 [.int (zI k)] [] (zW K B O' t') = some (.inl (some (.int (zI (if 0 ≤ k ∧ k < 4 then 0 else 1)))), zW K B O' t') := fun B O' t' e => c_noKind (d := (d + 10)) h_k
  by_cases g1 : 0 ≤ k ∧ k < 4
  case neg =>
    have k1 := c_nKindX (d := (d + 11)) (K := K) (O := O) (t := t) (ar := ar) (A := A) (p := k) h_k g1
    refine zQ_ex (E := 2) hI ?_ (by decide) (fun O' t' => ⟨0, zU A 185 0 1, ?_, zU_at, zFm_u⟩)
    · simp (disch := first | assumption | omega | exact zr_and | exact zr_or | exact zr_xor | exact zr_shl | exact zr_shr | exact zr_ushr | exact zr_byte | exact isHall3 | exact isLaw12) only [i202_0, i202_5, i202_21, i202_24, i202_34, i202_38, i202_45, i202_52, i202_53, k1, mB1_i, mB0_i, mB1n_i, mB0n_i, mB1_x, mB0_x, ↓if_pos, ↓if_neg, if_true, if_false, if_pos, if_neg]
    · have n1 := M1 (zU A 185 0 0) O' t' (u6 0)
      rw [if_neg (by omega)] at n1
      simp (disch := first | assumption | omega | exact zr_and | exact zr_or | exact zr_xor | exact zr_shl | exact zr_shr | exact zr_ushr | exact zr_byte | exact isHall3 | exact isLaw12) only [i335_0, i335_10, i335_14, i335_17, i335_19, i335_24, i335_29, i335_32, i335_39, i335_43, i335_61, n1, c_thr0, c_thr1, zU_uu, i233_0, zU_c, mB1_i, mB0_i, mB1n_i, mB0n_i, mB1_x, mB0_x, ↓if_pos, ↓if_neg, if_true, if_false, if_pos, if_neg]
  have k1 := c_nKind (d := (d + 11)) (K := K) (O := O) (t := t) (ar := ar) (A := A) (p := k) g1
  have m1 : ∀ (B : Nat → Int → Int) (O' : Nat → Int64) (t' : Nat), B 186 = A 186 → mGd ar (d + 11) 257 0 [.int (zI k)] [] (zW K B O' t') = some (.inl (some (.int (zI 0))), zW K B O' t') := fun B O' t' e => by have q := M1 B O' t' e; rwa [if_pos (by omega)] at q
  obtain ⟨A1, f1, f2, f3⟩ := c_fillAll (d := d + 10) (K := K) (O := O) (t := t) (ar := ar) hI g1
  have ce := c_everyone (d := d + 11) (K := K) (O := O) (t := t) (ar := ar) (A := A) isHall3 (by rw [e0]; exact w0)
  rw [e0] at ce
  have hlen := zAP_len (h := A 186) (k := k) w0
  have hll := zNs_len (h := A 186) (k := k) w0
  have hok := zAP_ok (k := k) hw g1
  have b0 := f2.1
  rw [hlen] at b0
  have e6 := zFc_186 f3
  have u7 : zU A1 185 0 0 186 = A 186 := by rw [zU_r (by decide), e6]
  have ref : ∀ (O' : Nat → Int64) (t' : Nat), ∃ A2, mGd ar (d + 12) 335 0 [.ref 185, .int (zI k)] [] (zW K A1 O' t') = some (.inl (some (.int (zI (if A 186 0 = 0 then 0 else zAt (zV (zAP (A 186) k)) (A 186 0 - 1) - zAt (zV (zAP (A 186) k)) 0)))), zW K A2 O' t') ∧ A2 185 0 = 0 ∧ zFm A1 A2 := fun O' t' => by
    have n1 := m1 (zU A1 185 0 0) O' t' u7
    obtain ⟨A2, s1, s2, s3, s4, s5, s6, s7⟩ := c_laidAll (d := d + 9) (K := K) (O := O') (t := t') (ar := ar) (B := zU A1 185 0 0) hw u7 g1
    have ca := c_all (d := d + 10) (K := K) (O := O') (t := t') (ar := ar) (A := A2) (by rw [s3]; exact w0)
    rw [s3] at ca
    obtain ⟨A3, p1, p2, p3, p4, p5, p6⟩ := c_sortAll (d := d + 10) (K := K) (O := O') (t := t') (ar := ar) (B := A2) hw s3 s4 s6
    rw [hll] at p3
    have hz := zFm_0 (A := A1) (A' := A3) (zFt_trans s2 p2)
    refine ⟨A3, ?_, hz.1, hz.2⟩
    by_cases hp : A 186 0 = 0
    · rw [if_pos hp]
      simp (disch := first | assumption | omega | exact zr_and | exact zr_or | exact zr_xor | exact zr_shl | exact zr_shr | exact zr_ushr | exact zr_byte | exact isHall3 | exact isLaw12) only [i335_0, i335_10, i335_14, i335_17, i335_19, i335_24, i335_29, i335_32, i335_39, i335_43, i335_61, n1, c_thr0, s1, ca, p1, mB1_i, mB0_i, mB1n_i, mB0n_i, mB1_x, mB0_x, ↓if_pos, ↓if_neg, if_true, if_false, if_pos, if_neg]
    · rw [if_neg hp, zV_AP, ← zLst_at0 p4 (i := A 186 0 - 1) (by omega) (by omega), ← zLst_at0 p4 (i := 0) (by omega) (by omega)]
      simp (disch := first | assumption | omega | exact zr_and | exact zr_or | exact zr_xor | exact zr_shl | exact zr_shr | exact zr_ushr | exact zr_byte | exact isHall3 | exact isLaw12) only [i335_0, i335_10, i335_14, i335_17, i335_19, i335_24, i335_29, i335_32, i335_39, i335_43, i335_61, n1, c_thr0, s1, ca, p1, p3, mB1_i, mB0_i, mB1n_i, mB0n_i, mB1_x, mB0_x, ↓if_pos, ↓if_neg, if_true, if_false, if_pos, if_neg]
  refine zQ_ok (b := if A 186 0 = 0 then 0 else zAt (zV (zAP (A 186) k)) (A 186 0 - 1) - zAt (zV (zAP (A 186) k)) 0) (A1 := A1) hI ?_ f3 ?_ ref
  · by_cases hp : A 186 0 = 0
    · rw [if_pos hp]
      simp (disch := first | assumption | omega | exact zr_and | exact zr_or | exact zr_xor | exact zr_shl | exact zr_shr | exact zr_ushr | exact zr_byte | exact isHall3 | exact isLaw12) only [i202_0, i202_5, i202_21, i202_24, i202_34, i202_38, i202_45, i202_52, i202_53, k1, ce, f1, b0, mB1_i, mB0_i, mB1n_i, mB0n_i, mB1_x, mB0_x, ↓if_pos, ↓if_neg, if_true, if_false, if_pos, if_neg]
    · have c1 := c_least (d := d + 11) (K := K) (O := O) (t := t) (ar := ar) f2 (by omega)
      have c2 := c_greatest (d := d + 11) (K := K) (O := O) (t := t) (ar := ar) f2 hok (by omega)
      rw [hlen] at c2
      rw [if_neg hp]
      simp (disch := first | assumption | omega | exact zr_and | exact zr_or | exact zr_xor | exact zr_shl | exact zr_shr | exact zr_ushr | exact zr_byte | exact isHall3 | exact isLaw12) only [i202_0, i202_5, i202_21, i202_24, i202_34, i202_38, i202_45, i202_52, i202_53, k1, ce, f1, b0, c1, c2, mB1_i, mB0_i, mB1n_i, mB0n_i, mB1_x, mB0_x, ↓if_pos, ↓if_neg, if_true, if_false, if_pos, if_neg]
  · split
    · decide
    · have a1 := zAt_rng hok (i := 0) (by omega) (by omega)
      have a2 := zAt_rng hok (i := A 186 0 - 1) (by omega) (by omega)
      omega
theorem q_rules {k v : Int} (hI : zInv A) (h_k : -2147483648 ≤ k ∧ k < 2147483648) (h_v : -2147483648 ≤ v ∧ v < 2147483648) : zQ ar K O t (d + 12) 144 [.ref 0, .int (zI k), .int (zI v), .double 0, .double 0] 306 [.ref 185, .int (zI k), .int (zI v), .double 0, .double 0] (fun E => if E = 2 then 1 else if E = 0 then 2 else 0) A := by
  obtain ⟨hw, hr, e0, w0⟩ := zInv_f hI
  have u6 : ∀ v, zU A 185 0 v 186 = A 186 := fun v => zU_r (by decide)
  have M1 : ∀ (B : Nat → Int → Int) (O' : Nat → Int64) (t' : Nat), B 186 = A 186 → mGd ar (d + 11) 257 0 [.int (zI k)] [] (zW K B O' t') = some (.inl (some (.int (zI (if 0 ≤ k ∧ k < 4 then 0 else 1)))), zW K B O' t') := fun B O' t' e => c_noKind (d := (d + 10)) h_k
  have M2 : ∀ (B : Nat → Int → Int) (O' : Nat → Int64) (t' : Nat), B 186 = A 186 → mGd ar (d + 11) 277 0 [.int (zI v)] [] (zW K B O' t') = some (.inl (some (.int (zI (if 0 ≤ v ∧ v ≤ 99 then 0 else 1)))), zW K B O' t') := fun B O' t' e => c_noNumber (d := (d + 10)) h_v
  by_cases g1 : 0 ≤ k ∧ k < 4
  case neg =>
    have k1 := c_nKindX (d := (d + 11)) (K := K) (O := O) (t := t) (ar := ar) (A := A) (p := k) h_k g1
    refine zQ_ex (E := 2) hI ?_ (by decide) (fun O' t' => ⟨0, zU A 185 0 1, ?_, zU_at, zFm_u⟩)
    · simp (disch := first | assumption | omega | exact zr_and | exact zr_or | exact zr_xor | exact zr_shl | exact zr_shr | exact zr_ushr | exact zr_byte | exact isHall3 | exact isLaw12) only [i144_0, i144_5, i144_13, i144_29, i144_32, i144_37, i144_44, i144_53, i144_57, i144_64, i144_70, k1, mB1_i, mB0_i, mB1n_i, mB0n_i, mB1_x, mB0_x, ↓if_pos, ↓if_neg, if_true, if_false, if_pos, if_neg]
    · have n1 := M1 (zU A 185 0 0) O' t' (u6 0)
      rw [if_neg (by omega)] at n1
      simp (disch := first | assumption | omega | exact zr_and | exact zr_or | exact zr_xor | exact zr_shl | exact zr_shr | exact zr_ushr | exact zr_byte | exact isHall3 | exact isLaw12) only [i306_0, i306_10, i306_14, i306_17, i306_22, i306_26, i306_29, i306_31, i306_36, i306_41, i306_48, i306_52, i306_55, i306_63, i306_66, i306_70, i306_77, i306_78, i306_86, n1, c_thr0, c_thr1, zU_uu, i233_0, zU_c, mB1_i, mB0_i, mB1n_i, mB0n_i, mB1_x, mB0_x, ↓if_pos, ↓if_neg, if_true, if_false, if_pos, if_neg]
  have k1 := c_nKind (d := (d + 11)) (K := K) (O := O) (t := t) (ar := ar) (A := A) (p := k) g1
  have m1 : ∀ (B : Nat → Int → Int) (O' : Nat → Int64) (t' : Nat), B 186 = A 186 → mGd ar (d + 11) 257 0 [.int (zI k)] [] (zW K B O' t') = some (.inl (some (.int (zI 0))), zW K B O' t') := fun B O' t' e => by have q := M1 B O' t' e; rwa [if_pos (by omega)] at q
  by_cases g2 : 0 ≤ v ∧ v ≤ 99
  case neg =>
    have k2 := c_nNumberX (d := (d + 11)) (K := K) (O := O) (t := t) (ar := ar) (A := A) (p := v) (x := 0) (y := 99) h_v g2 (by decide)
    refine zQ_ex (E := 0) hI ?_ (by decide) (fun O' t' => ⟨0, zU A 185 0 2, ?_, zU_at, zFm_u⟩)
    · simp (disch := first | assumption | omega | exact zr_and | exact zr_or | exact zr_xor | exact zr_shl | exact zr_shr | exact zr_ushr | exact zr_byte | exact isHall3 | exact isLaw12) only [i144_0, i144_5, i144_13, i144_29, i144_32, i144_37, i144_44, i144_53, i144_57, i144_64, i144_70, k1, k2, mB1_i, mB0_i, mB1n_i, mB0n_i, mB1_x, mB0_x, ↓if_pos, ↓if_neg, if_true, if_false, if_pos, if_neg]
    · have n1 := M1 (zU A 185 0 0) O' t' (u6 0)
      rw [if_pos (by omega)] at n1
      have n2 := M2 (zU A 185 0 0) O' t' (u6 0)
      rw [if_neg (by omega)] at n2
      simp (disch := first | assumption | omega | exact zr_and | exact zr_or | exact zr_xor | exact zr_shl | exact zr_shr | exact zr_ushr | exact zr_byte | exact isHall3 | exact isLaw12) only [i306_0, i306_10, i306_14, i306_17, i306_22, i306_26, i306_29, i306_31, i306_36, i306_41, i306_48, i306_52, i306_55, i306_63, i306_66, i306_70, i306_77, i306_78, i306_86, n1, n2, c_thr0, c_thr1, zU_uu, i233_0, zU_c, mB1_i, mB0_i, mB1n_i, mB0n_i, mB1_x, mB0_x, ↓if_pos, ↓if_neg, if_true, if_false, if_pos, if_neg]
  have k2 := c_nNumber (d := (d + 11)) (K := K) (O := O) (t := t) (ar := ar) (A := A) (p := v) (x := 0) (y := 99) g2 (by decide)
  have m2 : ∀ (B : Nat → Int → Int) (O' : Nat → Int64) (t' : Nat), B 186 = A 186 → mGd ar (d + 11) 277 0 [.int (zI v)] [] (zW K B O' t') = some (.inl (some (.int (zI 0))), zW K B O' t') := fun B O' t' e => by have q := M2 B O' t' e; rwa [if_pos (by omega)] at q
  obtain ⟨A1, f1, f2, f3⟩ := c_fillAll (d := d + 10) (K := K) (O := O) (t := t) (ar := ar) hI g1
  have ce := c_everyone (d := d + 11) (K := K) (O := O) (t := t) (ar := ar) (A := A) isHall3 (by rw [e0]; exact w0)
  rw [e0] at ce
  have hlen := zAP_len (h := A 186) (k := k) w0
  have hok := zAP_ok (k := k) hw g1
  have e6 := zFc_186 f3
  have u7 : zU A1 185 0 0 186 = A 186 := by rw [zU_r (by decide), e6]
  have l1 : ∀ (m : Nat) (r b : Int), r + m = 6 → 0 ≤ r → (0 ≤ b ∧ b < 256) → mGd ar (d + 12) 144 37 [.ref 0, .int (zI k), .int (zI v), .int (zI b), .int (zI r)] [] (zW K A1 O t) = some (.inl (some (.int (zI (zBf (fun r => decide (0 < A 186 0 ∧ zMid r (zAP (A 186) k) = v)) r m b)))), zW K A1 O t) := by
    intro m
    induction m with
    | zero =>
      intro r b hr6 r0 hb
      simp (disch := first | assumption | omega | exact zr_and | exact zr_or | exact zr_xor | exact zr_shl | exact zr_shr | exact zr_ushr | exact zr_byte | exact isHall3 | exact isLaw12) only [i144_37, i144_70, mB1_i, mB0_i, mB1n_i, mB0n_i, mB1_x, mB0_x, ↓if_pos, ↓if_neg, if_true, if_false, if_pos, if_neg]
      rfl
    | succ m ih =>
      intro r b hr6 r0 hb
      rw [show zBf (fun r => decide (0 < A 186 0 ∧ zMid r (zAP (A 186) k) = v)) r (m + 1) b = zBf (fun r => decide (0 < A 186 0 ∧ zMid r (zAP (A 186) k) = v)) (r + 1) m (if decide (0 < A 186 0 ∧ zMid r (zAP (A 186) k) = v) = true then zOr b (zShl 1 r) else b) from rfl]
      by_cases hp : 0 < A 186 0
      · have cb := c_by (d := d + 10) (K := K) (O := O) (t := t) (ar := ar) (r := r) f2 hok (by omega) (by omega)
        have rng := zMid_rng (r := r) hok (by omega) (by omega)
        by_cases hc : zMid r (zAP (A 186) k) = v
        · rw [if_pos (decide_eq_true ⟨hp, hc⟩), ← ih (r + 1) _ (by omega) (by omega) (zf_more hb (by omega)).1, i144_37 (by omega)]
          simp (disch := first | assumption | omega | exact zr_and | exact zr_or | exact zr_xor | exact zr_shl | exact zr_shr | exact zr_ushr | exact zr_byte | exact isHall3 | exact isLaw12) only [i144_5, i144_13, i144_29, i144_32, i144_44, i144_53, i144_57, i144_64, i144_70, cb, mB1_i, mB0_i, mB1n_i, mB0n_i, mB1_x, mB0_x, ↓if_pos, ↓if_neg, if_true, if_false, if_pos, if_neg]
        · rw [if_neg (by simp [hc]), ← ih (r + 1) _ (by omega) (by omega) hb, i144_37 (by omega)]
          simp (disch := first | assumption | omega | exact zr_and | exact zr_or | exact zr_xor | exact zr_shl | exact zr_shr | exact zr_ushr | exact zr_byte | exact isHall3 | exact isLaw12) only [i144_5, i144_13, i144_29, i144_32, i144_44, i144_53, i144_57, i144_64, i144_70, cb, mB1_i, mB0_i, mB1n_i, mB0n_i, mB1_x, mB0_x, ↓if_pos, ↓if_neg, if_true, if_false, if_pos, if_neg]
      · have hnil : zAP (A 186) k = [] := List.eq_nil_of_length_eq_zero (by omega)
        have cb := c_by0 (d := d + 11) (K := K) (O := O) (t := t) (ar := ar) (r := r) (by rw [← hnil]; exact f2)
        rw [if_neg (by simp [hp]), ← ih (r + 1) _ (by omega) (by omega) hb, i144_37 (by omega)]
        simp (disch := first | assumption | omega | exact zr_and | exact zr_or | exact zr_xor | exact zr_shl | exact zr_shr | exact zr_ushr | exact zr_byte | exact isHall3 | exact isLaw12) only [i144_5, i144_13, i144_29, i144_32, i144_44, i144_53, i144_57, i144_64, i144_70, cb, mB1_i, mB0_i, mB1n_i, mB0n_i, mB1_x, mB0_x, ↓if_pos, ↓if_neg, if_true, if_false, if_pos, if_neg]
  have hv := zBf_rng (f := fun r => decide (0 < A 186 0 ∧ zMid r (zAP (A 186) k) = v)) (m := 6) (p := 0) (b := 0) (by omega) (by omega) (by decide)
  refine zQ_ok (b := zBf (fun r => decide (0 < A 186 0 ∧ zMid r (zAP (A 186) k) = v)) 0 6 0) (A1 := A1) hI ?_ f3 (by omega) (fun O' t' => ?_)
  · rw [← l1 6 0 0 (by omega) (by omega) (by decide)]
    simp (disch := first | assumption | omega | exact zr_and | exact zr_or | exact zr_xor | exact zr_shl | exact zr_shr | exact zr_ushr | exact zr_byte | exact isHall3 | exact isLaw12) only [i144_0, i144_5, i144_13, i144_29, i144_32, i144_44, i144_53, i144_57, i144_64, i144_70, k1, k2, ce, f1, mB1_i, mB0_i, mB1n_i, mB0n_i, mB1_x, mB0_x, ↓if_pos, ↓if_neg, if_true, if_false, if_pos, if_neg]
  · have n1 := m1 (zU A1 185 0 0) O' t' u7
    have n2 := m2 (zU A1 185 0 0) O' t' u7
    obtain ⟨A2, s1, s2, s3, s4, s5, s6, s7⟩ := c_laidAll (d := d + 9) (K := K) (O := O') (t := t') (ar := ar) (B := zU A1 185 0 0) hw u7 g1
    have hl := zAll_lt w0
    have l2 : ∀ (m : Nat) (r b : Int) (B : Nat → Int → Int), r + m = 6 → 0 ≤ r → (0 ≤ b ∧ b < 256) → zFr A2 B → ∃ B', mGd ar (d + 12) 306 41 [.ref 185, .int (zI k), .int (zI v), .int (zI b), .int (zI r)] [] (zW K B O' t') = some (.inl (some (.int (zI (zBf (fun r => decide (0 < A 186 0 ∧ zMid r (zAP (A 186) k) = v)) r m b)))), zW K B' O' t') ∧ zFr A2 B' := by
      intro m
      induction m with
      | zero =>
        intro r b B hr6 r0 hb hf
        refine ⟨B, ?_, hf⟩
        simp (disch := first | assumption | omega | exact zr_and | exact zr_or | exact zr_xor | exact zr_shl | exact zr_shr | exact zr_ushr | exact zr_byte | exact isHall3 | exact isLaw12) only [i306_41, i306_10, i306_14, i306_17, i306_22, i306_26, i306_29, i306_31, i306_36, i306_48, i306_52, i306_55, i306_63, i306_66, i306_70, i306_77, i306_78, i306_86, mB1_i, mB0_i, mB1n_i, mB0n_i, mB1_x, mB0_x, ↓if_pos, ↓if_neg, if_true, if_false, if_pos, if_neg]
        rfl
      | succ m ih =>
        intro r b B hr6 r0 hb hf
        have eB : B 186 = A 186 := by rw [hf.2 _ (by decide) (by decide), s3]
        have eB0 : B 186 0 = A 186 0 := by rw [eB]
        have e193 : B 193 = A2 193 := hf.2 _ (by decide) (by decide)
        have okB : zROk B := by
          have q := s4
          unfold zROk at q ⊢
          rw [e193, eB]
          rw [s3] at q
          exact q
        have o0 := zOr_0 (b := b) (by omega)
        rw [show zBf (fun r => decide (0 < A 186 0 ∧ zMid r (zAP (A 186) k) = v)) r (m + 1) b = zBf (fun r => decide (0 < A 186 0 ∧ zMid r (zAP (A 186) k) = v)) (r + 1) m (if decide (0 < A 186 0 ∧ zMid r (zAP (A 186) k) = v) = true then zOr b (zShl 1 r) else b) from rfl]
        by_cases hp : 0 < A 186 0
        · have hpos := zAll_pos (n := A 186 0) (by omega)
          have ca := c_all (d := d + 10) (K := K) (O := O') (t := t') (ar := ar) (A := B) (by rw [eB]; exact w0)
          rw [eB] at ca
          obtain ⟨B1, p1, p2⟩ := c_middleOf (d := d + 8) (K := K) (O := O') (t := t') (ar := ar) (A := B) (r := r) (s := zAll (A 186 0)) okB (by rw [eB]; omega) (by omega)
          have eS : zSel (zAll (A 186 0)) (zRP B) 0 (B 186 0).toNat = zAP (A 186) k := by
            rw [eB]
            unfold zAP
            rw [← s5]
            refine zSel_congr (fun i _ _ => ⟨rfl, fun _ => ?_⟩)
            unfold zRP
            rw [e193, eB, s3]
          rw [eS] at p1
          have rng := zMid_rng (r := r) hok (by omega) (by omega)
          have hf1 : zFr A2 B1 := ⟨fun j hj => by rw [p2.1 j hj, hf.1 j hj], fun c c1 c2 => by rw [p2.2 c c1 c2, hf.2 c c1 c2]⟩
          by_cases hc : zMid r (zAP (A 186) k) = v
          · obtain ⟨B', q1, q2⟩ := ih (r + 1) (zOr b (zShl 1 r)) B1 (by omega) (by omega) (zf_more hb (by omega)).1 hf1
            refine ⟨B', ?_, q2⟩
            rw [if_pos (decide_eq_true ⟨hp, hc⟩), ← q1, i306_41 (by omega)]
            simp (disch := first | assumption | omega | exact zr_and | exact zr_or | exact zr_xor | exact zr_shl | exact zr_shr | exact zr_ushr | exact zr_byte | exact isHall3 | exact isLaw12) only [i306_10, i306_14, i306_17, i306_22, i306_26, i306_29, i306_31, i306_36, i306_48, i306_52, i306_55, i306_63, i306_66, i306_70, i306_77, i306_78, i306_86, i233_0, eB0, ca, p1, mB1_i, mB0_i, mB1n_i, mB0n_i, mB1_x, mB0_x, ↓if_pos, ↓if_neg, if_true, if_false, if_pos, if_neg]
          · obtain ⟨B', q1, q2⟩ := ih (r + 1) b B1 (by omega) (by omega) hb hf1
            refine ⟨B', ?_, q2⟩
            rw [if_neg (by simp [hc]), ← q1, i306_41 (by omega)]
            simp (disch := first | assumption | omega | exact zr_and | exact zr_or | exact zr_xor | exact zr_shl | exact zr_shr | exact zr_ushr | exact zr_byte | exact isHall3 | exact isLaw12) only [i306_10, i306_14, i306_17, i306_22, i306_26, i306_29, i306_31, i306_36, i306_48, i306_52, i306_55, i306_63, i306_66, i306_70, i306_77, i306_78, i306_86, i233_0, eB0, ca, p1, o0, mB1_i, mB0_i, mB1n_i, mB0n_i, mB1_x, mB0_x, ↓if_pos, ↓if_neg, if_true, if_false, if_pos, if_neg]
        · have hz : ∀ (m : Nat) (r : Int), zBf (fun r => decide (0 < A 186 0 ∧ zMid r (zAP (A 186) k) = v)) r m b = b := by
            intro m
            induction m with
            | zero => intro r; rfl
            | succ m ih => intro r; show zBf _ (r + 1) m (if _ then _ else b) = b; rw [if_neg (by simp [hp])]; exact ih (r + 1)
          refine ⟨B, ?_, hf⟩
          rw [if_neg (by simp [hp]), hz]
          simp (disch := first | assumption | omega | exact zr_and | exact zr_or | exact zr_xor | exact zr_shl | exact zr_shr | exact zr_ushr | exact zr_byte | exact isHall3 | exact isLaw12) only [i306_41, i306_10, i306_14, i306_17, i306_22, i306_26, i306_29, i306_31, i306_36, i306_48, i306_52, i306_55, i306_63, i306_66, i306_70, i306_77, i306_78, i306_86, i233_0, eB0, mB1_i, mB0_i, mB1n_i, mB0n_i, mB1_x, mB0_x, ↓if_pos, ↓if_neg, if_true, if_false, if_pos, if_neg]
    obtain ⟨A3, q1, q2⟩ := l2 6 0 0 A2 (by omega) (by omega) (by decide) zFr_refl
    have hz := zFm_0 (A := A1) (A' := A3) (zFt_trans s2 (zFt_fr q2))
    refine ⟨A3, ?_, hz.1, hz.2⟩
    rw [← q1]
    simp (disch := first | assumption | omega | exact zr_and | exact zr_or | exact zr_xor | exact zr_shl | exact zr_shr | exact zr_ushr | exact zr_byte | exact isHall3 | exact isLaw12) only [i306_0, i306_10, i306_14, i306_17, i306_22, i306_26, i306_29, i306_31, i306_36, i306_48, i306_52, i306_55, i306_63, i306_66, i306_70, i306_77, i306_78, i306_86, n1, n2, c_thr0, s1, mB1_i, mB0_i, mB1n_i, mB0n_i, mB1_x, mB0_x, ↓if_pos, ↓if_neg, if_true, if_false, if_pos, if_neg]
/-- the fewest sizes over a sorted row -/
def zFs (e : Int) : List Int → Int → Int → Int
  | [], n, _ => n
  | x :: L, n, to => if x ≤ to then zFs e L n to else zFs e L (n + 1) (x + 2 * e)
theorem zFs_rng {e : Int} : ∀ {L : List Int} {n to : Int}, 0 ≤ n → n ≤ zFs e L n to ∧ zFs e L n to ≤ n + L.length
  | [], n, to, h => by show n ≤ n ∧ n ≤ n + ((0 : Nat) : Int); omega
  | x :: L, n, to, h => by
    show n ≤ (if x ≤ to then _ else _) ∧ (if x ≤ to then _ else _) ≤ n + ((L.length + 1 : Nat) : Int)
    split
    · have := zFs_rng (e := e) (L := L) (n := n) (to := to) h; omega
    · have := zFs_rng (e := e) (L := L) (n := n + 1) (to := x + 2 * e) (by omega); omega
theorem q_sizes {k e : Int} (hI : zInv A) (h_k : -2147483648 ≤ k ∧ k < 2147483648) (h_e : -2147483648 ≤ e ∧ e < 2147483648) : zQ ar K O t (d + 12) 171 [.ref 0, .int (zI k), .int (zI e)] 317 [.ref 185, .int (zI k), .int (zI e), .double 0, .double 0, .double 0] (fun E => if E = 2 then 1 else if E = 0 then 2 else 0) A := by
  obtain ⟨hw, hr, e0, w0⟩ := zInv_f hI
  have u6 : ∀ v, zU A 185 0 v 186 = A 186 := fun v => zU_r (by decide)
  have M1 : ∀ (B : Nat → Int → Int) (O' : Nat → Int64) (t' : Nat), B 186 = A 186 → mGd ar (d + 11) 257 0 [.int (zI k)] [] (zW K B O' t') = some (.inl (some (.int (zI (if 0 ≤ k ∧ k < 4 then 0 else 1)))), zW K B O' t') := fun B O' t' e => c_noKind (d := (d + 10)) h_k
  have M2 : ∀ (B : Nat → Int → Int) (O' : Nat → Int64) (t' : Nat), B 186 = A 186 → mGd ar (d + 11) 318 0 [.int (zI e)] [] (zW K B O' t') = some (.inl (some (.int (zI (if 0 ≤ e ∧ e ≤ 20 then 0 else 1)))), zW K B O' t') := fun B O' t' e => c_noEase (d := (d + 10)) h_e
  by_cases g1 : 0 ≤ k ∧ k < 4
  case neg =>
    have k1 := c_nKindX (d := (d + 11)) (K := K) (O := O) (t := t) (ar := ar) (A := A) (p := k) h_k g1
    refine zQ_ex (E := 2) hI ?_ (by decide) (fun O' t' => ⟨0, zU A 185 0 1, ?_, zU_at, zFm_u⟩)
    · simp (disch := first | assumption | omega | exact zr_and | exact zr_or | exact zr_xor | exact zr_shl | exact zr_shr | exact zr_ushr | exact zr_byte | exact isHall3 | exact isLaw12) only [i171_0, i171_5, i171_13, i171_29, i171_32, i171_40, k1, mB1_i, mB0_i, mB1n_i, mB0n_i, mB1_x, mB0_x, ↓if_pos, ↓if_neg, if_true, if_false, if_pos, if_neg]
    · have n1 := M1 (zU A 185 0 0) O' t' (u6 0)
      rw [if_neg (by omega)] at n1
      simp (disch := first | assumption | omega | exact zr_and | exact zr_or | exact zr_xor | exact zr_shl | exact zr_shr | exact zr_ushr | exact zr_byte | exact isHall3 | exact isLaw12) only [i317_0, i317_10, i317_14, i317_17, i317_22, i317_26, i317_29, i317_31, i317_36, i317_41, i317_44, i317_52, i317_61, i317_73, i317_76, i317_92, i317_98, n1, c_thr0, c_thr1, zU_uu, i233_0, zU_c, mB1_i, mB0_i, mB1n_i, mB0n_i, mB1_x, mB0_x, ↓if_pos, ↓if_neg, if_true, if_false, if_pos, if_neg]
  have k1 := c_nKind (d := (d + 11)) (K := K) (O := O) (t := t) (ar := ar) (A := A) (p := k) g1
  have m1 : ∀ (B : Nat → Int → Int) (O' : Nat → Int64) (t' : Nat), B 186 = A 186 → mGd ar (d + 11) 257 0 [.int (zI k)] [] (zW K B O' t') = some (.inl (some (.int (zI 0))), zW K B O' t') := fun B O' t' e => by have q := M1 B O' t' e; rwa [if_pos (by omega)] at q
  by_cases g2 : 0 ≤ e ∧ e ≤ 20
  case neg =>
    have k2 := c_nNumberX (d := (d + 11)) (K := K) (O := O) (t := t) (ar := ar) (A := A) (p := e) (x := 0) (y := 20) h_e g2 (by decide)
    refine zQ_ex (E := 0) hI ?_ (by decide) (fun O' t' => ⟨0, zU A 185 0 2, ?_, zU_at, zFm_u⟩)
    · simp (disch := first | assumption | omega | exact zr_and | exact zr_or | exact zr_xor | exact zr_shl | exact zr_shr | exact zr_ushr | exact zr_byte | exact isHall3 | exact isLaw12) only [i171_0, i171_5, i171_13, i171_29, i171_32, i171_40, k1, k2, mB1_i, mB0_i, mB1n_i, mB0n_i, mB1_x, mB0_x, ↓if_pos, ↓if_neg, if_true, if_false, if_pos, if_neg]
    · have n1 := M1 (zU A 185 0 0) O' t' (u6 0)
      rw [if_pos (by omega)] at n1
      have n2 := M2 (zU A 185 0 0) O' t' (u6 0)
      rw [if_neg (by omega)] at n2
      simp (disch := first | assumption | omega | exact zr_and | exact zr_or | exact zr_xor | exact zr_shl | exact zr_shr | exact zr_ushr | exact zr_byte | exact isHall3 | exact isLaw12) only [i317_0, i317_10, i317_14, i317_17, i317_22, i317_26, i317_29, i317_31, i317_36, i317_41, i317_44, i317_52, i317_61, i317_73, i317_76, i317_92, i317_98, n1, n2, c_thr0, c_thr1, zU_uu, i233_0, zU_c, mB1_i, mB0_i, mB1n_i, mB0n_i, mB1_x, mB0_x, ↓if_pos, ↓if_neg, if_true, if_false, if_pos, if_neg]
  have k2 := c_nNumber (d := (d + 11)) (K := K) (O := O) (t := t) (ar := ar) (A := A) (p := e) (x := 0) (y := 20) g2 (by decide)
  have m2 : ∀ (B : Nat → Int → Int) (O' : Nat → Int64) (t' : Nat), B 186 = A 186 → mGd ar (d + 11) 318 0 [.int (zI e)] [] (zW K B O' t') = some (.inl (some (.int (zI 0))), zW K B O' t') := fun B O' t' e => by have q := M2 B O' t' e; rwa [if_pos (by omega)] at q
  obtain ⟨A1, f1, f2, f3⟩ := c_fillAll (d := d + 10) (K := K) (O := O) (t := t) (ar := ar) hI g1
  have ce := c_everyone (d := d + 11) (K := K) (O := O) (t := t) (ar := ar) (A := A) isHall3 (by rw [e0]; exact w0)
  rw [e0] at ce
  have hlen := zAP_len (h := A 186) (k := k) w0
  have hll := zNs_len (h := A 186) (k := k) w0
  have hok := zAP_ok (k := k) hw g1
  have b0 := f2.1
  rw [hlen] at b0
  have e6 := zFc_186 f3
  have u7 : zU A1 185 0 0 186 = A 186 := by rw [zU_r (by decide), e6]
  have l1 : ∀ (m : Nat) (i n to : Int), i + m = A 186 0 → 0 ≤ i → (-1 ≤ to ∧ to ≤ 200) → mGd ar (d + 11) 172 7 [.ref 173, .int (zI e), .int (zI n), .int (zI to), .int (zI i)] [] (zW K A1 O t) = some (.inl (some (.int (zI (zFs e (zLst (A1 174) i m) n to)))), zW K A1 O t) := by
    intro m
    induction m with
    | zero =>
      intro i n to hi i0 ht
      simp (disch := first | assumption | omega | exact zr_and | exact zr_or | exact zr_xor | exact zr_shl | exact zr_shr | exact zr_ushr | exact zr_byte | exact isHall3 | exact isLaw12) only [i172_7, i172_48, mB1_i, mB0_i, mB1n_i, mB0n_i, mB1_x, mB0_x, ↓if_pos, ↓if_neg, if_true, if_false, if_pos, if_neg]
      rfl
    | succ m ih =>
      intro i n to hi i0 ht
      have ri := zBag_rng f2 hok i i0 (by omega)
      rw [show zLst (A1 174) i (m + 1) = A1 174 i :: zLst (A1 174) (i + 1) m from rfl, show zFs e (A1 174 i :: zLst (A1 174) (i + 1) m) n to = if A1 174 i ≤ to then zFs e (zLst (A1 174) (i + 1) m) n to else zFs e (zLst (A1 174) (i + 1) m) (n + 1) (A1 174 i + 2 * e) from rfl, i172_7 (by omega) (by omega)]
      by_cases hc : A1 174 i ≤ to
      · rw [if_pos hc, ← ih (i + 1) n to (by omega) (by omega) ht]
        simp (disch := first | assumption | omega | exact zr_and | exact zr_or | exact zr_xor | exact zr_shl | exact zr_shr | exact zr_ushr | exact zr_byte | exact isHall3 | exact isLaw12) only [i172_16, i172_27, i172_42, i172_48, mB1_i, mB0_i, mB1n_i, mB0n_i, mB1_x, mB0_x, ↓if_pos, ↓if_neg, if_true, if_false, if_pos, if_neg]
      · rw [if_neg hc, ← ih (i + 1) (n + 1) _ (by omega) (by omega) (by omega)]
        simp (disch := first | assumption | omega | exact zr_and | exact zr_or | exact zr_xor | exact zr_shl | exact zr_shr | exact zr_ushr | exact zr_byte | exact isHall3 | exact isLaw12) only [i172_16, i172_27, i172_42, i172_48, mB1_i, mB0_i, mB1n_i, mB0n_i, mB1_x, mB0_x, ↓if_pos, ↓if_neg, if_true, if_false, if_pos, if_neg]
  have hv := zFs_rng (e := e) (L := zSort (zNs (A 186) k)) (n := 0) (to := -1) (by decide)
  rw [zSort_len, hll] at hv
  refine zQ_ok (b := zFs e (zSort (zNs (A 186) k)) 0 (-1)) (A1 := A1) hI ?_ f3 (by omega) (fun O' t' => ?_)
  · have := l1 (A 186 0).toNat 0 0 (-1) (by omega) (by omega) (by omega)
    have e3 := f2.2.2.2.2
    rw [show (zAP (A 186) k).length = (A 186 0).toNat by omega] at e3
    rw [e3, zV_AP] at this
    simp (disch := first | assumption | omega | exact zr_and | exact zr_or | exact zr_xor | exact zr_shl | exact zr_shr | exact zr_ushr | exact zr_byte | exact isHall3 | exact isLaw12) only [i171_0, i171_5, i171_13, i171_29, i171_32, i171_40, k1, k2, ce, f1, i172_0, this, mB1_i, mB0_i, mB1n_i, mB0n_i, mB1_x, mB0_x, ↓if_pos, ↓if_neg, if_true, if_false, if_pos, if_neg]
  · have n1 := m1 (zU A1 185 0 0) O' t' u7
    have n2 := m2 (zU A1 185 0 0) O' t' u7
    obtain ⟨A2, s1, s2, s3, s4, s5, s6, s7⟩ := c_laidAll (d := d + 9) (K := K) (O := O') (t := t') (ar := ar) (B := zU A1 185 0 0) hw u7 g1
    have ca := c_all (d := d + 10) (K := K) (O := O') (t := t') (ar := ar) (A := A2) (by rw [s3]; exact w0)
    rw [s3] at ca
    obtain ⟨A3, p1, p2, p3, p4, p5, p6⟩ := c_sortAll (d := d + 10) (K := K) (O := O') (t := t') (ar := ar) (B := A2) hw s3 s4 s6
    have hsl : (zNs (A 186) k).length = (A 186 0).toNat := by omega
    rw [hll] at p3
    have r3 : ∀ i, 0 ≤ i → i < A 186 0 → 0 ≤ A3 194 i ∧ A3 194 i ≤ 99 := fun i i0 i1 => by
      rw [zLst_at0 p4 i0 (by omega), ← zV_AP]
      exact zAt_rng hok i0 (by omega)
    have l2 : ∀ (m : Nat) (i n to : Int), i + m = A 186 0 → 0 ≤ i → (-1 ≤ to ∧ to ≤ 200) → mGd ar (d + 12) 317 52 [.ref 185, .int (zI k), .int (zI e), .int (zI n), .int (zI to), .int (zI i)] [] (zW K A3 O' t') = some (.inl (some (.int (zI (zFs e (zLst (A3 194) i m) n to)))), zW K A3 O' t') := by
      intro m
      induction m with
      | zero =>
        intro i n to hi i0 ht
        simp (disch := first | assumption | omega | exact zr_and | exact zr_or | exact zr_xor | exact zr_shl | exact zr_shr | exact zr_ushr | exact zr_byte | exact isHall3 | exact isLaw12) only [i317_52, i317_98, mB1_i, mB0_i, mB1n_i, mB0n_i, mB1_x, mB0_x, ↓if_pos, ↓if_neg, if_true, if_false, if_pos, if_neg]
        rfl
      | succ m ih =>
        intro i n to hi i0 ht
        have ri := r3 i i0 (by omega)
        rw [show zLst (A3 194) i (m + 1) = A3 194 i :: zLst (A3 194) (i + 1) m from rfl, show zFs e (A3 194 i :: zLst (A3 194) (i + 1) m) n to = if A3 194 i ≤ to then zFs e (zLst (A3 194) (i + 1) m) n to else zFs e (zLst (A3 194) (i + 1) m) (n + 1) (A3 194 i + 2 * e) from rfl, i317_52 (by omega) (by omega)]
        by_cases hc : A3 194 i ≤ to
        · rw [if_pos hc, ← ih (i + 1) n to (by omega) (by omega) ht]
          simp (disch := first | assumption | omega | exact zr_and | exact zr_or | exact zr_xor | exact zr_shl | exact zr_shr | exact zr_ushr | exact zr_byte | exact isHall3 | exact isLaw12) only [i317_10, i317_14, i317_17, i317_22, i317_26, i317_29, i317_31, i317_36, i317_41, i317_44, i317_61, i317_73, i317_76, i317_92, i317_98, mB1_i, mB0_i, mB1n_i, mB0n_i, mB1_x, mB0_x, ↓if_pos, ↓if_neg, if_true, if_false, if_pos, if_neg]
        · rw [if_neg hc, ← ih (i + 1) (n + 1) _ (by omega) (by omega) (by omega)]
          simp (disch := first | assumption | omega | exact zr_and | exact zr_or | exact zr_xor | exact zr_shl | exact zr_shr | exact zr_ushr | exact zr_byte | exact isHall3 | exact isLaw12) only [i317_10, i317_14, i317_17, i317_22, i317_26, i317_29, i317_31, i317_36, i317_41, i317_44, i317_61, i317_73, i317_76, i317_92, i317_98, mB1_i, mB0_i, mB1n_i, mB0n_i, mB1_x, mB0_x, ↓if_pos, ↓if_neg, if_true, if_false, if_pos, if_neg]
    have hz := zFm_0 (A := A1) (A' := A3) (zFt_trans s2 p2)
    refine ⟨A3, ?_, hz.1, hz.2⟩
    have := l2 (A 186 0).toNat 0 0 (-1) (by omega) (by omega) (by omega)
    rw [← hsl, p4] at this
    rw [← this]
    simp (disch := first | assumption | omega | exact zr_and | exact zr_or | exact zr_xor | exact zr_shl | exact zr_shr | exact zr_ushr | exact zr_byte | exact isHall3 | exact isLaw12) only [i317_0, i317_10, i317_14, i317_17, i317_22, i317_26, i317_29, i317_31, i317_36, i317_41, i317_44, i317_61, i317_73, i317_76, i317_92, i317_98, n1, n2, c_thr0, s1, ca, p1, mB1_i, mB0_i, mB1n_i, mB0n_i, mB1_x, mB0_x, ↓if_pos, ↓if_neg, if_true, if_false, if_pos, if_neg]
/-- the best of sizes by how many it fits -/
def zBs (f : Int → Int) : Int → Nat → Int → Int → Int
  | _, 0, best, _ => best
  | v, m + 1, best, most => if most < f v then zBs f (v + 1) m v (f v) else zBs f (v + 1) m best most
theorem zBs_rng {f : Int → Int} : ∀ {m : Nat} {v b mo : Int}, 0 ≤ v → v + m ≤ 100 → (0 ≤ b ∧ b < 100) → 0 ≤ zBs f v m b mo ∧ zBs f v m b mo < 100
  | 0, _, _, _, _, _, h => h
  | m + 1, v, b, mo, h0, h1, h => by
    show 0 ≤ (if mo < f v then _ else _) ∧ (if mo < f v then _ else _) < 100
    split
    · exact zBs_rng (by omega) (by omega) (by omega)
    · exact zBs_rng (by omega) (by omega) h
/-- none fits nobody: 0 all the same -/
theorem zBs_start {f : Int → Int} (h0 : 0 ≤ f 0) {m : Nat} : zBs f 0 (m + 1) 0 0 = zBs f 0 (m + 1) 0 (-1) := by
  show (if 0 < f 0 then zBs f (0 + 1) m 0 (f 0) else zBs f (0 + 1) m 0 0) = if -1 < f 0 then zBs f (0 + 1) m 0 (f 0) else zBs f (0 + 1) m 0 (-1)
  rw [if_pos (show -1 < f 0 by omega)]
  by_cases h : 0 < f 0
  · rw [if_pos h]
  · rw [if_neg h, show f 0 = 0 by omega]
theorem q_shoe {k e : Int} (hI : zInv A) (h_k : -2147483648 ≤ k ∧ k < 2147483648) (h_e : -2147483648 ≤ e ∧ e < 2147483648) : zQ ar K O t (d + 12) 177 [.ref 0, .int (zI k), .int (zI e)] 320 [.ref 185, .int (zI k), .int (zI e), .double 0, .double 0, .double 0, .double 0] (fun E => if E = 2 then 1 else if E = 0 then 2 else 0) A := by
  obtain ⟨hw, hr, e0, w0⟩ := zInv_f hI
  have u6 : ∀ v, zU A 185 0 v 186 = A 186 := fun v => zU_r (by decide)
  have M1 : ∀ (B : Nat → Int → Int) (O' : Nat → Int64) (t' : Nat), B 186 = A 186 → mGd ar (d + 11) 257 0 [.int (zI k)] [] (zW K B O' t') = some (.inl (some (.int (zI (if 0 ≤ k ∧ k < 4 then 0 else 1)))), zW K B O' t') := fun B O' t' e => c_noKind (d := (d + 10)) h_k
  have M2 : ∀ (B : Nat → Int → Int) (O' : Nat → Int64) (t' : Nat), B 186 = A 186 → mGd ar (d + 11) 318 0 [.int (zI e)] [] (zW K B O' t') = some (.inl (some (.int (zI (if 0 ≤ e ∧ e ≤ 20 then 0 else 1)))), zW K B O' t') := fun B O' t' e => c_noEase (d := (d + 10)) h_e
  by_cases g1 : 0 ≤ k ∧ k < 4
  case neg =>
    have k1 := c_nKindX (d := (d + 11)) (K := K) (O := O) (t := t) (ar := ar) (A := A) (p := k) h_k g1
    refine zQ_ex (E := 2) hI ?_ (by decide) (fun O' t' => ⟨0, zU A 185 0 1, ?_, zU_at, zFm_u⟩)
    · simp (disch := first | assumption | omega | exact zr_and | exact zr_or | exact zr_xor | exact zr_shl | exact zr_shr | exact zr_ushr | exact zr_byte | exact isHall3 | exact isLaw12) only [i177_0, i177_5, i177_13, i177_29, i177_32, i177_40, k1, mB1_i, mB0_i, mB1n_i, mB0n_i, mB1_x, mB0_x, ↓if_pos, ↓if_neg, if_true, if_false, if_pos, if_neg]
    · have n1 := M1 (zU A 185 0 0) O' t' (u6 0)
      rw [if_neg (by omega)] at n1
      simp (disch := first | assumption | omega | exact zr_and | exact zr_or | exact zr_xor | exact zr_shl | exact zr_shr | exact zr_ushr | exact zr_byte | exact isHall3 | exact isLaw12) only [i320_0, i320_10, i320_14, i320_17, i320_22, i320_26, i320_29, i320_31, i320_36, i320_44, i320_51, i320_55, i320_60, i320_67, i320_73, i320_80, i320_90, i320_93, i320_100, i320_106, n1, c_thr0, c_thr1, zU_uu, i233_0, zU_c, mB1_i, mB0_i, mB1n_i, mB0n_i, mB1_x, mB0_x, ↓if_pos, ↓if_neg, if_true, if_false, if_pos, if_neg]
  have k1 := c_nKind (d := (d + 11)) (K := K) (O := O) (t := t) (ar := ar) (A := A) (p := k) g1
  have m1 : ∀ (B : Nat → Int → Int) (O' : Nat → Int64) (t' : Nat), B 186 = A 186 → mGd ar (d + 11) 257 0 [.int (zI k)] [] (zW K B O' t') = some (.inl (some (.int (zI 0))), zW K B O' t') := fun B O' t' e => by have q := M1 B O' t' e; rwa [if_pos (by omega)] at q
  by_cases g2 : 0 ≤ e ∧ e ≤ 20
  case neg =>
    have k2 := c_nNumberX (d := (d + 11)) (K := K) (O := O) (t := t) (ar := ar) (A := A) (p := e) (x := 0) (y := 20) h_e g2 (by decide)
    refine zQ_ex (E := 0) hI ?_ (by decide) (fun O' t' => ⟨0, zU A 185 0 2, ?_, zU_at, zFm_u⟩)
    · simp (disch := first | assumption | omega | exact zr_and | exact zr_or | exact zr_xor | exact zr_shl | exact zr_shr | exact zr_ushr | exact zr_byte | exact isHall3 | exact isLaw12) only [i177_0, i177_5, i177_13, i177_29, i177_32, i177_40, k1, k2, mB1_i, mB0_i, mB1n_i, mB0n_i, mB1_x, mB0_x, ↓if_pos, ↓if_neg, if_true, if_false, if_pos, if_neg]
    · have n1 := M1 (zU A 185 0 0) O' t' (u6 0)
      rw [if_pos (by omega)] at n1
      have n2 := M2 (zU A 185 0 0) O' t' (u6 0)
      rw [if_neg (by omega)] at n2
      simp (disch := first | assumption | omega | exact zr_and | exact zr_or | exact zr_xor | exact zr_shl | exact zr_shr | exact zr_ushr | exact zr_byte | exact isHall3 | exact isLaw12) only [i320_0, i320_10, i320_14, i320_17, i320_22, i320_26, i320_29, i320_31, i320_36, i320_44, i320_51, i320_55, i320_60, i320_67, i320_73, i320_80, i320_90, i320_93, i320_100, i320_106, n1, n2, c_thr0, c_thr1, zU_uu, i233_0, zU_c, mB1_i, mB0_i, mB1n_i, mB0n_i, mB1_x, mB0_x, ↓if_pos, ↓if_neg, if_true, if_false, if_pos, if_neg]
  have k2 := c_nNumber (d := (d + 11)) (K := K) (O := O) (t := t) (ar := ar) (A := A) (p := e) (x := 0) (y := 20) g2 (by decide)
  have m2 : ∀ (B : Nat → Int → Int) (O' : Nat → Int64) (t' : Nat), B 186 = A 186 → mGd ar (d + 11) 318 0 [.int (zI e)] [] (zW K B O' t') = some (.inl (some (.int (zI 0))), zW K B O' t') := fun B O' t' e => by have q := M2 B O' t' e; rwa [if_pos (by omega)] at q
  obtain ⟨A1, f1, f2, f3⟩ := c_fillAll (d := d + 10) (K := K) (O := O) (t := t) (ar := ar) hI g1
  have ce := c_everyone (d := d + 11) (K := K) (O := O) (t := t) (ar := ar) (A := A) isHall3 (by rw [e0]; exact w0)
  rw [e0] at ce
  have hll := zNs_len (h := A 186) (k := k) w0
  have hok := zAP_ok (k := k) hw g1
  have e6 := zFc_186 f3
  have u7 : zU A1 185 0 0 186 = A 186 := by rw [zU_r (by decide), e6]
  have fr : ∀ v, 0 ≤ ((zNs (A 186) k).countP (fun x => decide (zAbs (x - v) ≤ e)) : Int) ∧ ((zNs (A 186) k).countP (fun x => decide (zAbs (x - v) ≤ e)) : Int) ≤ 8 := fun v => by
    have : (zNs (A 186) k).countP (fun x => decide (zAbs (x - v) ≤ e)) ≤ (zNs (A 186) k).length := List.countP_le_length
    omega
  have l1 : ∀ (m : Nat) (v b mo : Int) (u : Value), v + m = 100 → 0 ≤ v → (0 ≤ mo ∧ mo ≤ 8) → mGd ar (d + 11) 178 7 [.ref 173, .int (zI e), .int (zI b), .int (zI mo), .int (zI v), u] [] (zW K A1 O t) = some (.inl (some (.int (zI (zBs (fun v => ((zNs (A 186) k).countP (fun x => decide (zAbs (x - v) ≤ e)) : Int)) v m b mo)))), zW K A1 O t) := by
    intro m
    induction m with
    | zero =>
      intro v b mo u hv v0 hm
      simp (disch := first | assumption | omega | exact zr_and | exact zr_or | exact zr_xor | exact zr_shl | exact zr_shr | exact zr_ushr | exact zr_byte | exact isHall3 | exact isLaw12) only [i178_7, i178_41, mB1_i, mB0_i, mB1n_i, mB0n_i, mB1_x, mB0_x, ↓if_pos, ↓if_neg, if_true, if_false, if_pos, if_neg]
      rfl
    | succ m ih =>
      intro v b mo u hv v0 hm
      have cn := c_near (d := d + 9) (K := K) (O := O) (t := t) (ar := ar) (A := A1) f2 hok (v := v) (e := e) (by omega) (by omega)
      rw [zAP_fst] at cn
      have r := fr v
      rw [show zBs (fun v => ((zNs (A 186) k).countP (fun x => decide (zAbs (x - v) ≤ e)) : Int)) v (m + 1) b mo = if mo < ((zNs (A 186) k).countP (fun x => decide (zAbs (x - v) ≤ e)) : Int) then zBs (fun v => ((zNs (A 186) k).countP (fun x => decide (zAbs (x - v) ≤ e)) : Int)) (v + 1) m v ((zNs (A 186) k).countP (fun x => decide (zAbs (x - v) ≤ e)) : Int) else zBs (fun v => ((zNs (A 186) k).countP (fun x => decide (zAbs (x - v) ≤ e)) : Int)) (v + 1) m b mo from rfl, i178_7 (by omega)]
      by_cases hc : mo < ((zNs (A 186) k).countP (fun x => decide (zAbs (x - v) ≤ e)) : Int)
      · rw [if_pos hc, ← ih (v + 1) v _ (.int (zI ((zNs (A 186) k).countP (fun x => decide (zAbs (x - v) ≤ e)) : Int))) (by omega) (by omega) r]
        simp (disch := first | assumption | omega | exact zr_and | exact zr_or | exact zr_xor | exact zr_shl | exact zr_shr | exact zr_ushr | exact zr_byte | exact isHall3 | exact isLaw12) only [i178_14, i178_21, i178_29, i178_35, i178_41, cn, mB1_i, mB0_i, mB1n_i, mB0n_i, mB1_x, mB0_x, ↓if_pos, ↓if_neg, if_true, if_false, if_pos, if_neg]
      · rw [if_neg hc, ← ih (v + 1) b mo (.int (zI ((zNs (A 186) k).countP (fun x => decide (zAbs (x - v) ≤ e)) : Int))) (by omega) (by omega) hm]
        simp (disch := first | assumption | omega | exact zr_and | exact zr_or | exact zr_xor | exact zr_shl | exact zr_shr | exact zr_ushr | exact zr_byte | exact isHall3 | exact isLaw12) only [i178_14, i178_21, i178_29, i178_35, i178_41, cn, mB1_i, mB0_i, mB1n_i, mB0n_i, mB1_x, mB0_x, ↓if_pos, ↓if_neg, if_true, if_false, if_pos, if_neg]
  have hv := zBs_rng (f := fun v => ((zNs (A 186) k).countP (fun x => decide (zAbs (x - v) ≤ e)) : Int)) (m := 100) (v := 0) (b := 0) (mo := 0) (by omega) (by omega) (by decide)
  refine zQ_ok (b := zBs (fun v => ((zNs (A 186) k).countP (fun x => decide (zAbs (x - v) ≤ e)) : Int)) 0 100 0 0) (A1 := A1) hI ?_ f3 (by omega) (fun O' t' => ?_)
  · have this := l1 100 0 0 0 (.double 0) (by omega) (by omega) (by decide)
    simp (disch := first | assumption | omega | exact zr_and | exact zr_or | exact zr_xor | exact zr_shl | exact zr_shr | exact zr_ushr | exact zr_byte | exact isHall3 | exact isLaw12) only [i177_0, i177_5, i177_13, i177_29, i177_32, i177_40, k1, k2, ce, f1, i178_0, this, mB1_i, mB0_i, mB1n_i, mB0n_i, mB1_x, mB0_x, ↓if_pos, ↓if_neg, if_true, if_false, if_pos, if_neg]
  · have n1 := m1 (zU A1 185 0 0) O' t' u7
    have n2 := m2 (zU A1 185 0 0) O' t' u7
    obtain ⟨A2, s1, s2, s3, s4, s5, s6, s7⟩ := c_laidAll (d := d + 9) (K := K) (O := O') (t := t') (ar := ar) (B := zU A1 185 0 0) hw u7 g1
    have ca := c_all (d := d + 10) (K := K) (O := O') (t := t') (ar := ar) (A := A2) (by rw [s3]; exact w0)
    rw [s3] at ca
    have e20 : A2 186 0 = A 186 0 := by rw [s3]
    have l2 : ∀ (m : Nat) (v b mo : Int) (u : Value), v + m = 100 → 0 ≤ v → (-1 ≤ mo ∧ mo ≤ 8) → mGd ar (d + 12) 320 44 [.ref 185, .int (zI k), .int (zI e), .int (zI b), .int (zI mo), .int (zI v), u] [] (zW K A2 O' t') = some (.inl (some (.int (zI (zBs (fun v => ((zNs (A 186) k).countP (fun x => decide (zAbs (x - v) ≤ e)) : Int)) v m b mo)))), zW K A2 O' t') := by
      intro m
      induction m with
      | zero =>
        intro v b mo u hv v0 hm
        simp (disch := first | assumption | omega | exact zr_and | exact zr_or | exact zr_xor | exact zr_shl | exact zr_shr | exact zr_ushr | exact zr_byte | exact isHall3 | exact isLaw12) only [i320_44, i320_106, mB1_i, mB0_i, mB1n_i, mB0n_i, mB1_x, mB0_x, ↓if_pos, ↓if_neg, if_true, if_false, if_pos, if_neg]
        rfl
      | succ m ih =>
        intro v b mo u hv v0 hm
        have cb := c_below (d := d + 10) (K := K) (O := O') (t := t') (ar := ar) (A := A2) (s := zAll (A 186 0)) (v := v - e) s4 (zAll_lt w0) (by omega)
        have cab := c_above (d := d + 10) (K := K) (O := O') (t := t') (ar := ar) (A := A2) (s := zAll (A 186 0)) (v := v + e) s4 (zAll_lt w0) (by omega)
        rw [s3, s6] at cb cab
        have r := fr v
        have z3 := zNear3 (v := v) (e := e) g2.1 (L := zNs (A 186) k)
        rw [hll] at z3
        have z3' : A 186 0 - ((zSel (zAll (A 186 0)) (fun p => A 186 (15 + 6 * p + k)) 0 (A 186 0).toNat).countP (fun x => decide (x < v - e)) : Int) - ((zSel (zAll (A 186 0)) (fun p => A 186 (15 + 6 * p + k)) 0 (A 186 0).toNat).countP (fun x => decide (v + e < x)) : Int) = ((zNs (A 186) k).countP (fun x => decide (zAbs (x - v) ≤ e)) : Int) := z3.symm
        rw [show zBs (fun v => ((zNs (A 186) k).countP (fun x => decide (zAbs (x - v) ≤ e)) : Int)) v (m + 1) b mo = if mo < ((zNs (A 186) k).countP (fun x => decide (zAbs (x - v) ≤ e)) : Int) then zBs (fun v => ((zNs (A 186) k).countP (fun x => decide (zAbs (x - v) ≤ e)) : Int)) (v + 1) m v ((zNs (A 186) k).countP (fun x => decide (zAbs (x - v) ≤ e)) : Int) else zBs (fun v => ((zNs (A 186) k).countP (fun x => decide (zAbs (x - v) ≤ e)) : Int)) (v + 1) m b mo from rfl, i320_44 (by omega)]
        by_cases hc : mo < ((zNs (A 186) k).countP (fun x => decide (zAbs (x - v) ≤ e)) : Int)
        · rw [if_pos hc, ← ih (v + 1) v _ (.int (zI ((zNs (A 186) k).countP (fun x => decide (zAbs (x - v) ≤ e)) : Int))) (by omega) (by omega) (by omega)]
          simp (disch := first | assumption | omega | exact zr_and | exact zr_or | exact zr_xor | exact zr_shl | exact zr_shr | exact zr_ushr | exact zr_byte | exact isHall3 | exact isLaw12) only [i320_10, i320_14, i320_17, i320_22, i320_26, i320_29, i320_31, i320_36, i320_51, i320_55, i320_60, i320_67, i320_73, i320_80, i320_90, i320_93, i320_100, i320_106, i233_0, e20, ca, cb, cab, z3', mB1_i, mB0_i, mB1n_i, mB0n_i, mB1_x, mB0_x, ↓if_pos, ↓if_neg, if_true, if_false, if_pos, if_neg]
        · rw [if_neg hc, ← ih (v + 1) b mo (.int (zI ((zNs (A 186) k).countP (fun x => decide (zAbs (x - v) ≤ e)) : Int))) (by omega) (by omega) hm]
          simp (disch := first | assumption | omega | exact zr_and | exact zr_or | exact zr_xor | exact zr_shl | exact zr_shr | exact zr_ushr | exact zr_byte | exact isHall3 | exact isLaw12) only [i320_10, i320_14, i320_17, i320_22, i320_26, i320_29, i320_31, i320_36, i320_51, i320_55, i320_60, i320_67, i320_73, i320_80, i320_90, i320_93, i320_100, i320_106, i233_0, e20, ca, cb, cab, z3', mB1_i, mB0_i, mB1n_i, mB0n_i, mB1_x, mB0_x, ↓if_pos, ↓if_neg, if_true, if_false, if_pos, if_neg]
    have hz := zFm_0 (A := A1) (A' := A2) s2
    refine ⟨A2, ?_, hz.1, hz.2⟩
    rw [zBs_start (m := 99) (fr 0).1, ← l2 100 0 0 (-1) (.double 0) (by omega) (by omega) (by decide)]
    simp (disch := first | assumption | omega | exact zr_and | exact zr_or | exact zr_xor | exact zr_shl | exact zr_shr | exact zr_ushr | exact zr_byte | exact isHall3 | exact isLaw12) only [i320_0, i320_10, i320_14, i320_17, i320_22, i320_26, i320_29, i320_31, i320_36, i320_51, i320_55, i320_60, i320_67, i320_73, i320_80, i320_90, i320_93, i320_100, i320_106, n1, n2, c_thr0, s1, mB1_i, mB0_i, mB1n_i, mB0n_i, mB1_x, mB0_x, ↓if_pos, ↓if_neg, if_true, if_false, if_pos, if_neg]
end CALLS6
