/-! CALLS, 5: rank, halves, near, range, rules, sizes, shoe -/
theorem zSel_all {α : Type} {f : Int → α} {n p : Int} {m : Nat} (hn : 0 ≤ n ∧ n ≤ 8) (hp : 0 ≤ p ∧ p < n) : zSel (zAll n) f p (m + 1) = f p :: zSel (zAll n) f (p + 1) m := by
  rw [zSel_cons, if_pos (by rw [zB_all hn (by omega)]; exact decide_eq_true hp.2)]
theorem zAll_pos {n : Int} (hn : 0 < n ∧ n ≤ 8) : 0 < zAll n := by
  have h : ∀ k : Fin 9, 0 < k.val → 0 < zAll (k.val : Int) := by decide +kernel
  have := h ⟨n.toNat, by omega⟩ (by show 0 < n.toNat; omega)
  simpa only [Int.toNat_of_nonneg (show 0 ≤ n by omega)] using this
section CALLS5
variable {ar : Nat → Nat × (Nat → Int32)} {d t : Nat} {K : Nat → Nat → Option Nat} {A : Nat → Int → Int} {O : Nat → Int64}
theorem q_rank {p k : Int} (hI : zInv A) (h_p : -2147483648 ≤ p ∧ p < 2147483648) (h_k : -2147483648 ≤ k ∧ k < 2147483648) : zQ ar K O t (d + 12) 200 [.ref 0, .int (zI p), .int (zI k), .double 0, .double 0, .double 0] 334 [.ref 185, .int (zI p), .int (zI k)] (fun E => if E = 2 then 1 else 0) A := by
  obtain ⟨hw, hr, e0, w0⟩ := zInv_f hI
  have u6 : ∀ v, zU A 185 0 v 186 = A 186 := fun v => zU_r (by decide)
  have M1 : ∀ (B : Nat → Int → Int) (O' : Nat → Int64) (t' : Nat), B 186 = A 186 → mGd ar (d + 11) 255 0 [.ref 185, .int (zI p)] [] (zW K B O' t') = some (.inl (some (.int (zI (if 0 ≤ p ∧ p < A 186 0 then 0 else 1)))), zW K B O' t') := fun B O' t' e => by rw [← e]; exact c_noPerson (d := (d + 10)) h_p (by rw [e]; exact w0)
  have M2 : ∀ (B : Nat → Int → Int) (O' : Nat → Int64) (t' : Nat), B 186 = A 186 → mGd ar (d + 11) 257 0 [.int (zI k)] [] (zW K B O' t') = some (.inl (some (.int (zI (if 0 ≤ k ∧ k < 4 then 0 else 1)))), zW K B O' t') := fun B O' t' e => c_noKind (d := (d + 10)) h_k
  by_cases g1 : 0 ≤ p ∧ p < A 186 0
  case neg =>
    have k1 := c_nPersonX (d := (d + 11)) (K := K) (O := O) (t := t) (ar := ar) (A := A) (p := p) h_p (by omega) (by omega)
    refine zQ_ex (E := 2) hI ?_ (by decide) (fun O' t' => ⟨0, zU A 185 0 1, ?_, zU_at, zFm_u⟩)
    · simp (disch := first | assumption | omega | exact zr_and | exact zr_or | exact zr_xor | exact zr_shl | exact zr_shr | exact zr_ushr | exact zr_byte | exact isHall3 | exact isLaw12) only [i200_0, i200_5, i200_10, i200_19, i200_26, i200_38, i200_48, i200_52, i200_55, i200_61, k1, mB1_i, mB0_i, mB1n_i, mB0n_i, mB1_x, mB0_x, ↓if_pos, ↓if_neg, if_true, if_false, if_pos, if_neg]
    · have n1 := M1 (zU A 185 0 0) O' t' (u6 0)
      rw [if_neg (by omega)] at n1
      simp (disch := first | assumption | omega | exact zr_and | exact zr_or | exact zr_xor | exact zr_shl | exact zr_shr | exact zr_ushr | exact zr_byte | exact isHall3 | exact isLaw12) only [i334_0, i334_11, i334_14, i334_18, i334_21, i334_25, i334_26, i334_30, i334_33, i334_35, i334_40, i334_45, i334_54, n1, c_thr0, c_thr1, zU_uu, i233_0, zU_c, mB1_i, mB0_i, mB1n_i, mB0n_i, mB1_x, mB0_x, ↓if_pos, ↓if_neg, if_true, if_false, if_pos, if_neg]
  have k1 := c_nPerson (d := (d + 11)) (K := K) (O := O) (t := t) (ar := ar) (A := A) (p := p) (by omega) (by omega)
  have m1 : ∀ (B : Nat → Int → Int) (O' : Nat → Int64) (t' : Nat), B 186 = A 186 → mGd ar (d + 11) 255 0 [.ref 185, .int (zI p)] [] (zW K B O' t') = some (.inl (some (.int (zI 0))), zW K B O' t') := fun B O' t' e => by have q := M1 B O' t' e; rwa [if_pos (by omega)] at q
  by_cases g2 : 0 ≤ k ∧ k < 4
  case neg =>
    have k2 := c_nKindX (d := (d + 11)) (K := K) (O := O) (t := t) (ar := ar) (A := A) (p := k) h_k g2
    refine zQ_ex (E := 2) hI ?_ (by decide) (fun O' t' => ⟨0, zU A 185 0 1, ?_, zU_at, zFm_u⟩)
    · simp (disch := first | assumption | omega | exact zr_and | exact zr_or | exact zr_xor | exact zr_shl | exact zr_shr | exact zr_ushr | exact zr_byte | exact isHall3 | exact isLaw12) only [i200_0, i200_5, i200_10, i200_19, i200_26, i200_38, i200_48, i200_52, i200_55, i200_61, k1, k2, mB1_i, mB0_i, mB1n_i, mB0n_i, mB1_x, mB0_x, ↓if_pos, ↓if_neg, if_true, if_false, if_pos, if_neg]
    · have n1 := M1 (zU A 185 0 0) O' t' (u6 0)
      rw [if_pos (by omega)] at n1
      have n2 := M2 (zU A 185 0 0) O' t' (u6 0)
      rw [if_neg (by omega)] at n2
      simp (disch := first | assumption | omega | exact zr_and | exact zr_or | exact zr_xor | exact zr_shl | exact zr_shr | exact zr_ushr | exact zr_byte | exact isHall3 | exact isLaw12) only [i334_0, i334_11, i334_14, i334_18, i334_21, i334_25, i334_26, i334_30, i334_33, i334_35, i334_40, i334_45, i334_54, n1, n2, c_thr0, c_thr1, zU_uu, i233_0, zU_c, mB1_i, mB0_i, mB1n_i, mB0n_i, mB1_x, mB0_x, ↓if_pos, ↓if_neg, if_true, if_false, if_pos, if_neg]
  have k2 := c_nKind (d := (d + 11)) (K := K) (O := O) (t := t) (ar := ar) (A := A) (p := k) g2
  have m2 : ∀ (B : Nat → Int → Int) (O' : Nat → Int64) (t' : Nat), B 186 = A 186 → mGd ar (d + 11) 257 0 [.int (zI k)] [] (zW K B O' t') = some (.inl (some (.int (zI 0))), zW K B O' t') := fun B O' t' e => by have q := M2 B O' t' e; rwa [if_pos (by omega)] at q
  have rn0 := hr.2.2.2.2.2.2.2.1 p k g1.1 g1.2 g2.1 g2.2
  have wn0 := hw.2.2.2.2.2.2.2.1 p k g1.1 g1.2 g2.1 g2.2
  have l1 : ∀ (m : Nat) (q acc : Int), q + m = A 186 0 → 0 ≤ q → mGd ar (d + 12) 200 26 [.ref 0, .int (zI p), .int (zI k), .int (zI ((A 186 (15 + 6 * p + k)))), .int (zI acc), .int (zI q)] [] (zW K A O t) = some (.inl (some (.int (zI (acc + ((zSel (zAll (A 186 0)) (fun p => A 186 (15 + 6 * p + k)) q m).countP (fun x => decide (A 186 (15 + 6 * p + k) < x)) : Int))))), zW K A O t) := by
    intro m
    induction m with
    | zero =>
      intro q acc hq q0
      rw [show acc + ((zSel (zAll (A 186 0)) (fun p => A 186 (15 + 6 * p + k)) q 0).countP (fun x => decide (A 186 (15 + 6 * p + k) < x)) : Int) = acc from Int.add_zero _]
      simp (disch := first | assumption | omega | exact zr_and | exact zr_or | exact zr_xor | exact zr_shl | exact zr_shr | exact zr_ushr | exact zr_byte | exact isHall3 | exact isLaw12) only [i200_26, i200_61, mB1_i, mB0_i, mB1n_i, mB0n_i, mB1_x, mB0_x, ↓if_pos, ↓if_neg, if_true, if_false, if_pos, if_neg]
    | succ m ih =>
      intro q acc hq q0
      have rn := hr.2.2.2.2.2.2.2.1 q k q0 (by omega) g2.1 g2.2
      have wn := hw.2.2.2.2.2.2.2.1 q k q0 (by omega) g2.1 g2.2
      rw [zSel_all w0 (by omega), i200_26 (by omega) (by omega)]
      by_cases hc : A 186 (15 + 6 * p + k) < A 186 (15 + 6 * q + k)
      · rw [zCp_pos (f := fun x => decide (A 186 (15 + 6 * p + k) < x)) (decide_eq_true hc), show ∀ z : Nat, acc + ((z + 1 : Nat) : Int) = acc + 1 + (z : Int) from fun z => by omega, ← ih (q + 1) _ (by omega) (by omega)]
        simp (disch := first | assumption | omega | exact zr_and | exact zr_or | exact zr_xor | exact zr_shl | exact zr_shr | exact zr_ushr | exact zr_byte | exact isHall3 | exact isLaw12) only [i200_5, i200_10, i200_19, i200_38, i200_48, i200_52, i200_55, i200_61, i27_0, rn, mB1_i, mB0_i, mB1n_i, mB0n_i, mB1_x, mB0_x, ↓if_pos, ↓if_neg, if_true, if_false, if_pos, if_neg]
      · rw [List.countP_cons_of_neg (by simp [hc]), ← ih (q + 1) _ (by omega) (by omega)]
        simp (disch := first | assumption | omega | exact zr_and | exact zr_or | exact zr_xor | exact zr_shl | exact zr_shr | exact zr_ushr | exact zr_byte | exact isHall3 | exact isLaw12) only [i200_5, i200_10, i200_19, i200_38, i200_48, i200_52, i200_55, i200_61, i27_0, rn, mB1_i, mB0_i, mB1n_i, mB0n_i, mB1_x, mB0_x, ↓if_pos, ↓if_neg, if_true, if_false, if_pos, if_neg]
  have hle : (zNs (A 186) k).countP (fun x => decide (A 186 (15 + 6 * p + k) < x)) ≤ (zNs (A 186) k).length := List.countP_le_length
  have hlen := zSel_le (s := zAll (A 186 0)) (f := fun p => A 186 (15 + 6 * p + k)) (m := (A 186 0).toNat) (p := 0)
  refine zQ_ok (b := ((zNs (A 186) k).countP (fun x => decide (A 186 (15 + 6 * p + k) < x)) : Int)) (A1 := A) hI ?_ zFc_refl (by unfold zNs at hle ⊢; omega) (fun O' t' => ?_)
  · have := l1 (A 186 0).toNat 0 0 (by omega) (by omega)
    rw [Int.zero_add] at this
    unfold zNs
    rw [← this]
    simp (disch := first | assumption | omega | exact zr_and | exact zr_or | exact zr_xor | exact zr_shl | exact zr_shr | exact zr_ushr | exact zr_byte | exact isHall3 | exact isLaw12) only [i200_0, i200_5, i200_10, i200_19, i200_38, i200_48, i200_52, i200_55, i200_61, k1, k2, i27_0, rn0, mB1_i, mB0_i, mB1n_i, mB0n_i, mB1_x, mB0_x, ↓if_pos, ↓if_neg, if_true, if_false, if_pos, if_neg]
  · have n1 := m1 (zU A 185 0 0) O' t' (u6 0)
    have n2 := m2 (zU A 185 0 0) O' t' (u6 0)
    obtain ⟨A2, s1, s2, s3, s4, s5, s6, s7⟩ := c_laidAll (d := d + 9) (K := K) (O := O') (t := t') (ar := ar) (B := zU A 185 0 0) hw (u6 0) g2
    have ca := c_all (d := d + 10) (K := K) (O := O') (t := t') (ar := ar) (A := A2) (by rw [s3]; exact w0)
    rw [s3] at ca
    have cb := c_above (d := d + 10) (K := K) (O := O') (t := t') (ar := ar) (A := A2) (s := zAll (A 186 0)) (v := A2 193 p) s4 (zAll_lt w0) (by have := s4.2.1 p g1.1 (by rw [s3]; exact g1.2); omega)
    have ep : A2 193 p = A 186 (15 + 6 * p + k) := s7 p g1.1 g1.2
    rw [s3, s6, ep] at cb
    have hz := zFm_0 (A := A) (A' := A2) s2
    refine ⟨A2, ?_, hz.1, hz.2⟩
    unfold zNs
    simp (disch := first | assumption | omega | exact zr_and | exact zr_or | exact zr_xor | exact zr_shl | exact zr_shr | exact zr_ushr | exact zr_byte | exact isHall3 | exact isLaw12) only [i334_0, i334_11, i334_14, i334_18, i334_21, i334_25, i334_26, i334_30, i334_33, i334_35, i334_40, i334_45, i334_54, n1, n2, c_thr0, s1, ca, ep, cb, mB1_i, mB0_i, mB1n_i, mB0n_i, mB1_x, mB0_x, ↓if_pos, ↓if_neg, if_true, if_false, if_pos, if_neg]
theorem q_halves {k : Int} (hI : zInv A) (h_k : -2147483648 ≤ k ∧ k < 2147483648) : zQ ar K O t (d + 12) 161 [.ref 0, .int (zI k)] 314 [.ref 185, .int (zI k)] (fun E => if E = 2 then 1 else 0) A := by
  obtain ⟨hw, hr, e0, w0⟩ := zInv_f hI
  have u6 : ∀ v, zU A 185 0 v 186 = A 186 := fun v => zU_r (by decide)
  have M1 : ∀ (B : Nat → Int → Int) (O' : Nat → Int64) (t' : Nat), B 186 = A 186 → mGd ar (d + 11) 257 0 [.int (zI k)] [] (zW K B O' t') = some (.inl (some (.int (zI (if 0 ≤ k ∧ k < 4 then 0 else 1)))), zW K B O' t') := fun B O' t' e => c_noKind (d := (d + 10)) h_k
  by_cases g1 : 0 ≤ k ∧ k < 4
  case neg =>
    have k1 := c_nKindX (d := (d + 11)) (K := K) (O := O) (t := t) (ar := ar) (A := A) (p := k) h_k g1
    refine zQ_ex (E := 2) hI ?_ (by decide) (fun O' t' => ⟨0, zU A 185 0 1, ?_, zU_at, zFm_u⟩)
    · simp (disch := first | assumption | omega | exact zr_and | exact zr_or | exact zr_xor | exact zr_shl | exact zr_shr | exact zr_ushr | exact zr_byte | exact isHall3 | exact isLaw12) only [i161_0, i161_5, i161_21, i161_24, i161_34, i161_52, i161_56, i161_57, k1, mB1_i, mB0_i, mB1n_i, mB0n_i, mB1_x, mB0_x, ↓if_pos, ↓if_neg, if_true, if_false, if_pos, if_neg]
    · have n1 := M1 (zU A 185 0 0) O' t' (u6 0)
      rw [if_neg (by omega)] at n1
      simp (disch := first | assumption | omega | exact zr_and | exact zr_or | exact zr_xor | exact zr_shl | exact zr_shr | exact zr_ushr | exact zr_byte | exact isHall3 | exact isLaw12) only [i314_0, i314_10, i314_14, i314_17, i314_19, i314_24, i314_28, i314_31, i314_36, i314_40, i314_44, i314_48, i314_52, i314_53, n1, c_thr0, c_thr1, zU_uu, i233_0, zU_c, mB1_i, mB0_i, mB1n_i, mB0n_i, mB1_x, mB0_x, ↓if_pos, ↓if_neg, if_true, if_false, if_pos, if_neg]
  have k1 := c_nKind (d := (d + 11)) (K := K) (O := O) (t := t) (ar := ar) (A := A) (p := k) g1
  have m1 : ∀ (B : Nat → Int → Int) (O' : Nat → Int64) (t' : Nat), B 186 = A 186 → mGd ar (d + 11) 257 0 [.int (zI k)] [] (zW K B O' t') = some (.inl (some (.int (zI 0))), zW K B O' t') := fun B O' t' e => by have q := M1 B O' t' e; rwa [if_pos (by omega)] at q
  obtain ⟨A1, f1, f2, f3⟩ := c_fillAll (d := d + 10) (K := K) (O := O) (t := t) (ar := ar) hI g1
  have ce := c_everyone (d := d + 11) (K := K) (O := O) (t := t) (ar := ar) (A := A) isHall3 (by rw [e0]; exact w0)
  rw [e0] at ce
  have hlen := zAP_len (h := A 186) (k := k) w0
  have hs := zOk_sums (zAP_ok (k := k) hw g1).2
  obtain ⟨b0, b1, -⟩ := f2
  rw [hlen] at b0
  have e6 := zFc_186 f3
  have u7 : zU A1 185 0 0 186 = A 186 := by rw [zU_r (by decide), e6]
  have tm : Int.tmod (zS1 (zAP (A 186) k)) (A 186 0) = zS1 (zAP (A 186) k) % A 186 0 := Int.tmod_eq_emod_of_nonneg hs.1.1
  have ref : ∀ (O' : Nat → Int64) (t' : Nat), ∃ A2, mGd ar (d + 12) 314 0 [.ref 185, .int (zI k)] [] (zW K A1 O' t') = some (.inl (some (.int (zI (if 0 < A 186 0 ∧ zS1 (zAP (A 186) k) % A 186 0 ≠ 0 then 1 else 0)))), zW K A2 O' t') ∧ A2 185 0 = 0 ∧ zFm A1 A2 := fun O' t' => by
    have n1 := m1 (zU A1 185 0 0) O' t' u7
    obtain ⟨A2, s1, s2, s3, s4, s5, s6, s7⟩ := c_laidAll (d := d + 9) (K := K) (O := O') (t := t') (ar := ar) (B := zU A1 185 0 0) hw u7 g1
    have ca := c_all (d := d + 10) (K := K) (O := O') (t := t') (ar := ar) (A := A2) (by rw [s3]; exact w0)
    rw [s3] at ca
    have cs := c_sumOf (d := d + 9) (K := K) (O := O') (t := t') (ar := ar) (A := A2) (s := zAll (A 186 0)) (by rw [s3]; exact w0) (zAll_lt w0)
    rw [s3, s5] at cs
    have e20 : A2 186 0 = A 186 0 := by rw [s3]
    have hz := zFm_0 (A := A1) (A' := A2) s2
    refine ⟨A2, ?_, hz.1, hz.2⟩
    unfold zAP at hs tm hlen ⊢
    have rmod : 0 < A 186 0 → -2147483648 ≤ zS1 (zSel (zAll (A 186 0)) (zWP (A 186) k) 0 (A 186 0).toNat) % A 186 0 ∧ zS1 (zSel (zAll (A 186 0)) (zWP (A 186) k) 0 (A 186 0).toNat) % A 186 0 < 2147483648 := fun hp => by
      have := Int.emod_nonneg (zS1 (zSel (zAll (A 186 0)) (zWP (A 186) k) 0 (A 186 0).toNat)) (show A 186 0 ≠ 0 by omega)
      have := Int.emod_lt_of_pos (zS1 (zSel (zAll (A 186 0)) (zWP (A 186) k) 0 (A 186 0).toNat)) hp
      omega
    generalize zS1 (zSel (zAll (A 186 0)) (zWP (A 186) k) 0 (A 186 0).toNat) = S at *
    by_cases hp : 0 < A 186 0
    · have rm := rmod hp
      by_cases hc : S % A 186 0 = 0
      · rw [if_neg (fun q => q.2 hc)]
        simp (disch := first | assumption | omega | exact zr_and | exact zr_or | exact zr_xor | exact zr_shl | exact zr_shr | exact zr_ushr | exact zr_byte | exact isHall3 | exact isLaw12) only [i314_0, i314_10, i314_14, i314_17, i314_19, i314_24, i314_28, i314_31, i314_36, i314_40, i314_44, i314_48, i314_52, i314_53, n1, c_thr0, s1, i233_0, e20, ca, cs, tm, mB1_i, mB0_i, mB1n_i, mB0n_i, mB1_x, mB0_x, ↓if_pos, ↓if_neg, if_true, if_false, if_pos, if_neg]
      · rw [if_pos ⟨hp, hc⟩]
        simp (disch := first | assumption | omega | exact zr_and | exact zr_or | exact zr_xor | exact zr_shl | exact zr_shr | exact zr_ushr | exact zr_byte | exact isHall3 | exact isLaw12) only [i314_0, i314_10, i314_14, i314_17, i314_19, i314_24, i314_28, i314_31, i314_36, i314_40, i314_44, i314_48, i314_52, i314_53, n1, c_thr0, s1, i233_0, e20, ca, cs, tm, mB1_i, mB0_i, mB1n_i, mB0n_i, mB1_x, mB0_x, ↓if_pos, ↓if_neg, if_true, if_false, if_pos, if_neg]
    · rw [if_neg (fun q => hp q.1)]
      simp (disch := first | assumption | omega | exact zr_and | exact zr_or | exact zr_xor | exact zr_shl | exact zr_shr | exact zr_ushr | exact zr_byte | exact isHall3 | exact isLaw12) only [i314_0, i314_10, i314_14, i314_17, i314_19, i314_24, i314_28, i314_31, i314_36, i314_40, i314_44, i314_48, i314_52, i314_53, n1, c_thr0, s1, i233_0, e20, mB1_i, mB0_i, mB1n_i, mB0n_i, mB1_x, mB0_x, ↓if_pos, ↓if_neg, if_true, if_false, if_pos, if_neg]
  refine zQ_ok (b := if 0 < A 186 0 ∧ zS1 (zAP (A 186) k) % A 186 0 ≠ 0 then 1 else 0) (A1 := A1) hI ?_ f3 (by split <;> omega) ref
  have rmod : 0 < A 186 0 → -2147483648 ≤ zS1 (zAP (A 186) k) % A 186 0 ∧ zS1 (zAP (A 186) k) % A 186 0 < 2147483648 := fun hp => by
    have := Int.emod_nonneg (zS1 (zAP (A 186) k)) (show A 186 0 ≠ 0 by omega)
    have := Int.emod_lt_of_pos (zS1 (zAP (A 186) k)) hp
    omega
  generalize zS1 (zAP (A 186) k) = S at *
  by_cases hp : 0 < A 186 0
  · have rm := rmod hp
    have tm2 : Int.tmod (A1 173 1) (A1 173 0) = S % A 186 0 := by rw [b1, b0, tm]
    have rm2 : -2147483648 ≤ Int.tmod (A1 173 1) (A1 173 0) ∧ Int.tmod (A1 173 1) (A1 173 0) < 2147483648 := by rw [tm2]; exact rm
    by_cases hc : S % A 186 0 = 0
    · rw [if_neg (fun q => q.2 hc)]
      simp (disch := first | assumption | omega | exact zr_and | exact zr_or | exact zr_xor | exact zr_shl | exact zr_shr | exact zr_ushr | exact zr_byte | exact isHall3 | exact isLaw12) only [i161_0, i161_5, i161_21, i161_24, i161_34, i161_52, i161_56, i161_57, k1, ce, f1, tm2, mB1_i, mB0_i, mB1n_i, mB0n_i, mB1_x, mB0_x, ↓if_pos, ↓if_neg, if_true, if_false, if_pos, if_neg]
    · rw [if_pos ⟨hp, hc⟩]
      simp (disch := first | assumption | omega | exact zr_and | exact zr_or | exact zr_xor | exact zr_shl | exact zr_shr | exact zr_ushr | exact zr_byte | exact isHall3 | exact isLaw12) only [i161_0, i161_5, i161_21, i161_24, i161_34, i161_52, i161_56, i161_57, k1, ce, f1, tm2, mB1_i, mB0_i, mB1n_i, mB0n_i, mB1_x, mB0_x, ↓if_pos, ↓if_neg, if_true, if_false, if_pos, if_neg]
  · rw [if_neg (fun q => hp q.1)]
    simp (disch := first | assumption | omega | exact zr_and | exact zr_or | exact zr_xor | exact zr_shl | exact zr_shr | exact zr_ushr | exact zr_byte | exact isHall3 | exact isLaw12) only [i161_0, i161_5, i161_21, i161_24, i161_34, i161_52, i161_56, i161_57, k1, ce, f1, b0, mB1_i, mB0_i, mB1n_i, mB0n_i, mB1_x, mB0_x, ↓if_pos, ↓if_neg, if_true, if_false, if_pos, if_neg]
theorem q_near {k m : Int} (hI : zInv A) (h_k : -2147483648 ≤ k ∧ k < 2147483648) (hm : m = 0 ∨ m = 1) : zQ ar K O t (d + 12) 163 [.ref 0, .int (zI k), .int (zI m)] 315 [.ref 185, .int (zI k), .int (zI m)] (fun E => if E = 2 then 1 else 0) A := by
  obtain ⟨hw, hr, e0, w0⟩ := zInv_f hI
  have u6 : ∀ v, zU A 185 0 v 186 = A 186 := fun v => zU_r (by decide)
  have M1 : ∀ (B : Nat → Int → Int) (O' : Nat → Int64) (t' : Nat), B 186 = A 186 → mGd ar (d + 11) 257 0 [.int (zI k)] [] (zW K B O' t') = some (.inl (some (.int (zI (if 0 ≤ k ∧ k < 4 then 0 else 1)))), zW K B O' t') := fun B O' t' e => c_noKind (d := (d + 10)) h_k
  by_cases g1 : 0 ≤ k ∧ k < 4
  case neg =>
    have k1 := c_nKindX (d := (d + 11)) (K := K) (O := O) (t := t) (ar := ar) (A := A) (p := k) h_k g1
    refine zQ_ex (E := 2) hI ?_ (by decide) (fun O' t' => ⟨0, zU A 185 0 1, ?_, zU_at, zFm_u⟩)
    · simp (disch := first | assumption | omega | exact zr_and | exact zr_or | exact zr_xor | exact zr_shl | exact zr_shr | exact zr_ushr | exact zr_byte | exact isHall3 | exact isLaw12) only [i163_0, i163_5, i163_21, i163_24, i163_34, i163_36, i163_48, i163_52, i163_56, i163_57, i163_61, k1, mB1_i, mB0_i, mB1n_i, mB0n_i, mB1_x, mB0_x, ↓if_pos, ↓if_neg, if_true, if_false, if_pos, if_neg]
    · have n1 := M1 (zU A 185 0 0) O' t' (u6 0)
      rw [if_neg (by omega)] at n1
      simp (disch := first | assumption | omega | exact zr_and | exact zr_or | exact zr_xor | exact zr_shl | exact zr_shr | exact zr_ushr | exact zr_byte | exact isHall3 | exact isLaw12) only [i315_0, i315_10, i315_14, i315_17, i315_21, i315_24, i315_26, i315_31, i315_36, i315_42, i315_45, i315_49, i315_53, i315_54, i315_58, n1, c_thr0, c_thr1, zU_uu, i233_0, zU_c, mB1_i, mB0_i, mB1n_i, mB0n_i, mB1_x, mB0_x, ↓if_pos, ↓if_neg, if_true, if_false, if_pos, if_neg]
  have k1 := c_nKind (d := (d + 11)) (K := K) (O := O) (t := t) (ar := ar) (A := A) (p := k) g1
  have m1 : ∀ (B : Nat → Int → Int) (O' : Nat → Int64) (t' : Nat), B 186 = A 186 → mGd ar (d + 11) 257 0 [.int (zI k)] [] (zW K B O' t') = some (.inl (some (.int (zI 0))), zW K B O' t') := fun B O' t' e => by have q := M1 B O' t' e; rwa [if_pos (by omega)] at q
  obtain ⟨A1, f1, f2, f3⟩ := c_fillAll (d := d + 10) (K := K) (O := O) (t := t) (ar := ar) hI g1
  have ce := c_everyone (d := d + 11) (K := K) (O := O) (t := t) (ar := ar) (A := A) isHall3 (by rw [e0]; exact w0)
  rw [e0] at ce
  have hlen := zAP_len (h := A 186) (k := k) w0
  have hok := zAP_ok (k := k) hw g1
  have b0 := f2.1
  rw [hlen] at b0
  have e6 := zFc_186 f3
  have u7 : zU A1 185 0 0 186 = A 186 := by rw [zU_r (by decide), e6]
  by_cases hp : A 186 0 = 0
  · refine zQ_ok (b := 0) (A1 := A1) hI ?_ f3 (by decide) (fun O' t' => ⟨zU A1 185 0 0, ?_, zU_at, zFm_u⟩)
    · simp (disch := first | assumption | omega | exact zr_and | exact zr_or | exact zr_xor | exact zr_shl | exact zr_shr | exact zr_ushr | exact zr_byte | exact isHall3 | exact isLaw12) only [i163_0, i163_5, i163_21, i163_24, i163_34, i163_36, i163_48, i163_52, i163_56, i163_57, i163_61, k1, ce, f1, b0, mB1_i, mB0_i, mB1n_i, mB0n_i, mB1_x, mB0_x, ↓if_pos, ↓if_neg, if_true, if_false, if_pos, if_neg]
    · have n1 := m1 (zU A1 185 0 0) O' t' u7
      have e20 : zU A1 185 0 0 186 0 = A 186 0 := by rw [u7]
      simp (disch := first | assumption | omega | exact zr_and | exact zr_or | exact zr_xor | exact zr_shl | exact zr_shr | exact zr_ushr | exact zr_byte | exact isHall3 | exact isLaw12) only [i315_0, i315_10, i315_14, i315_17, i315_21, i315_24, i315_26, i315_31, i315_36, i315_42, i315_45, i315_49, i315_53, i315_54, i315_58, n1, c_thr0, i233_0, e20, mB1_i, mB0_i, mB1n_i, mB0n_i, mB1_x, mB0_x, ↓if_pos, ↓if_neg, if_true, if_false, if_pos, if_neg]
  · have cb := c_by (d := d + 10) (K := K) (O := O) (t := t) (ar := ar) (r := 0) f2 hok (by omega) (by decide)
    have rng := zMid_rng (r := 0) hok (by omega) (by decide)
    have cn := c_near (d := d + 9) (K := K) (O := O) (t := t) (ar := ar) (A := A1) f2 hok (v := zMid 0 (zAP (A 186) k) + m) (e := 0) (by omega) (by decide)
    rw [zNear3 (by decide), zAP_fst, Int.sub_zero, Int.add_zero] at cn
    have hle1 : (zNs (A 186) k).countP (fun x => decide (x < zMid 0 (zAP (A 186) k) + m)) ≤ (zNs (A 186) k).length := List.countP_le_length
    have hle2 : (zNs (A 186) k).countP (fun x => decide (zMid 0 (zAP (A 186) k) + m < x)) ≤ (zNs (A 186) k).length := List.countP_le_length
    have hll : ((zNs (A 186) k).length : Int) = A 186 0 := by rw [← zAP_fst, List.length_map, hlen]
    refine zQ_ok (b := ((zNs (A 186) k).length : Int) - (zNs (A 186) k).countP (fun x => decide (x < zMid 0 (zAP (A 186) k) + m)) - (zNs (A 186) k).countP (fun x => decide (zMid 0 (zAP (A 186) k) + m < x))) (A1 := A1) hI ?_ f3 (by omega) (fun O' t' => ?_)
    · rcases hm with rfl | rfl
      · simp (disch := first | assumption | omega | exact zr_and | exact zr_or | exact zr_xor | exact zr_shl | exact zr_shr | exact zr_ushr | exact zr_byte | exact isHall3 | exact isLaw12) only [i163_0, i163_5, i163_21, i163_24, i163_34, i163_36, i163_48, i163_52, i163_56, i163_57, i163_61, k1, ce, f1, b0, cb, i164_0, i164_6, cn, mB1_i, mB0_i, mB1n_i, mB0n_i, mB1_x, mB0_x, ↓if_pos, ↓if_neg, if_true, if_false, if_pos, if_neg]
      · simp (disch := first | assumption | omega | exact zr_and | exact zr_or | exact zr_xor | exact zr_shl | exact zr_shr | exact zr_ushr | exact zr_byte | exact isHall3 | exact isLaw12) only [i163_0, i163_5, i163_21, i163_24, i163_34, i163_36, i163_48, i163_52, i163_56, i163_57, i163_61, k1, ce, f1, b0, cb, i164_0, i164_6, cn, mB1_i, mB0_i, mB1n_i, mB0n_i, mB1_x, mB0_x, ↓if_pos, ↓if_neg, if_true, if_false, if_pos, if_neg]
    · have n1 := m1 (zU A1 185 0 0) O' t' u7
      have e20 : zU A1 185 0 0 186 0 = A 186 0 := by rw [u7]
      obtain ⟨A2, s1, s2, s3, s4, s5, s6, s7⟩ := c_laidAll (d := d + 9) (K := K) (O := O') (t := t') (ar := ar) (B := zU A1 185 0 0) hw u7 g1
      have ca := c_all (d := d + 10) (K := K) (O := O') (t := t') (ar := ar) (A := A2) (by rw [s3]; exact w0)
      rw [s3] at ca
      have hpos := zAll_pos (n := A 186 0) (by omega)
      have hl := zAll_lt w0
      obtain ⟨A3, p1, p2⟩ := c_middleOf (d := d + 8) (K := K) (O := O') (t := t') (ar := ar) (A := A2) (r := 0) (s := zAll (A 186 0)) s4 (by rw [s3]; omega) (by decide)
      rw [s3, s5] at p1
      have e193 : A3 193 = A2 193 := p2.2 _ (by decide) (by decide)
      have e186 : A3 186 = A 186 := by rw [p2.2 _ (by decide) (by decide), s3]
      have ok3 : zROk A3 := by
        have q := s4
        unfold zROk at q ⊢
        rw [e193, e186]
        rw [s3] at q
        exact q
      have e3s := s6 (zAll (A 186 0))
      have cbl := c_below (d := d + 9) (K := K) (O := O') (t := t') (ar := ar) (A := A3) (s := zAll (A 186 0)) (v := zMid 0 (zAP (A 186) k) + m) ok3 (zAll_lt w0) (by omega)
      have cab := c_above (d := d + 9) (K := K) (O := O') (t := t') (ar := ar) (A := A3) (s := zAll (A 186 0)) (v := zMid 0 (zAP (A 186) k) + m) ok3 (zAll_lt w0) (by omega)
      rw [e193, e186, e3s] at cbl cab
      have cc := c_bits (d := d + 10) (K := K) (O := O') (t := t') (ar := ar) (A := A3) (s := zAll (A 186 0)) (zAll_lt w0)
      have hcnt := zSel_cnt (f := fun p => A 186 (15 + 6 * p + k)) (s := zAll (A 186 0)) (n := A 186 0) ⟨hl.1, Int.le_refl _⟩ w0
      rw [← hcnt] at cc
      have hz := zFm_0 (A := A1) (A' := A3) (zFt_trans s2 (zFt_fr p2))
      refine ⟨A3, ?_, hz.1, hz.2⟩
      have p1' : mGd ar (d + 11) 265 0 [.ref 185, .int (zI 0), .int (zI (zAll (A 186 0)))] [] (zW K A2 O' t') = some (.inl (some (.int (zI (zMid 0 (zAP (A 186) k))))), zW K A3 O' t') := p1
      have cbl' : mGd ar (d + 10) 304 0 [.ref 185, .int (zI (zAll (A 186 0))), .int (zI (zMid 0 (zAP (A 186) k) + m)), .double 0, .double 0] [] (zW K A3 O' t') = some (.inl (some (.int (zI ((zNs (A 186) k).countP (fun x => decide (x < zMid 0 (zAP (A 186) k) + m)) : Int)))), zW K A3 O' t') := cbl
      have cab' : mGd ar (d + 10) 305 0 [.ref 185, .int (zI (zAll (A 186 0))), .int (zI (zMid 0 (zAP (A 186) k) + m)), .double 0, .double 0] [] (zW K A3 O' t') = some (.inl (some (.int (zI ((zNs (A 186) k).countP (fun x => decide (zMid 0 (zAP (A 186) k) + m < x)) : Int)))), zW K A3 O' t') := cab
      rcases hm with rfl | rfl
      · simp (disch := first | assumption | omega | exact zr_and | exact zr_or | exact zr_xor | exact zr_shl | exact zr_shr | exact zr_ushr | exact zr_byte | exact isHall3 | exact isLaw12) only [i315_0, i315_10, i315_14, i315_17, i315_21, i315_24, i315_26, i315_31, i315_36, i315_42, i315_45, i315_49, i315_53, i315_54, i315_58, n1, c_thr0, i233_0, e20, s1, ca, p1', i303_0, i303_4, i303_10, i303_17, cc, cbl', cab', mB1_i, mB0_i, mB1n_i, mB0n_i, mB1_x, mB0_x, ↓if_pos, ↓if_neg, if_true, if_false, if_pos, if_neg]
        rfl
      · simp (disch := first | assumption | omega | exact zr_and | exact zr_or | exact zr_xor | exact zr_shl | exact zr_shr | exact zr_ushr | exact zr_byte | exact isHall3 | exact isLaw12) only [i315_0, i315_10, i315_14, i315_17, i315_21, i315_24, i315_26, i315_31, i315_36, i315_42, i315_45, i315_49, i315_53, i315_54, i315_58, n1, c_thr0, i233_0, e20, s1, ca, p1', i303_0, i303_4, i303_10, i303_17, cc, cbl', cab', mB1_i, mB0_i, mB1n_i, mB0n_i, mB1_x, mB0_x, ↓if_pos, ↓if_neg, if_true, if_false, if_pos, if_neg]
        rfl
end CALLS5
