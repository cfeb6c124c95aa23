/-! CALLS, 2: those that only look at people -/
/-- what the reference may use, and what it has thrown stays -/
def zFt (A A' : Nat → Int → Int) : Prop := zFm A A' ∧ A' 185 0 = A 185 0
theorem zFt_refl {A : Nat → Int → Int} : zFt A A := ⟨⟨fun _ _ => rfl, rfl, fun _ _ => rfl⟩, rfl⟩
theorem zFt_trans {A B C : Nat → Int → Int} (h1 : zFt A B) (h2 : zFt B C) : zFt A C := ⟨zFm_trans h1.1 h2.1, by rw [h2.2, h1.2]⟩
theorem zFt_row {A A' : Nat → Int → Int} (h : ∀ c, c ≠ 193 → A' c = A c) : zFt A A' :=
  ⟨⟨fun c hc => h c (by omega), h _ (by decide), fun j _ => by rw [h _ (by decide)]⟩, by rw [h _ (by decide)]⟩
theorem zFt_fr {A A' : Nat → Int → Int} (h : zFr A A') : zFt A A' :=
  ⟨⟨fun c hc => h.2 c (by omega) (by omega), h.2 _ (by decide) (by decide), fun j hj => h.1 j (by omega)⟩, h.1 _ (by decide)⟩
theorem zFt_mid {A A' : Nat → Int → Int} (h1 : ∀ j, j ≠ 19 → A' 185 j = A 185 j) (h2 : ∀ c, c ≠ 185 → c ≠ 193 → c ≠ 194 → A' c = A c) : zFt A A' :=
  ⟨⟨fun c hc => h2 c (by omega) (by omega) (by omega), h2 _ (by decide) (by decide) (by decide), fun j hj => h1 j (by omega)⟩, h1 _ (by decide)⟩
theorem zFt_val {A A' : Nat → Int → Int} (h : ∀ c, c ≠ 195 → A' c = A c) : zFt A A' :=
  ⟨⟨fun c hc => h c (by omega), h _ (by decide), fun j _ => by rw [h _ (by decide)]⟩, by rw [h _ (by decide)]⟩
/-- behind the first step of a call of the reference -/
theorem zFm_0 {A A' : Nat → Int → Int} (h : zFt (zU A 185 0 0) A') : A' 185 0 = 0 ∧ zFm A A' := ⟨by rw [h.2, zU_at], zFm_trans zFm_u h.1⟩
theorem isHall3 : isHall 3 := by unfold isHall; omega
theorem isLaw12 : isLaw 12 := by unfold isLaw; omega
theorem zFc_bag {A A' : Nat → Int → Int} (h : ∀ c, c ≠ 173 → c ≠ 174 → A' c = A c) : zFc A A' := fun c hc => h c (fun e => hc (by unfold zSc; omega)) (fun e => hc (by unfold zSc; omega))
theorem zFc_law {A A' : Nat → Int → Int} (h : ∀ c, c ≠ 12 + 5 → c ≠ 12 + 6 → A' c = A c) : zFc A A' := fun c hc => h c (fun e => hc (by unfold zSc; omega)) (fun e => hc (by unfold zSc; omega))
theorem zFc_186 {A A' : Nat → Int → Int} (h : zFc A A') : A' 186 = A 186 := h 186 (by unfold zSc; omega)
section CALLS
variable {ar : Nat → Nat × (Nat → Int32)} {d t : Nat} {K : Nat → Nat → Option Nat} {A : Nat → Int → Int} {O : Nat → Int64}
theorem q_man {k : Int} (hI : zInv A) (h_k : -2147483648 ≤ k ∧ k < 2147483648) : zQ ar K O t (d + 12) 111 [.ref 0, .int (zI k)] 261 [.ref 185, .int (zI k)] (fun E => if E = 2 then 1 else 0) A := by
  obtain ⟨hw, hr, e0, w0⟩ := zInv_f hI
  have u6 : ∀ v, zU A 185 0 v 186 = A 186 := fun v => zU_r (by decide)
  have M1 : ∀ (B : Nat → Int → Int) (O' : Nat → Int64) (t' : Nat), B 186 = A 186 → mGd ar (d + 11) 257 0 [.int (zI k)] [] (zW K B O' t') = some (.inl (some (.int (zI (if 0 ≤ k ∧ k < 4 then 0 else 1)))), zW K B O' t') := fun B O' t' e => c_noKind (d := (d + 10)) h_k
  by_cases g1 : 0 ≤ k ∧ k < 4
  case neg =>
    have k1 := c_nKindX (d := (d + 11)) (K := K) (O := O) (t := t) (ar := ar) (A := A) (p := k) h_k g1
    refine zQ_ex (E := 2) hI ?_ (by decide) (fun O' t' => ⟨0, zU A 185 0 1, ?_, zU_at, zFm_u⟩)
    · simp (disch := first | assumption | omega | exact zr_and | exact zr_or | exact zr_xor | exact zr_shl | exact zr_shr | exact zr_ushr | exact zr_byte) only [i111_0, i111_5, k1, mB1_i, mB0_i, mB1n_i, mB0n_i, mB1_x, mB0_x, ↓if_pos, ↓if_neg, if_true, if_false, if_pos, if_neg]
    · have n1 := M1 (zU A 185 0 0) O' t' (u6 0)
      rw [if_neg (by omega)] at n1
      simp (disch := first | assumption | omega | exact zr_and | exact zr_or | exact zr_xor | exact zr_shl | exact zr_shr | exact zr_ushr | exact zr_byte) only [i261_0, i261_10, i261_14, i261_17, i261_21, i261_30, n1, c_thr0, c_thr1, zU_uu, i233_0, zU_c, mB1_i, mB0_i, mB1n_i, mB0n_i, mB1_x, mB0_x, ↓if_pos, ↓if_neg, if_true, if_false, if_pos, if_neg]
  have k1 := c_nKind (d := (d + 11)) (K := K) (O := O) (t := t) (ar := ar) (A := A) (p := k) g1
  have m1 : ∀ (B : Nat → Int → Int) (O' : Nat → Int64) (t' : Nat), B 186 = A 186 → mGd ar (d + 11) 257 0 [.int (zI k)] [] (zW K B O' t') = some (.inl (some (.int (zI 0))), zW K B O' t') := fun B O' t' e => by have q := M1 B O' t' e; rwa [if_pos (by omega)] at q
  have rm := hr.2.2.2.2.2.2.1 k g1.1 g1.2
  have wm := hw.2.2.2.2.2.2.1 k g1.1 g1.2
  refine zQ_ok (b := A 186 (11 + k)) (A1 := A) hI ?_ zFc_refl (by omega) (fun O' t' => ⟨zU A 185 0 0, ?_, zU_at, zFm_u⟩)
  · simp (disch := first | assumption | omega | exact zr_and | exact zr_or | exact zr_xor | exact zr_shl | exact zr_shr | exact zr_ushr | exact zr_byte) only [i111_0, i111_5, k1, rm, mB1_i, mB0_i, mB1n_i, mB0n_i, mB1_x, mB0_x, ↓if_pos, ↓if_neg, if_true, if_false, if_pos, if_neg]
  · have n1 := m1 (zU A 185 0 0) O' t' (u6 0)
    simp (disch := first | assumption | omega | exact zr_and | exact zr_or | exact zr_xor | exact zr_shl | exact zr_shr | exact zr_ushr | exact zr_byte) only [i261_0, i261_10, i261_14, i261_17, i261_21, i261_30, n1, c_thr0, zU_c, mB1_i, mB0_i, mB1n_i, mB0n_i, mB1_x, mB0_x, ↓if_pos, ↓if_neg, if_true, if_false, if_pos, if_neg]
theorem q_middle {k r : Int} (hI : zInv A) (h_k : -2147483648 ≤ k ∧ k < 2147483648) (h_r : -2147483648 ≤ r ∧ r < 2147483648) : zQ ar K O t (d + 12) 113 [.ref 0, .int (zI k), .int (zI r)] 262 [.ref 185, .int (zI k), .int (zI r)] (fun E => if E = 2 then 1 else if E = 4 then 2 else 0) A := by
  obtain ⟨hw, hr, e0, w0⟩ := zInv_f hI
  have u6 : ∀ v, zU A 185 0 v 186 = A 186 := fun v => zU_r (by decide)
  have M1 : ∀ (B : Nat → Int → Int) (O' : Nat → Int64) (t' : Nat), B 186 = A 186 → mGd ar (d + 11) 257 0 [.int (zI k)] [] (zW K B O' t') = some (.inl (some (.int (zI (if 0 ≤ k ∧ k < 4 then 0 else 1)))), zW K B O' t') := fun B O' t' e => c_noKind (d := (d + 10)) h_k
  have M2 : ∀ (B : Nat → Int → Int) (O' : Nat → Int64) (t' : Nat), B 186 = A 186 → mGd ar (d + 11) 256 0 [.int (zI r), .int (zI 0), .int (zI 5)] [] (zW K B O' t') = some (.inl (some (.int (zI (if 0 ≤ r ∧ r ≤ 5 then 1 else 0)))), zW K B O' t') := fun B O' t' e => c_in (d := (d + 11)) h_r (by decide) (by decide)
  by_cases g1 : 0 ≤ k ∧ k < 4
  case neg =>
    have k1 := c_nKindX (d := (d + 11)) (K := K) (O := O) (t := t) (ar := ar) (A := A) (p := k) h_k g1
    refine zQ_ex (E := 2) hI ?_ (by decide) (fun O' t' => ⟨0, zU A 185 0 1, ?_, zU_at, zFm_u⟩)
    · simp (disch := first | assumption | omega | exact zr_and | exact zr_or | exact zr_xor | exact zr_shl | exact zr_shr | exact zr_ushr | exact zr_byte) only [i113_0, i113_5, i113_10, i113_14, i113_27, k1, mB1_i, mB0_i, mB1n_i, mB0n_i, mB1_x, mB0_x, ↓if_pos, ↓if_neg, if_true, if_false, if_pos, if_neg]
    · have n1 := M1 (zU A 185 0 0) O' t' (u6 0)
      rw [if_neg (by omega)] at n1
      simp (disch := first | assumption | omega | exact zr_and | exact zr_or | exact zr_xor | exact zr_shl | exact zr_shr | exact zr_ushr | exact zr_byte) only [i262_0, i262_10, i262_13, i262_19, i262_22, i262_26, i262_27, i262_31, i262_34, i262_39, i262_42, i262_46, i262_47, i262_51, i262_54, i262_56, i262_61, i262_67, i262_70, n1, c_thr0, c_thr1, zU_uu, i233_0, zU_c, mB1_i, mB0_i, mB1n_i, mB0n_i, mB1_x, mB0_x, ↓if_pos, ↓if_neg, if_true, if_false, if_pos, if_neg]
  have k1 := c_nKind (d := (d + 11)) (K := K) (O := O) (t := t) (ar := ar) (A := A) (p := k) g1
  have m1 : ∀ (B : Nat → Int → Int) (O' : Nat → Int64) (t' : Nat), B 186 = A 186 → mGd ar (d + 11) 257 0 [.int (zI k)] [] (zW K B O' t') = some (.inl (some (.int (zI 0))), zW K B O' t') := fun B O' t' e => by have q := M1 B O' t' e; rwa [if_pos (by omega)] at q
  by_cases g2 : 0 ≤ r ∧ r < 6
  case neg =>
    have k2 := c_nRuleX (d := (d + 11)) (K := K) (O := O) (t := t) (ar := ar) (A := A) (p := r) h_r g2
    refine zQ_ex (E := 2) hI ?_ (by decide) (fun O' t' => ⟨0, zU A 185 0 1, ?_, zU_at, zFm_u⟩)
    · simp (disch := first | assumption | omega | exact zr_and | exact zr_or | exact zr_xor | exact zr_shl | exact zr_shr | exact zr_ushr | exact zr_byte) only [i113_0, i113_5, i113_10, i113_14, i113_27, k1, k2, mB1_i, mB0_i, mB1n_i, mB0n_i, mB1_x, mB0_x, ↓if_pos, ↓if_neg, if_true, if_false, if_pos, if_neg]
    · have n1 := M1 (zU A 185 0 0) O' t' (u6 0)
      rw [if_pos (by omega)] at n1
      have n2 := M2 (zU A 185 0 0) O' t' (u6 0)
      rw [if_neg (by omega)] at n2
      simp (disch := first | assumption | omega | exact zr_and | exact zr_or | exact zr_xor | exact zr_shl | exact zr_shr | exact zr_ushr | exact zr_byte) only [i262_0, i262_10, i262_13, i262_19, i262_22, i262_26, i262_27, i262_31, i262_34, i262_39, i262_42, i262_46, i262_47, i262_51, i262_54, i262_56, i262_61, i262_67, i262_70, n1, n2, c_thr0, c_thr1, zU_uu, i233_0, zU_c, mB1_i, mB0_i, mB1n_i, mB0n_i, mB1_x, mB0_x, ↓if_pos, ↓if_neg, if_true, if_false, if_pos, if_neg]
  have k2 := c_nRule (d := (d + 11)) (K := K) (O := O) (t := t) (ar := ar) (A := A) (p := r) g2
  have m2 : ∀ (B : Nat → Int → Int) (O' : Nat → Int64) (t' : Nat), B 186 = A 186 → mGd ar (d + 11) 256 0 [.int (zI r), .int (zI 0), .int (zI 5)] [] (zW K B O' t') = some (.inl (some (.int (zI 1))), zW K B O' t') := fun B O' t' e => by have q := M2 B O' t' e; rwa [if_pos (by omega)] at q
  by_cases g3 : 0 < A 186 0
  case neg =>
    have k3 := c_nPeopleX (d := (d + 11)) (K := K) (O := O) (t := t) (ar := ar) (A := A) (by omega)
    refine zQ_ex (E := 4) hI ?_ (by decide) (fun O' t' => ⟨0, zU A 185 0 2, ?_, zU_at, zFm_u⟩)
    · simp (disch := first | assumption | omega | exact zr_and | exact zr_or | exact zr_xor | exact zr_shl | exact zr_shr | exact zr_ushr | exact zr_byte) only [i113_0, i113_5, i113_10, i113_14, i113_27, k1, k2, k3, mB1_i, mB0_i, mB1n_i, mB0n_i, mB1_x, mB0_x, ↓if_pos, ↓if_neg, if_true, if_false, if_pos, if_neg]
    · have n1 := M1 (zU A 185 0 0) O' t' (u6 0)
      rw [if_pos (by omega)] at n1
      have n2 := M2 (zU A 185 0 0) O' t' (u6 0)
      rw [if_pos (by omega)] at n2
      simp (disch := first | assumption | omega | exact zr_and | exact zr_or | exact zr_xor | exact zr_shl | exact zr_shr | exact zr_ushr | exact zr_byte) only [i262_0, i262_10, i262_13, i262_19, i262_22, i262_26, i262_27, i262_31, i262_34, i262_39, i262_42, i262_46, i262_47, i262_51, i262_54, i262_56, i262_61, i262_67, i262_70, n1, n2, c_thr0, c_thr1, zU_uu, i233_0, zU_c, mB1_i, mB0_i, mB1n_i, mB0n_i, mB1_x, mB0_x, ↓if_pos, ↓if_neg, if_true, if_false, if_pos, if_neg]
  have k3 := c_nPeople (d := (d + 11)) (K := K) (O := O) (t := t) (ar := ar) (A := A) (by omega) (by omega)
  obtain ⟨A1, f1, f2⟩ := c_midAll (d := d + 9) (K := K) (O := O) (t := t) (ar := ar) (A := A) isHall3 (k := k) (r := r) (zHOk_of_HR hw hr) g1 (by omega) (by omega)
  rw [zHP_sel hr g1, e0] at f1
  have hrng := zMid_rng (r := r) (zWP_ok (s := zAll (A 186 0)) hw g1) (zSel_pos (by omega)) (by omega)
  have hc := zFc_bag f2
  have e6 := zFc_186 hc
  refine zQ_ok (b := zMid r (zSel (zAll (A 186 0)) (zWP (A 186) k) 0 (A 186 0).toNat)) (A1 := A1) hI ?_ hc (by omega) (fun O' t' => ?_)
  · simp (disch := first | assumption | omega | exact zr_and | exact zr_or | exact zr_xor | exact zr_shl | exact zr_shr | exact zr_ushr | exact zr_byte) only [i113_0, i113_5, i113_10, i113_14, i113_27, k1, k2, k3, f1, mB1_i, mB0_i, mB1n_i, mB0n_i, mB1_x, mB0_x, ↓if_pos, ↓if_neg, if_true, if_false, if_pos, if_neg]
  · have u7 : zU A1 185 0 0 186 = A 186 := by rw [zU_r (by decide), e6]
    have n1 := m1 (zU A1 185 0 0) O' t' u7
    have n2 := m2 (zU A1 185 0 0) O' t' u7
    obtain ⟨A2, s1, s2, s3, s4⟩ := c_laid (d := d + 9) (K := K) (O := O') (t := t') (ar := ar) (A := zU A1 185 0 0) (k := k) (by rw [u7]; exact hw) g1
    have v6 : A2 186 = A 186 := by rw [s2 _ (by decide), u7]
    have hl := zAll_lt w0
    have hpos : 0 < zAll (A 186 0) := by
      have h : ∀ k : Fin 9, 0 < k.val → 0 < zAll (k.val : Int) := by decide +kernel
      have := h ⟨(A 186 0).toNat, by omega⟩ (by show 0 < (A 186 0).toNat; omega)
      simpa only [Int.toNat_of_nonneg w0.1] using this
    obtain ⟨A3, p1, p2⟩ := c_middleOf (d := d + 8) (K := K) (O := O') (t := t') (ar := ar) (A := A2) (r := r) (s := zAll (A 186 0)) s3 (by rw [v6]; omega) (by omega)
    rw [s4, u7] at p1
    have ca := c_all (d := d + 10) (K := K) (O := O') (t := t') (ar := ar) (A := A2) (by rw [v6]; exact w0)
    rw [v6] at ca
    have hz := zFm_0 (A := A1) (A' := A3) (zFt_trans (zFt_row s2) (zFt_fr p2))
    refine ⟨A3, ?_, hz.1, hz.2⟩
    simp (disch := first | assumption | omega | exact zr_and | exact zr_or | exact zr_xor | exact zr_shl | exact zr_shr | exact zr_ushr | exact zr_byte) only [i262_0, i262_10, i262_13, i262_19, i262_22, i262_26, i262_27, i262_31, i262_34, i262_39, i262_42, i262_46, i262_47, i262_51, i262_54, i262_56, i262_61, i262_67, i262_70, n1, n2, c_thr0, i233_0, u7, s1, ca, p1, mB1_i, mB0_i, mB1n_i, mB0n_i, mB1_x, mB0_x, ↓if_pos, ↓if_neg, if_true, if_false, if_pos, if_neg]
theorem q_goes {p k : Int} (hI : zInv A) (h_p : -2147483648 ≤ p ∧ p < 2147483648) (h_k : -2147483648 ≤ k ∧ k < 2147483648) : zQ ar K O t (d + 12) 117 [.ref 0, .int (zI p), .int (zI k)] 271 [.ref 185, .int (zI p), .int (zI k)] (fun E => if E = 2 then 1 else 0) A := by
  obtain ⟨hw, hr, e0, w0⟩ := zInv_f hI
  obtain ⟨L, l1, l2, l3⟩ := hI.2.1
  have u6 : ∀ v, zU A 185 0 v 186 = A 186 := fun v => zU_r (by decide)
  have M1 : ∀ (B : Nat → Int → Int) (O' : Nat → Int64) (t' : Nat), B 186 = A 186 → mGd ar (d + 11) 255 0 [.ref 185, .int (zI p)] [] (zW K B O' t') = some (.inl (some (.int (zI (if 0 ≤ p ∧ p < A 186 0 then 0 else 1)))), zW K B O' t') := fun B O' t' e => by rw [← e]; exact c_noPerson (d := (d + 10)) h_p (by rw [e]; exact w0)
  have M2 : ∀ (B : Nat → Int → Int) (O' : Nat → Int64) (t' : Nat), B 186 = A 186 → mGd ar (d + 11) 257 0 [.int (zI k)] [] (zW K B O' t') = some (.inl (some (.int (zI (if 0 ≤ k ∧ k < 4 then 0 else 1)))), zW K B O' t') := fun B O' t' e => c_noKind (d := (d + 10)) h_k
  by_cases g1 : 0 ≤ p ∧ p < A 186 0
  case neg =>
    have k1 := c_nPersonX (d := (d + 11)) (K := K) (O := O) (t := t) (ar := ar) (A := A) (p := p) h_p (by omega) (by omega)
    refine zQ_ex (E := 2) hI ?_ (by decide) (fun O' t' => ⟨0, zU A 185 0 1, ?_, zU_at, zFm_u⟩)
    · simp (disch := first | assumption | omega | exact zr_and | exact zr_or | exact zr_xor | exact zr_shl | exact zr_shr | exact zr_ushr | exact zr_byte) only [i117_0, i117_5, i117_10, i117_23, k1, mB1_i, mB0_i, mB1n_i, mB0n_i, mB1_x, mB0_x, ↓if_pos, ↓if_neg, if_true, if_false, if_pos, if_neg]
    · have n1 := M1 (zU A 185 0 0) O' t' (u6 0)
      rw [if_neg (by omega)] at n1
      simp (disch := first | assumption | omega | exact zr_and | exact zr_or | exact zr_xor | exact zr_shl | exact zr_shr | exact zr_ushr | exact zr_byte) only [i271_0, i271_11, i271_14, i271_18, i271_21, i271_25, i271_26, i271_30, i271_33, i271_35, i271_41, i271_45, i271_51, i271_54, i271_60, n1, c_thr0, c_thr1, zU_uu, i233_0, zU_c, mB1_i, mB0_i, mB1n_i, mB0n_i, mB1_x, mB0_x, ↓if_pos, ↓if_neg, if_true, if_false, if_pos, if_neg]
  have k1 := c_nPerson (d := (d + 11)) (K := K) (O := O) (t := t) (ar := ar) (A := A) (p := p) (by omega) (by omega)
  have m1 : ∀ (B : Nat → Int → Int) (O' : Nat → Int64) (t' : Nat), B 186 = A 186 → mGd ar (d + 11) 255 0 [.ref 185, .int (zI p)] [] (zW K B O' t') = some (.inl (some (.int (zI 0))), zW K B O' t') := fun B O' t' e => by have q := M1 B O' t' e; rwa [if_pos (by omega)] at q
  by_cases g2 : 0 ≤ k ∧ k < 4
  case neg =>
    have k2 := c_nKindX (d := (d + 11)) (K := K) (O := O) (t := t) (ar := ar) (A := A) (p := k) h_k g2
    refine zQ_ex (E := 2) hI ?_ (by decide) (fun O' t' => ⟨0, zU A 185 0 1, ?_, zU_at, zFm_u⟩)
    · simp (disch := first | assumption | omega | exact zr_and | exact zr_or | exact zr_xor | exact zr_shl | exact zr_shr | exact zr_ushr | exact zr_byte) only [i117_0, i117_5, i117_10, i117_23, k1, k2, mB1_i, mB0_i, mB1n_i, mB0n_i, mB1_x, mB0_x, ↓if_pos, ↓if_neg, if_true, if_false, if_pos, if_neg]
    · have n1 := M1 (zU A 185 0 0) O' t' (u6 0)
      rw [if_pos (by omega)] at n1
      have n2 := M2 (zU A 185 0 0) O' t' (u6 0)
      rw [if_neg (by omega)] at n2
      simp (disch := first | assumption | omega | exact zr_and | exact zr_or | exact zr_xor | exact zr_shl | exact zr_shr | exact zr_ushr | exact zr_byte) only [i271_0, i271_11, i271_14, i271_18, i271_21, i271_25, i271_26, i271_30, i271_33, i271_35, i271_41, i271_45, i271_51, i271_54, i271_60, n1, n2, c_thr0, c_thr1, zU_uu, i233_0, zU_c, mB1_i, mB0_i, mB1n_i, mB0n_i, mB1_x, mB0_x, ↓if_pos, ↓if_neg, if_true, if_false, if_pos, if_neg]
  have k2 := c_nKind (d := (d + 11)) (K := K) (O := O) (t := t) (ar := ar) (A := A) (p := k) g2
  have m2 : ∀ (B : Nat → Int → Int) (O' : Nat → Int64) (t' : Nat), B 186 = A 186 → mGd ar (d + 11) 257 0 [.int (zI k)] [] (zW K B O' t') = some (.inl (some (.int (zI 0))), zW K B O' t') := fun B O' t' e => by have q := M2 B O' t' e; rwa [if_pos (by omega)] at q
  have rn := hr.2.2.2.2.2.2.2.1 p k g1.1 g1.2 g2.1 g2.2
  have rm := hr.2.2.2.2.2.2.1 k g2.1 g2.2
  have wn := hw.2.2.2.2.2.2.2.1 p k g1.1 g1.2 g2.1 g2.2
  have wm := hw.2.2.2.2.2.2.1 k g2.1 g2.2
  have w3 := hw.2.2.2.1
  have r7 := hr.2.2.1
  have rs := hr.2.2.2.2.2.2.2.2.2
  have hl := zAll_lt w0
  obtain ⟨A1, f1, f2⟩ := c_goesTo (d := d + 8) (K := K) (O := O) (t := t) (ar := ar) (A := A) isHall3 isLaw12 (p := p) (k := k) (L := L) (by have := rs.1; omega) (by omega) g2 (by rw [rn]; exact wn) (by rw [rm]; exact wm) (by rw [r7]; exact w3) l1
  have hc := zFc_law f2
  have e6 := zFc_186 hc
  have hval : (if zB (A 3 3) p = true then A (3 + 1) (p * 4 + k) else zGoes p k (A (3 + 1) (p * 4 + k)) (A (3 + 4) k) (A 3 7) L) = (if A 186 (15 + 6 * p + 5) = 1 then A 186 (15 + 6 * p + k) else zGoes p k (A 186 (15 + 6 * p + k)) (A 186 (11 + k)) (A 186 3) L) := by
    rw [rn, rm, r7]
    have := rs.2 p g1.1 g1.2
    by_cases hz : zB (A 3 3) p = true
    · rw [if_pos hz, if_pos (this.mp hz)]
    · rw [if_neg hz, if_neg (fun q => hz (this.mpr q))]
  rw [hval] at f1
  have ws := hw.2.2.2.2.2.2.2.2.2 p g1.1 g1.2
  refine zQ_ok (b := if A 186 (15 + 6 * p + 5) = 1 then A 186 (15 + 6 * p + k) else zGoes p k (A 186 (15 + 6 * p + k)) (A 186 (11 + k)) (A 186 3) L) (A1 := A1) hI ?_ hc ?_ (fun O' t' => ?_)
  · simp (disch := first | assumption | omega | exact zr_and | exact zr_or | exact zr_xor | exact zr_shl | exact zr_shr | exact zr_ushr | exact zr_byte) only [i117_0, i117_5, i117_10, i117_23, k1, k2, f1, mB1_i, mB0_i, mB1n_i, mB0n_i, mB1_x, mB0_x, ↓if_pos, ↓if_neg, if_true, if_false, if_pos, if_neg]
  · split
    · omega
    · unfold zGoes; omega
  · have u7 : zU A1 185 0 0 186 = A 186 := by rw [zU_r (by decide), e6]
    have n1 := m1 (zU A1 185 0 0) O' t' u7
    have n2 := m2 (zU A1 185 0 0) O' t' u7
    have ho5 := c_of (d := d + 10) (K := K) (O := O') (t := t') (ar := ar) (A := zU A1 185 0 0) (p := p) (k := 5) (by omega) (by omega)
    rw [u7] at ho5
    by_cases h5 : A 186 (15 + 6 * p + 5) = 1
    · have ho := c_of (d := d + 10) (K := K) (O := O') (t := t') (ar := ar) (A := zU A1 185 0 0) (p := p) (k := k) (by omega) (by omega)
      rw [u7] at ho
      rw [h5] at ho5
      refine ⟨zU A1 185 0 0, ?_, zU_at, zFm_u⟩
      rw [if_pos h5]
      simp (disch := first | assumption | omega | exact zr_and | exact zr_or | exact zr_xor | exact zr_shl | exact zr_shr | exact zr_ushr | exact zr_byte) only [i271_0, i271_11, i271_14, i271_18, i271_21, i271_25, i271_26, i271_30, i271_33, i271_35, i271_41, i271_45, i271_51, i271_54, i271_60, n1, n2, c_thr0, ho5, ho, mB1_i, mB0_i, mB1n_i, mB0n_i, mB1_x, mB0_x, ↓if_pos, ↓if_neg, if_true, if_false, if_pos, if_neg]
    · obtain ⟨A2, s1, s2⟩ := c_rgoesTo (d := d + 6) (K := K) (O := O') (t := t') (ar := ar) (A := zU A1 185 0 0) (p := p) (k := k) (L := L) (by omega) g2 (by rw [u7]; exact wn) (by rw [u7]; exact wm) (by rw [u7]; exact w3) (by rw [u7]; exact l2)
      rw [u7] at s1
      have hz := zFm_0 (A := A1) (A' := A2) (zFt_val s2)
      refine ⟨A2, ?_, hz.1, hz.2⟩
      rw [if_neg h5]
      simp (disch := first | assumption | omega | exact zr_and | exact zr_or | exact zr_xor | exact zr_shl | exact zr_shr | exact zr_ushr | exact zr_byte) only [i271_0, i271_11, i271_14, i271_18, i271_21, i271_25, i271_26, i271_30, i271_33, i271_35, i271_41, i271_45, i271_51, i271_54, i271_60, n1, n2, c_thr0, ho5, s1, mB1_i, mB0_i, mB1n_i, mB0n_i, mB1_x, mB0_x, ↓if_pos, ↓if_neg, if_true, if_false, if_pos, if_neg]
/-- how far a person is from the man in all kinds -/
def zAp1 (h : Int → Int) (p k : Int) : Int := zAbs (h (15 + 6 * p + k) - h (11 + k))
def zApart (h : Int → Int) (p : Int) : Int := zSm (zAp1 h p) 0 4
theorem zAp1_rng {h : Int → Int} (hw : zHW0 h) {p k : Int} (hp : 0 ≤ p ∧ p < h 0) (hk : 0 ≤ k ∧ k < 4) : 0 ≤ zAp1 h p k ∧ zAp1 h p k ≤ 99 := by
  have wn := hw.2.2.2.2.2.2.2.1 p k hp.1 hp.2 hk.1 hk.2
  have wm := hw.2.2.2.2.2.2.1 k hk.1 hk.2
  unfold zAp1 zAbs
  split <;> omega
theorem zApart_rng {h : Int → Int} (hw : zHW0 h) {p : Int} (hp : 0 ≤ p ∧ p < h 0) : 0 ≤ zApart h p ∧ zApart h p ≤ 396 := by
  have := zSm_rng (f := zAp1 h p) (c := 99) (m := 4) (p := 0) (fun i h1 h2 => zAp1_rng hw hp ⟨h1, by omega⟩)
  unfold zApart
  omega
theorem c_fromMan {a : Nat} (ha : isHall a) {h : Int → Int} (hw : zHW0 h) (hr : zHR0 A a h) {p : Int} (hp : 0 ≤ p ∧ p < h 0) : mGd ar (d + 1) 48 0 [.ref a, .int (zI p), .double 0, .double 0] [] (zW K A O t) = some (.inl (some (.int (zI (zApart h p)))), zW K A O t) := by
  have w0 := hw.1
  have lp : ∀ (m : Nat) (k acc : Int), k + m = 4 → 0 ≤ k → mGd ar (d + 1) 48 4 [.ref a, .int (zI p), .int (zI acc), .int (zI k)] [] (zW K A O t) = some (.inl (some (.int (zI (acc + zSm (zAp1 h p) k m)))), zW K A O t) := by
    intro m
    induction m with
    | zero =>
      intro k acc hk k0
      rw [show acc + zSm (zAp1 h p) k 0 = acc from Int.add_zero _]
      simp (disch := first | assumption | omega | exact zr_and | exact zr_or | exact zr_xor | exact zr_shl | exact zr_shr | exact zr_ushr | exact zr_byte) only [i48_4, i48_9, i48_16, i48_26, i48_34, mB1_i, mB0_i, mB1n_i, mB0n_i, mB1_x, mB0_x, ↓if_pos, ↓if_neg, if_true, if_false, if_pos, if_neg]
    | succ m ih =>
      intro k acc hk k0
      have rn := hr.2.2.2.2.2.2.2.1 p k hp.1 hp.2 k0 (by omega)
      have rm := hr.2.2.2.2.2.2.1 k k0 (by omega)
      have wn := hw.2.2.2.2.2.2.2.1 p k hp.1 hp.2 k0 (by omega)
      have wm := hw.2.2.2.2.2.2.1 k k0 (by omega)
      have ca := c_abs (d := d) (K := K) (O := O) (t := t) (ar := ar) (A := A) (x := h (15 + 6 * p + k) - h (11 + k)) (by omega)
      rw [show acc + zSm (zAp1 h p) k (m + 1) = acc + zAp1 h p k + zSm (zAp1 h p) (k + 1) m from (Int.add_assoc _ _ _).symm, ← ih (k + 1) _ (by omega) (by omega), i48_4 ha (by omega)]
      unfold zAp1
      simp (disch := first | assumption | omega | exact zr_and | exact zr_or | exact zr_xor | exact zr_shl | exact zr_shr | exact zr_ushr | exact zr_byte) only [i48_9, i48_16, i48_26, i48_34, i27_0, rn, rm, ca, mB1_i, mB0_i, mB1n_i, mB0n_i, mB1_x, mB0_x, ↓if_pos, ↓if_neg, if_true, if_false, if_pos, if_neg]
  rw [i48_0 ha, lp 4 0 0 (by omega) (by omega), Int.zero_add]
  rfl
theorem c_apartOf (hw : zHW0 (A 186)) {p : Int} (hp : 0 ≤ p ∧ p < A 186 0) : mGd ar (d + 2) 260 0 [.ref 185, .int (zI p), .double 0, .double 0] [] (zW K A O t) = some (.inl (some (.int (zI (zApart (A 186) p)))), zW K A O t) := by
  have w0 := hw.1
  have lp : ∀ (m : Nat) (k acc : Int), k + m = 4 → 0 ≤ k → mGd ar (d + 2) 260 4 [.ref 185, .int (zI p), .int (zI acc), .int (zI k)] [] (zW K A O t) = some (.inl (some (.int (zI (acc + zSm (zAp1 (A 186) p) k m)))), zW K A O t) := by
    intro m
    induction m with
    | zero =>
      intro k acc hk k0
      rw [show acc + zSm (zAp1 (A 186) p) k 0 = acc from Int.add_zero _]
      simp (disch := first | assumption | omega | exact zr_and | exact zr_or | exact zr_xor | exact zr_shl | exact zr_shr | exact zr_ushr | exact zr_byte) only [i260_4, i260_9, i260_16, i260_29, i260_37, mB1_i, mB0_i, mB1n_i, mB0n_i, mB1_x, mB0_x, ↓if_pos, ↓if_neg, if_true, if_false, if_pos, if_neg]
    | succ m ih =>
      intro k acc hk k0
      have wn := hw.2.2.2.2.2.2.2.1 p k hp.1 hp.2 k0 (by omega)
      have wm := hw.2.2.2.2.2.2.1 k k0 (by omega)
      have ho := c_of (d := d) (K := K) (O := O) (t := t) (ar := ar) (A := A) (p := p) (k := k) (by omega) (by omega)
      have ca := c_abs (d := d + 1) (K := K) (O := O) (t := t) (ar := ar) (A := A) (x := A 186 (15 + 6 * p + k) - A 186 (11 + k)) (by omega)
      rw [show acc + zSm (zAp1 (A 186) p) k (m + 1) = acc + zAp1 (A 186) p k + zSm (zAp1 (A 186) p) (k + 1) m from (Int.add_assoc _ _ _).symm, ← ih (k + 1) _ (by omega) (by omega), i260_4 (by omega)]
      unfold zAp1
      simp (disch := first | assumption | omega | exact zr_and | exact zr_or | exact zr_xor | exact zr_shl | exact zr_shr | exact zr_ushr | exact zr_byte) only [i260_9, i260_16, i260_29, i260_37, ho, ca, mB1_i, mB0_i, mB1n_i, mB0n_i, mB1_x, mB0_x, ↓if_pos, ↓if_neg, if_true, if_false, if_pos, if_neg]
  rw [i260_0, lp 4 0 0 (by omega) (by omega), Int.zero_add]
  rfl
theorem q_person {p w : Int} (hI : zInv A) (h_p : -2147483648 ≤ p ∧ p < 2147483648) (h_w : -2147483648 ≤ w ∧ w < 2147483648) : zQ ar K O t (d + 12) 109 [.ref 0, .int (zI p), .int (zI w)] 259 [.ref 185, .int (zI p), .int (zI w)] (fun E => if E = 2 then 1 else if E = 3 then 2 else 0) A := by
  obtain ⟨hw, hr, e0, w0⟩ := zInv_f hI
  have u6 : ∀ v, zU A 185 0 v 186 = A 186 := fun v => zU_r (by decide)
  have M1 : ∀ (B : Nat → Int → Int) (O' : Nat → Int64) (t' : Nat), B 186 = A 186 → mGd ar (d + 11) 255 0 [.ref 185, .int (zI p)] [] (zW K B O' t') = some (.inl (some (.int (zI (if 0 ≤ p ∧ p < A 186 0 then 0 else 1)))), zW K B O' t') := fun B O' t' e => by rw [← e]; exact c_noPerson (d := (d + 10)) h_p (by rw [e]; exact w0)
  by_cases g1 : 0 ≤ p ∧ p < A 186 0
  case neg =>
    have k1 := c_nPersonX (d := (d + 11)) (K := K) (O := O) (t := t) (ar := ar) (A := A) (p := p) h_p (by omega) (by omega)
    refine zQ_ex (E := 2) hI ?_ (by decide) (fun O' t' => ⟨0, zU A 185 0 1, ?_, zU_at, zFm_u⟩)
    · simp (disch := first | assumption | omega | exact zr_and | exact zr_or | exact zr_xor | exact zr_shl | exact zr_shr | exact zr_ushr | exact zr_byte) only [i109_0, i109_5, i109_32, i109_42, i109_50, i109_53, i109_57, i109_58, i109_59, i109_67, i109_68, k1, mB1_i, mB0_i, mB1n_i, mB0n_i, mB1_x, mB0_x, ↓if_pos, ↓if_neg, if_true, if_false, if_pos, if_neg]
    · have n1 := M1 (zU A 185 0 0) O' t' (u6 0)
      rw [if_neg (by omega)] at n1
      simp (disch := first | assumption | omega | exact zr_and | exact zr_or | exact zr_xor | exact zr_shl | exact zr_shr | exact zr_ushr | exact zr_byte) only [i259_0, i259_11, i259_15, i259_18, i259_25, i259_28, i259_32, i259_33, i259_37, i259_40, i259_42, i259_47, i259_52, i259_55, i259_61, i259_65, i259_66, i259_69, n1, c_thr0, c_thr1, zU_uu, i233_0, zU_c, mB1_i, mB0_i, mB1n_i, mB0n_i, mB1_x, mB0_x, ↓if_pos, ↓if_neg, if_true, if_false, if_pos, if_neg]
  have k1 := c_nPerson (d := (d + 11)) (K := K) (O := O) (t := t) (ar := ar) (A := A) (p := p) (by omega) (by omega)
  have m1 : ∀ (B : Nat → Int → Int) (O' : Nat → Int64) (t' : Nat), B 186 = A 186 → mGd ar (d + 11) 255 0 [.ref 185, .int (zI p)] [] (zW K B O' t') = some (.inl (some (.int (zI 0))), zW K B O' t') := fun B O' t' e => by have q := M1 B O' t' e; rwa [if_pos (by omega)] at q
  have n2 : ∀ (B : Nat → Int → Int) (O' : Nat → Int64) (t' : Nat), mGd ar (d + 11) 256 0 [.int (zI w), .int (zI 0), .int (zI 2)] [] (zW K B O' t') = some (.inl (some (.int (zI (if 0 ≤ w ∧ w ≤ 2 then 1 else 0)))), zW K B O' t') := fun B O' t' => c_in h_w (by decide) (by decide)
  have rs := hr.2.2.2.2.2.2.2.2.2
  have hl := zAll_lt w0
  by_cases h0 : w = 0
  · have rw0 := hr.2.2.2.2.2.2.2.2.1 p g1.1 g1.2
    have ww := hw.2.2.2.2.2.2.2.2.1 p g1.1 g1.2
    refine zQ_ok (b := A 186 (15 + 6 * p + 4)) (A1 := A) hI ?_ zFc_refl (by omega) (fun O' t' => ⟨zU A 185 0 0, ?_, zU_at, zFm_u⟩)
    · simp (disch := first | assumption | omega | exact zr_and | exact zr_or | exact zr_xor | exact zr_shl | exact zr_shr | exact zr_ushr | exact zr_byte) only [i109_0, i109_5, i109_32, i109_42, i109_50, i109_53, i109_57, i109_58, i109_59, i109_67, i109_68, k1, rw0, mB1_i, mB0_i, mB1n_i, mB0n_i, mB1_x, mB0_x, ↓if_pos, ↓if_neg, if_true, if_false, if_pos, if_neg]
    · have n1 := m1 (zU A 185 0 0) O' t' (u6 0)
      have n3 := n2 (zU A 185 0 0) O' t'
      rw [if_pos (by omega)] at n3
      have ho := c_of (d := d + 10) (K := K) (O := O') (t := t') (ar := ar) (A := zU A 185 0 0) (p := p) (k := 4) (by omega) (by omega)
      rw [u6] at ho
      simp (disch := first | assumption | omega | exact zr_and | exact zr_or | exact zr_xor | exact zr_shl | exact zr_shr | exact zr_ushr | exact zr_byte) only [i259_0, i259_11, i259_15, i259_18, i259_25, i259_28, i259_32, i259_33, i259_37, i259_40, i259_42, i259_47, i259_52, i259_55, i259_61, i259_65, i259_66, i259_69, n1, n3, c_thr0, ho, mB1_i, mB0_i, mB1n_i, mB0n_i, mB1_x, mB0_x, ↓if_pos, ↓if_neg, if_true, if_false, if_pos, if_neg]
  by_cases h1 : w = 1
  · have ws := hw.2.2.2.2.2.2.2.2.2 p g1.1 g1.2
    have cs := c_stub (d := d + 11) (K := K) (O := O) (t := t) (ar := ar) (A := A) isHall3 (p := p) (by have := rs.1; omega) (by omega)
    have hv : (if zB (A 3 3) p = true then 1 else 0) = A 186 (15 + 6 * p + 5) := by
      have := rs.2 p g1.1 g1.2
      by_cases hz : zB (A 3 3) p = true
      · rw [if_pos hz, this.mp hz]
      · rw [if_neg hz]
        have : ¬ A 186 (15 + 6 * p + 5) = 1 := fun q => hz (this.mpr q)
        omega
    rw [hv] at cs
    refine zQ_ok (b := A 186 (15 + 6 * p + 5)) (A1 := A) hI ?_ zFc_refl (by omega) (fun O' t' => ⟨zU A 185 0 0, ?_, zU_at, zFm_u⟩)
    · rcases ws with ws | ws
      · rw [ws] at cs ⊢
        simp (disch := first | assumption | omega | exact zr_and | exact zr_or | exact zr_xor | exact zr_shl | exact zr_shr | exact zr_ushr | exact zr_byte) only [i109_0, i109_5, i109_32, i109_42, i109_50, i109_53, i109_57, i109_58, i109_59, i109_67, i109_68, k1, cs, mB1_i, mB0_i, mB1n_i, mB0n_i, mB1_x, mB0_x, ↓if_pos, ↓if_neg, if_true, if_false, if_pos, if_neg]
      · rw [ws] at cs ⊢
        simp (disch := first | assumption | omega | exact zr_and | exact zr_or | exact zr_xor | exact zr_shl | exact zr_shr | exact zr_ushr | exact zr_byte) only [i109_0, i109_5, i109_32, i109_42, i109_50, i109_53, i109_57, i109_58, i109_59, i109_67, i109_68, k1, cs, mB1_i, mB0_i, mB1n_i, mB0n_i, mB1_x, mB0_x, ↓if_pos, ↓if_neg, if_true, if_false, if_pos, if_neg]
    · have n1 := m1 (zU A 185 0 0) O' t' (u6 0)
      have n3 := n2 (zU A 185 0 0) O' t'
      rw [if_pos (by omega)] at n3
      have ho := c_of (d := d + 10) (K := K) (O := O') (t := t') (ar := ar) (A := zU A 185 0 0) (p := p) (k := 5) (by omega) (by omega)
      rw [u6] at ho
      simp (disch := first | assumption | omega | exact zr_and | exact zr_or | exact zr_xor | exact zr_shl | exact zr_shr | exact zr_ushr | exact zr_byte) only [i259_0, i259_11, i259_15, i259_18, i259_25, i259_28, i259_32, i259_33, i259_37, i259_40, i259_42, i259_47, i259_52, i259_55, i259_61, i259_65, i259_66, i259_69, n1, n3, c_thr0, ho, mB1_i, mB0_i, mB1n_i, mB0n_i, mB1_x, mB0_x, ↓if_pos, ↓if_neg, if_true, if_false, if_pos, if_neg]
  by_cases h2 : w = 2
  · have ca := c_fromMan (d := d + 10) (K := K) (O := O) (t := t) (ar := ar) isHall3 hw hr g1
    have ra := zApart_rng hw g1
    refine zQ_ok (b := zApart (A 186) p) (A1 := A) hI ?_ zFc_refl (by omega) (fun O' t' => ⟨zU A 185 0 0, ?_, zU_at, zFm_u⟩)
    · simp (disch := first | assumption | omega | exact zr_and | exact zr_or | exact zr_xor | exact zr_shl | exact zr_shr | exact zr_ushr | exact zr_byte) only [i109_0, i109_5, i109_32, i109_42, i109_50, i109_53, i109_57, i109_58, i109_59, i109_67, i109_68, k1, ca, mB1_i, mB0_i, mB1n_i, mB0n_i, mB1_x, mB0_x, ↓if_pos, ↓if_neg, if_true, if_false, if_pos, if_neg]
    · have n1 := m1 (zU A 185 0 0) O' t' (u6 0)
      have n3 := n2 (zU A 185 0 0) O' t'
      rw [if_pos (by omega)] at n3
      have ho := c_apartOf (d := d + 9) (K := K) (O := O') (t := t') (ar := ar) (A := zU A 185 0 0) (p := p) (by rw [u6]; exact hw) (by rw [u6]; exact g1)
      rw [u6] at ho
      simp (disch := first | assumption | omega | exact zr_and | exact zr_or | exact zr_xor | exact zr_shl | exact zr_shr | exact zr_ushr | exact zr_byte) only [i259_0, i259_11, i259_15, i259_18, i259_25, i259_28, i259_32, i259_33, i259_37, i259_40, i259_42, i259_47, i259_52, i259_55, i259_61, i259_65, i259_66, i259_69, n1, n3, c_thr0, ho, mB1_i, mB0_i, mB1n_i, mB0n_i, mB1_x, mB0_x, ↓if_pos, ↓if_neg, if_true, if_false, if_pos, if_neg]
  · refine zQ_ex (E := 3) hI ?_ (by decide) (fun O' t' => ⟨0, zU A 185 0 2, ?_, zU_at, zFm_u⟩)
    · simp (disch := first | assumption | omega | exact zr_and | exact zr_or | exact zr_xor | exact zr_shl | exact zr_shr | exact zr_ushr | exact zr_byte) only [i109_0, i109_5, i109_32, i109_42, i109_50, i109_53, i109_57, i109_58, i109_59, i109_67, i109_68, k1, mB1_i, mB0_i, mB1n_i, mB0n_i, mB1_x, mB0_x, ↓if_pos, ↓if_neg, if_true, if_false, if_pos, if_neg]
    · have n1 := m1 (zU A 185 0 0) O' t' (u6 0)
      have n3 := n2 (zU A 185 0 0) O' t'
      rw [if_neg (by omega)] at n3
      simp (disch := first | assumption | omega | exact zr_and | exact zr_or | exact zr_xor | exact zr_shl | exact zr_shr | exact zr_ushr | exact zr_byte) only [i259_0, i259_11, i259_15, i259_18, i259_25, i259_28, i259_32, i259_33, i259_37, i259_40, i259_42, i259_47, i259_52, i259_55, i259_61, i259_65, i259_66, i259_69, n1, n3, c_thr0, c_thr1, zU_uu, mB1_i, mB0_i, mB1n_i, mB0n_i, mB1_x, mB0_x, ↓if_pos, ↓if_neg, if_true, if_false, if_pos, if_neg]
end CALLS
