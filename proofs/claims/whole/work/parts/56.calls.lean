/-! CALLS, 4: majority, rank, halves, near, range, rules -/
section CALLS4
variable {ar : Nat → Nat × (Nat → Int32)} {d t : Nat} {K : Nat → Nat → Option Nat} {A : Nat → Int → Int} {O : Nat → Int64}
theorem zCp_pos {f : Int → Bool} {x : Int} {L : List Int} (h : f x = true) : (x :: L).countP f = L.countP f + 1 := List.countP_cons_of_pos h
/-- for or against a number -/
def zMj (h : Int → Int) (k v p : Int) : Int := h (15 + 6 * p + 4) * (if h (15 + 6 * p + k) < v then -1 else if h (15 + 6 * p + k) = v then 0 else 1)
theorem q_majority {k v : Int} (hI : zInv A) (h_k : -2147483648 ≤ k ∧ k < 2147483648) (h_v : -2147483648 ≤ v ∧ v < 2147483648) : zQ ar K O t (d + 12) 197 [.ref 0, .int (zI k), .int (zI v), .double 0, .double 0] 332 [.ref 185, .int (zI k), .int (zI v), .double 0, .double 0] (fun E => if E = 2 then 1 else if E = 0 then 2 else 0) A := by
  obtain ⟨hw, hr, e0, w0⟩ := zInv_f hI
  have u6 : ∀ v, zU A 185 0 v 186 = A 186 := fun v => zU_r (by decide)
  have M1 : ∀ (B : Nat → Int → Int) (O' : Nat → Int64) (t' : Nat), B 186 = A 186 → mGd ar (d + 11) 257 0 [.int (zI k)] [] (zW K B O' t') = some (.inl (some (.int (zI (if 0 ≤ k ∧ k < 4 then 0 else 1)))), zW K B O' t') := fun B O' t' e => c_noKind (d := (d + 10)) h_k
  have M2 : ∀ (B : Nat → Int → Int) (O' : Nat → Int64) (t' : Nat), B 186 = A 186 → mGd ar (d + 11) 277 0 [.int (zI v)] [] (zW K B O' t') = some (.inl (some (.int (zI (if 0 ≤ v ∧ v ≤ 99 then 0 else 1)))), zW K B O' t') := fun B O' t' e => c_noNumber (d := (d + 10)) h_v
  by_cases g1 : 0 ≤ k ∧ k < 4
  case neg =>
    have k1 := c_nKindX (d := (d + 11)) (K := K) (O := O) (t := t) (ar := ar) (A := A) (p := k) h_k g1
    refine zQ_ex (E := 2) hI ?_ (by decide) (fun O' t' => ⟨0, zU A 185 0 1, ?_, zU_at, zFm_u⟩)
    · simp (disch := first | assumption | omega | exact zr_and | exact zr_or | exact zr_xor | exact zr_shl | exact zr_shr | exact zr_ushr | exact zr_byte | exact isHall3 | exact isLaw12) only [i197_0, i197_5, i197_13, i197_18, i197_30, i197_51, i197_55, i197_64, k1, mB1_i, mB0_i, mB1n_i, mB0n_i, mB1_x, mB0_x, ↓if_pos, ↓if_neg, if_true, if_false, if_pos, if_neg]
    · have n1 := M1 (zU A 185 0 0) O' t' (u6 0)
      rw [if_neg (by omega)] at n1
      simp (disch := first | assumption | omega | exact zr_and | exact zr_or | exact zr_xor | exact zr_shl | exact zr_shr | exact zr_ushr | exact zr_byte | exact isHall3 | exact isLaw12) only [i332_0, i332_10, i332_14, i332_17, i332_22, i332_26, i332_29, i332_31, i332_36, i332_42, i332_45, i332_53, i332_58, i332_65, i332_74, n1, c_thr0, c_thr1, zU_uu, i233_0, zU_c, mB1_i, mB0_i, mB1n_i, mB0n_i, mB1_x, mB0_x, ↓if_pos, ↓if_neg, if_true, if_false, if_pos, if_neg]
  have k1 := c_nKind (d := (d + 11)) (K := K) (O := O) (t := t) (ar := ar) (A := A) (p := k) g1
  have m1 : ∀ (B : Nat → Int → Int) (O' : Nat → Int64) (t' : Nat), B 186 = A 186 → mGd ar (d + 11) 257 0 [.int (zI k)] [] (zW K B O' t') = some (.inl (some (.int (zI 0))), zW K B O' t') := fun B O' t' e => by have q := M1 B O' t' e; rwa [if_pos (by omega)] at q
  by_cases g2 : 0 ≤ v ∧ v ≤ 99
  case neg =>
    have k2 := c_nNumberX (d := (d + 11)) (K := K) (O := O) (t := t) (ar := ar) (A := A) (p := v) (x := 0) (y := 99) h_v g2 (by decide)
    refine zQ_ex (E := 0) hI ?_ (by decide) (fun O' t' => ⟨0, zU A 185 0 2, ?_, zU_at, zFm_u⟩)
    · simp (disch := first | assumption | omega | exact zr_and | exact zr_or | exact zr_xor | exact zr_shl | exact zr_shr | exact zr_ushr | exact zr_byte | exact isHall3 | exact isLaw12) only [i197_0, i197_5, i197_13, i197_18, i197_30, i197_51, i197_55, i197_64, k1, k2, mB1_i, mB0_i, mB1n_i, mB0n_i, mB1_x, mB0_x, ↓if_pos, ↓if_neg, if_true, if_false, if_pos, if_neg]
    · have n1 := M1 (zU A 185 0 0) O' t' (u6 0)
      rw [if_pos (by omega)] at n1
      have n2 := M2 (zU A 185 0 0) O' t' (u6 0)
      rw [if_neg (by omega)] at n2
      simp (disch := first | assumption | omega | exact zr_and | exact zr_or | exact zr_xor | exact zr_shl | exact zr_shr | exact zr_ushr | exact zr_byte | exact isHall3 | exact isLaw12) only [i332_0, i332_10, i332_14, i332_17, i332_22, i332_26, i332_29, i332_31, i332_36, i332_42, i332_45, i332_53, i332_58, i332_65, i332_74, n1, n2, c_thr0, c_thr1, zU_uu, i233_0, zU_c, mB1_i, mB0_i, mB1n_i, mB0n_i, mB1_x, mB0_x, ↓if_pos, ↓if_neg, if_true, if_false, if_pos, if_neg]
  have k2 := c_nNumber (d := (d + 11)) (K := K) (O := O) (t := t) (ar := ar) (A := A) (p := v) (x := 0) (y := 99) g2 (by decide)
  have m2 : ∀ (B : Nat → Int → Int) (O' : Nat → Int64) (t' : Nat), B 186 = A 186 → mGd ar (d + 11) 277 0 [.int (zI v)] [] (zW K B O' t') = some (.inl (some (.int (zI 0))), zW K B O' t') := fun B O' t' e => by have q := M2 B O' t' e; rwa [if_pos (by omega)] at q
  have jr : ∀ p, 0 ≤ p → p < A 186 0 → -9 ≤ zMj (A 186) k v p ∧ zMj (A 186) k v p ≤ 9 := fun p p0 p1 => by
    have ww := hw.2.2.2.2.2.2.2.2.1 p p0 p1
    unfold zMj
    split
    · omega
    · split <;> omega
  have l1 : ∀ (m : Nat) (p acc : Int), p + m = A 186 0 → 0 ≤ p → mGd ar (d + 12) 197 18 [.ref 0, .int (zI k), .int (zI v), .int (zI acc), .int (zI p)] [] (zW K A O t) = some (.inl (some (.int (zI (acc + zSm (zMj (A 186) k v) p m)))), zW K A O t) := by
    intro m
    induction m with
    | zero =>
      intro p acc hp p0
      rw [show acc + zSm (zMj (A 186) k v) p 0 = acc from Int.add_zero _]
      simp (disch := first | assumption | omega | exact zr_and | exact zr_or | exact zr_xor | exact zr_shl | exact zr_shr | exact zr_ushr | exact zr_byte | exact isHall3 | exact isLaw12) only [i197_18, i197_64, mB1_i, mB0_i, mB1n_i, mB0n_i, mB1_x, mB0_x, ↓if_pos, ↓if_neg, if_true, if_false, if_pos, if_neg]
    | succ m ih =>
      intro p acc hp p0
      have rn := hr.2.2.2.2.2.2.2.1 p k p0 (by omega) g1.1 g1.2
      have rw' := hr.2.2.2.2.2.2.2.2.1 p p0 (by omega)
      have wn := hw.2.2.2.2.2.2.2.1 p k p0 (by omega) g1.1 g1.2
      have cc := c_compare (d := d + 11) (K := K) (O := O) (t := t) (ar := ar) (A := A) (x := A 186 (15 + 6 * p + k)) (y := v) (by omega) (by omega)
      rw [show acc + zSm (zMj (A 186) k v) p (m + 1) = acc + zMj (A 186) k v p + zSm (zMj (A 186) k v) (p + 1) m from (Int.add_assoc _ _ _).symm, ← ih (p + 1) _ (by omega) (by omega), i197_18 (by omega) (by omega)]
      unfold zMj
      simp (disch := first | assumption | omega | exact zr_and | exact zr_or | exact zr_xor | exact zr_shl | exact zr_shr | exact zr_ushr | exact zr_byte | exact isHall3 | exact isLaw12) only [i197_5, i197_13, i197_30, i197_51, i197_55, i197_64, i27_0, rn, rw', cc, mB1_i, mB0_i, mB1n_i, mB0n_i, mB1_x, mB0_x, ↓if_pos, ↓if_neg, if_true, if_false, if_pos, if_neg]
  have l2 : ∀ (B : Nat → Int → Int) (O' : Nat → Int64) (t' : Nat), B 186 = A 186 → ∀ (m : Nat) (p acc : Int), p + m = A 186 0 → 0 ≤ p → mGd ar (d + 12) 332 36 [.ref 185, .int (zI k), .int (zI v), .int (zI acc), .int (zI p)] [] (zW K B O' t') = some (.inl (some (.int (zI (acc + zSm (zMj (A 186) k v) p m)))), zW K B O' t') := by
    intro B O' t' e m
    have eB0 : B 186 0 = A 186 0 := by rw [e]
    induction m with
    | zero =>
      intro p acc hp p0
      rw [show acc + zSm (zMj (A 186) k v) p 0 = acc from Int.add_zero _]
      simp (disch := first | assumption | omega | exact zr_and | exact zr_or | exact zr_xor | exact zr_shl | exact zr_shr | exact zr_ushr | exact zr_byte | exact isHall3 | exact isLaw12) only [i332_10, i332_14, i332_17, i332_22, i332_26, i332_29, i332_31, i332_36, i332_42, i332_45, i332_53, i332_58, i332_65, i332_74, i233_0, eB0, mB1_i, mB0_i, mB1n_i, mB0n_i, mB1_x, mB0_x, ↓if_pos, ↓if_neg, if_true, if_false, if_pos, if_neg]
    | succ m ih =>
      intro p acc hp p0
      have wn := hw.2.2.2.2.2.2.2.1 p k p0 (by omega) g1.1 g1.2
      have o1 := c_of (d := d + 10) (K := K) (O := O') (t := t') (ar := ar) (A := B) (p := p) (k := k) (by omega) (by omega)
      have o2 := c_of (d := d + 10) (K := K) (O := O') (t := t') (ar := ar) (A := B) (p := p) (k := 4) (by omega) (by omega)
      rw [e] at o1 o2
      have cs := c_signum (d := d + 11) (K := K) (O := O') (t := t') (ar := ar) (A := B) (x := A 186 (15 + 6 * p + k) - v) (by omega)
      have ev : (if A 186 (15 + 6 * p + k) - v < 0 then (-1 : Int) else if A 186 (15 + 6 * p + k) - v = 0 then 0 else 1) = if A 186 (15 + 6 * p + k) < v then -1 else if A 186 (15 + 6 * p + k) = v then 0 else 1 := by
        by_cases q : A 186 (15 + 6 * p + k) < v
        · rw [if_pos q, if_pos (by omega)]
        · rw [if_neg q, if_neg (by omega)]
          by_cases q2 : A 186 (15 + 6 * p + k) = v
          · rw [if_pos q2, if_pos (by omega)]
          · rw [if_neg q2, if_neg (by omega)]
      rw [ev] at cs
      rw [show acc + zSm (zMj (A 186) k v) p (m + 1) = acc + zMj (A 186) k v p + zSm (zMj (A 186) k v) (p + 1) m from (Int.add_assoc _ _ _).symm, ← ih (p + 1) _ (by omega) (by omega), i332_36]
      unfold zMj
      rw [Int.mul_comm (A 186 (15 + 6 * p + 4))]
      simp (disch := first | assumption | omega | exact zr_and | exact zr_or | exact zr_xor | exact zr_shl | exact zr_shr | exact zr_ushr | exact zr_byte | exact isHall3 | exact isLaw12) only [i332_10, i332_14, i332_17, i332_22, i332_26, i332_29, i332_31, i332_42, i332_45, i332_53, i332_58, i332_65, i332_74, i233_0, eB0, o1, o2, cs, mB1_i, mB0_i, mB1n_i, mB0n_i, mB1_x, mB0_x, ↓if_pos, ↓if_neg, if_true, if_false, if_pos, if_neg]
  have hv : -72 ≤ zSm (zMj (A 186) k v) 0 (A 186 0).toNat ∧ zSm (zMj (A 186) k v) 0 (A 186 0).toNat ≤ 72 := by
    have gen : ∀ (m : Nat) (p : Int), 0 ≤ p → p + m ≤ A 186 0 → -9 * (m : Int) ≤ zSm (zMj (A 186) k v) p m ∧ zSm (zMj (A 186) k v) p m ≤ 9 * m := by
      intro m
      induction m with
      | zero => intro p _ _; show -9 * ((0 : Nat) : Int) ≤ 0 ∧ (0 : Int) ≤ 9 * ((0 : Nat) : Int); omega
      | succ m ih =>
        intro p p0 p1
        have a := ih (p + 1) (by omega) (by omega)
        have b := jr p p0 (by omega)
        show -9 * ((m + 1 : Nat) : Int) ≤ zMj (A 186) k v p + zSm (zMj (A 186) k v) (p + 1) m ∧ zMj (A 186) k v p + zSm (zMj (A 186) k v) (p + 1) m ≤ 9 * ((m + 1 : Nat) : Int)
        omega
    have := gen (A 186 0).toNat 0 (by omega) (by omega)
    omega
  refine zQ_ok (b := zSm (zMj (A 186) k v) 0 (A 186 0).toNat) (A1 := A) hI ?_ zFc_refl (by omega) (fun O' t' => ⟨zU A 185 0 0, ?_, zU_at, zFm_u⟩)
  · have := l1 (A 186 0).toNat 0 0 (by omega) (by omega)
    rw [Int.zero_add] at this
    rw [← this]
    simp (disch := first | assumption | omega | exact zr_and | exact zr_or | exact zr_xor | exact zr_shl | exact zr_shr | exact zr_ushr | exact zr_byte | exact isHall3 | exact isLaw12) only [i197_0, i197_5, i197_13, i197_30, i197_51, i197_55, i197_64, k1, k2, mB1_i, mB0_i, mB1n_i, mB0n_i, mB1_x, mB0_x, ↓if_pos, ↓if_neg, if_true, if_false, if_pos, if_neg]
  · have := l2 (zU A 185 0 0) O' t' (u6 0) (A 186 0).toNat 0 0 (by omega) (by omega)
    rw [Int.zero_add] at this
    rw [← this]
    have n1 := m1 (zU A 185 0 0) O' t' (u6 0)
    have n2 := m2 (zU A 185 0 0) O' t' (u6 0)
    simp (disch := first | assumption | omega | exact zr_and | exact zr_or | exact zr_xor | exact zr_shl | exact zr_shr | exact zr_ushr | exact zr_byte | exact isHall3 | exact isLaw12) only [i332_0, i332_10, i332_14, i332_17, i332_22, i332_26, i332_29, i332_31, i332_42, i332_45, i332_53, i332_58, i332_65, i332_74, n1, n2, c_thr0, mB1_i, mB0_i, mB1n_i, mB0n_i, mB1_x, mB0_x, ↓if_pos, ↓if_neg, if_true, if_false, if_pos, if_neg]
/-! how many of some are less, or more -/
theorem c_below {s v : Int} (hA : zROk A) (hs : 0 ≤ s ∧ s < 256) (hv : -2147483648 ≤ v ∧ v < 2147483648) : mGd ar (d + 1) 304 0 [.ref 185, .int (zI s), .int (zI v), .double 0, .double 0] [] (zW K A O t) = some (.inl (some (.int (zI (((zSel s (A 193) 0 (A 186 0).toNat).countP (fun x => decide (x < v)) : Int))))), zW K A O t) := by
  have w0 := hA.1
  have lp : ∀ (m : Nat) (p acc : Int), p + m = A 186 0 → 0 ≤ p → mGd ar (d + 1) 304 5 [.ref 185, .int (zI s), .int (zI v), .int (zI acc), .int (zI p)] [] (zW K A O t) = some (.inl (some (.int (zI (acc + ((zSel s (A 193) p m).countP (fun x => decide (x < v)) : Int))))), zW K A O t) := by
    intro m
    induction m with
    | zero =>
      intro p acc hp p0
      rw [show acc + ((zSel s (A 193) p 0).countP (fun x => decide (x < v)) : Int) = acc from Int.add_zero _]
      simp (disch := first | assumption | omega | exact zr_and | exact zr_or | exact zr_xor | exact zr_shl | exact zr_shr | exact zr_ushr | exact zr_byte | exact isHall3 | exact isLaw12) only [i304_5, i304_11, i304_14, i304_21, i304_24, i304_35, i304_39, i304_40, i304_48, i233_0, mB1_i, mB0_i, mB1n_i, mB0n_i, mB1_x, mB0_x, ↓if_pos, ↓if_neg, if_true, if_false, if_pos, if_neg]
    | succ m ih =>
      intro p acc hp p0
      have hh := c_has (d := d) (K := K) (O := O) (t := t) (ar := ar) (A := A) hs (show 0 ≤ p ∧ p < 8 by omega)
      have rp := hA.2.1 p p0 (by omega)
      rw [zSel_cons, i304_5]
      by_cases hb : zB s p = true
      · rw [if_pos hb] at hh ⊢
        by_cases hc : A 193 p < v
        · rw [zCp_pos (f := fun x => decide (x < v)) (decide_eq_true hc), show acc + (((zSel s (A 193) (p + 1) m).countP (fun x => decide (x < v)) + 1 : Nat) : Int) = acc + 1 + ((zSel s (A 193) (p + 1) m).countP (fun x => decide (x < v)) : Int) by omega, ← ih (p + 1) _ (by omega) (by omega)]
          simp (disch := first | assumption | omega | exact zr_and | exact zr_or | exact zr_xor | exact zr_shl | exact zr_shr | exact zr_ushr | exact zr_byte | exact isHall3 | exact isLaw12) only [i304_11, i304_14, i304_21, i304_24, i304_35, i304_39, i304_40, i304_48, i233_0, hh, mB1_i, mB0_i, mB1n_i, mB0n_i, mB1_x, mB0_x, ↓if_pos, ↓if_neg, if_true, if_false, if_pos, if_neg]
        · rw [List.countP_cons_of_neg (by simp [hc]), ← ih (p + 1) _ (by omega) (by omega)]
          simp (disch := first | assumption | omega | exact zr_and | exact zr_or | exact zr_xor | exact zr_shl | exact zr_shr | exact zr_ushr | exact zr_byte | exact isHall3 | exact isLaw12) only [i304_11, i304_14, i304_21, i304_24, i304_35, i304_39, i304_40, i304_48, i233_0, hh, Int.add_zero, mB1_i, mB0_i, mB1n_i, mB0n_i, mB1_x, mB0_x, ↓if_pos, ↓if_neg, if_true, if_false, if_pos, if_neg]
      · rw [if_neg hb] at hh ⊢
        rw [← ih (p + 1) _ (by omega) (by omega)]
        simp (disch := first | assumption | omega | exact zr_and | exact zr_or | exact zr_xor | exact zr_shl | exact zr_shr | exact zr_ushr | exact zr_byte | exact isHall3 | exact isLaw12) only [i304_11, i304_14, i304_21, i304_24, i304_35, i304_39, i304_40, i304_48, i233_0, hh, Int.add_zero, mB1_i, mB0_i, mB1n_i, mB0n_i, mB1_x, mB0_x, ↓if_pos, ↓if_neg, if_true, if_false, if_pos, if_neg]
  rw [i304_0, lp (A 186 0).toNat 0 0 (by omega) (by omega), Int.zero_add]
theorem c_above {s v : Int} (hA : zROk A) (hs : 0 ≤ s ∧ s < 256) (hv : -2147483648 ≤ v ∧ v < 2147483648) : mGd ar (d + 1) 305 0 [.ref 185, .int (zI s), .int (zI v), .double 0, .double 0] [] (zW K A O t) = some (.inl (some (.int (zI (((zSel s (A 193) 0 (A 186 0).toNat).countP (fun x => decide (v < x)) : Int))))), zW K A O t) := by
  have w0 := hA.1
  have lp : ∀ (m : Nat) (p acc : Int), p + m = A 186 0 → 0 ≤ p → mGd ar (d + 1) 305 5 [.ref 185, .int (zI s), .int (zI v), .int (zI acc), .int (zI p)] [] (zW K A O t) = some (.inl (some (.int (zI (acc + ((zSel s (A 193) p m).countP (fun x => decide (v < x)) : Int))))), zW K A O t) := by
    intro m
    induction m with
    | zero =>
      intro p acc hp p0
      rw [show acc + ((zSel s (A 193) p 0).countP (fun x => decide (v < x)) : Int) = acc from Int.add_zero _]
      simp (disch := first | assumption | omega | exact zr_and | exact zr_or | exact zr_xor | exact zr_shl | exact zr_shr | exact zr_ushr | exact zr_byte | exact isHall3 | exact isLaw12) only [i305_5, i305_11, i305_14, i305_21, i305_24, i305_35, i305_39, i305_40, i305_48, i233_0, mB1_i, mB0_i, mB1n_i, mB0n_i, mB1_x, mB0_x, ↓if_pos, ↓if_neg, if_true, if_false, if_pos, if_neg]
    | succ m ih =>
      intro p acc hp p0
      have hh := c_has (d := d) (K := K) (O := O) (t := t) (ar := ar) (A := A) hs (show 0 ≤ p ∧ p < 8 by omega)
      have rp := hA.2.1 p p0 (by omega)
      rw [zSel_cons, i305_5]
      by_cases hb : zB s p = true
      · rw [if_pos hb] at hh ⊢
        by_cases hc : v < A 193 p
        · rw [zCp_pos (f := fun x => decide (v < x)) (decide_eq_true hc), show acc + (((zSel s (A 193) (p + 1) m).countP (fun x => decide (v < x)) + 1 : Nat) : Int) = acc + 1 + ((zSel s (A 193) (p + 1) m).countP (fun x => decide (v < x)) : Int) by omega, ← ih (p + 1) _ (by omega) (by omega)]
          simp (disch := first | assumption | omega | exact zr_and | exact zr_or | exact zr_xor | exact zr_shl | exact zr_shr | exact zr_ushr | exact zr_byte | exact isHall3 | exact isLaw12) only [i305_11, i305_14, i305_21, i305_24, i305_35, i305_39, i305_40, i305_48, i233_0, hh, mB1_i, mB0_i, mB1n_i, mB0n_i, mB1_x, mB0_x, ↓if_pos, ↓if_neg, if_true, if_false, if_pos, if_neg]
        · rw [List.countP_cons_of_neg (by simp [hc]), ← ih (p + 1) _ (by omega) (by omega)]
          simp (disch := first | assumption | omega | exact zr_and | exact zr_or | exact zr_xor | exact zr_shl | exact zr_shr | exact zr_ushr | exact zr_byte | exact isHall3 | exact isLaw12) only [i305_11, i305_14, i305_21, i305_24, i305_35, i305_39, i305_40, i305_48, i233_0, hh, Int.add_zero, mB1_i, mB0_i, mB1n_i, mB0n_i, mB1_x, mB0_x, ↓if_pos, ↓if_neg, if_true, if_false, if_pos, if_neg]
      · rw [if_neg hb] at hh ⊢
        rw [← ih (p + 1) _ (by omega) (by omega)]
        simp (disch := first | assumption | omega | exact zr_and | exact zr_or | exact zr_xor | exact zr_shl | exact zr_shr | exact zr_ushr | exact zr_byte | exact isHall3 | exact isLaw12) only [i305_11, i305_14, i305_21, i305_24, i305_35, i305_39, i305_40, i305_48, i233_0, hh, Int.add_zero, mB1_i, mB0_i, mB1n_i, mB0n_i, mB1_x, mB0_x, ↓if_pos, ↓if_neg, if_true, if_false, if_pos, if_neg]
  rw [i305_0, lp (A 186 0).toNat 0 0 (by omega) (by omega), Int.zero_add]
/-- those near a number, those less, those more -/
theorem zNear3 {v e : Int} (he : 0 ≤ e) : ∀ {L : List Int}, (L.countP (fun x => decide (zAbs (x - v) ≤ e)) : Int) = L.length - L.countP (fun x => decide (x < v - e)) - L.countP (fun x => decide (v + e < x))
  | [] => rfl
  | x :: L => by
    have ih := zNear3 (v := v) (e := e) he (L := L)
    rw [List.countP_cons, List.countP_cons, List.countP_cons, List.length_cons]
    by_cases h1 : x < v - e
    · have h2 : ¬ v + e < x := by omega
      have h3 : ¬ zAbs (x - v) ≤ e := by unfold zAbs; split <;> omega
      simp only [h1, h2, h3, decide_true, decide_false, if_true, Bool.false_eq_true, if_false]
      omega
    · by_cases h2 : v + e < x
      · have h3 : ¬ zAbs (x - v) ≤ e := by unfold zAbs; split <;> omega
        simp only [h1, h2, h3, decide_true, decide_false, if_true, Bool.false_eq_true, if_false]
        omega
      · have h3 : zAbs (x - v) ≤ e := by unfold zAbs; split <;> omega
        simp only [h1, h2, h3, decide_true, decide_false, if_true, Bool.false_eq_true, if_false]
        omega
theorem c_near {P : List (Int × Int)} (hb : zBag A P) (hP : zOkP P) {v e : Int} (hv : -1000 ≤ v ∧ v ≤ 1000) (he : 0 ≤ e ∧ e ≤ 1000) : mGd ar (d + 1) 165 0 [.ref 173, .int (zI v), .int (zI e), .double 0, .double 0] [] (zW K A O t) = some (.inl (some (.int (zI (((P.map fun q => q.1).countP (fun x => decide (zAbs (x - v) ≤ e)) : Int))))), zW K A O t) := by
  have h0 := hb.1
  have h8 := hP.1
  have lp : ∀ (m : Nat) (i acc : Int), i + m = P.length → 0 ≤ i → mGd ar (d + 1) 165 5 [.ref 173, .int (zI v), .int (zI e), .int (zI acc), .int (zI i)] [] (zW K A O t) = some (.inl (some (.int (zI (acc + ((zLst (A 174) i m).countP (fun x => decide (zAbs (x - v) ≤ e)) : Int))))), zW K A O t) := by
    intro m
    induction m with
    | zero =>
      intro i acc hi i0
      rw [show acc + ((zLst (A 174) i 0).countP (fun x => decide (zAbs (x - v) ≤ e)) : Int) = acc from Int.add_zero _]
      simp (disch := first | assumption | omega | exact zr_and | exact zr_or | exact zr_xor | exact zr_shl | exact zr_shr | exact zr_ushr | exact zr_byte | exact isHall3 | exact isLaw12) only [i165_5, i165_14, i165_26, i165_30, i165_33, i165_39, mB1_i, mB0_i, mB1n_i, mB0n_i, mB1_x, mB0_x, ↓if_pos, ↓if_neg, if_true, if_false, if_pos, if_neg]
    | succ m ih =>
      intro i acc hi i0
      have ri := zBag_rng hb hP i i0 (by omega)
      have ca := c_abs (d := d) (K := K) (O := O) (t := t) (ar := ar) (A := A) (x := A 174 i - v) (by omega)
      have rab : 0 ≤ zAbs (A 174 i - v) ∧ zAbs (A 174 i - v) ≤ 2000 := by unfold zAbs; split <;> omega
      rw [show zLst (A 174) i (m + 1) = A 174 i :: zLst (A 174) (i + 1) m from rfl, i165_5 (by omega) (by omega)]
      by_cases hc : zAbs (A 174 i - v) ≤ e
      · rw [zCp_pos (f := fun x => decide (zAbs (x - v) ≤ e)) (decide_eq_true hc), show acc + (((zLst (A 174) (i + 1) m).countP (fun x => decide (zAbs (x - v) ≤ e)) + 1 : Nat) : Int) = acc + 1 + ((zLst (A 174) (i + 1) m).countP (fun x => decide (zAbs (x - v) ≤ e)) : Int) by omega, ← ih (i + 1) _ (by omega) (by omega)]
        simp (disch := first | assumption | omega | exact zr_and | exact zr_or | exact zr_xor | exact zr_shl | exact zr_shr | exact zr_ushr | exact zr_byte | exact isHall3 | exact isLaw12) only [i165_14, i165_26, i165_30, i165_33, i165_39, ca, mB1_i, mB0_i, mB1n_i, mB0n_i, mB1_x, mB0_x, ↓if_pos, ↓if_neg, if_true, if_false, if_pos, if_neg]
      · rw [List.countP_cons_of_neg (by simp [hc]), ← ih (i + 1) _ (by omega) (by omega)]
        simp (disch := first | assumption | omega | exact zr_and | exact zr_or | exact zr_xor | exact zr_shl | exact zr_shr | exact zr_ushr | exact zr_byte | exact isHall3 | exact isLaw12) only [i165_14, i165_26, i165_30, i165_33, i165_39, ca, mB1_i, mB0_i, mB1n_i, mB0n_i, mB1_x, mB0_x, ↓if_pos, ↓if_neg, if_true, if_false, if_pos, if_neg]
  rw [i165_0, lp P.length 0 0 (by omega) (by omega), Int.zero_add, hb.2.2.2.2]
  unfold zV
  rw [(zSort_perm (L := P.map fun q => q.1)).countP_eq]
/-- the numbers of all people of a kind -/
def zNs (h : Int → Int) (k : Int) : List Int := zSel (zAll (h 0)) (fun p => h (15 + 6 * p + k)) 0 (h 0).toNat
def zAP (h : Int → Int) (k : Int) : List (Int × Int) := zSel (zAll (h 0)) (zWP h k) 0 (h 0).toNat
theorem zAP_fst {h : Int → Int} {k : Int} : (zAP h k).map (fun q => q.1) = zNs h k := zSel_map
theorem zAP_len {h : Int → Int} {k : Int} (hw : 0 ≤ h 0 ∧ h 0 ≤ 8) : ((zAP h k).length : Int) = h 0 := by
  have h1 := zSel_cnt (f := zWP h k) (s := zAll (h 0)) (n := h 0) ⟨(zAll_lt hw).1, Int.le_refl _⟩ hw
  have h2 : ∀ n : Fin 9, zCnt (zAll (n.val : Int)) = (n.val : Int) := by decide +kernel
  have h3 := h2 ⟨(h 0).toNat, by omega⟩
  simp only [Int.toNat_of_nonneg hw.1] at h3
  rw [← h3, ← h1]
  rfl
theorem zAP_ok {h : Int → Int} {k : Int} (hw : zHW0 h) (hk : 0 ≤ k ∧ k < 4) : zOkP (zAP h k) := zWP_ok hw hk
/-- the class's bag of all people of a kind -/
theorem c_fillAll {k : Int} (hI : zInv A) (hk : 0 ≤ k ∧ k < 4) : ∃ A1, mGd ar (d + 1) 25 0 [.ref 3, .ref 173, .int (zI k), .int (zI ((zAll (A 186 0)))), .double 0] [] (zW K A O t) = some (.inl none, zW K A1 O t) ∧ zBag A1 (zAP (A 186) k) ∧ zFc A A1 := by
  obtain ⟨hw, hr, e0, w0⟩ := zInv_f hI
  obtain ⟨A1, f1, f2, f3⟩ := c_fill (d := d) (K := K) (O := O) (t := t) (ar := ar) (A := A) isHall3 (k := k) (s := zAll (A 186 0)) (zHOk_of_HR hw hr) hk (zAll_lt w0)
  rw [zHP_sel hr hk] at f2
  exact ⟨A1, f1, f2, zFc_bag f3⟩
/-- the reference's row of all people of a kind -/
theorem c_laidAll {B : Nat → Int → Int} {h : Int → Int} {k : Int} (hw : zHW0 h) (e : B 186 = h) (hk : 0 ≤ k ∧ k < 4) : ∃ A', mGd ar (d + 2) 263 0 [.ref 185, .int (zI k), .double 0] [] (zW K B O t) = some (.inl none, zW K A' O t) ∧ zFt B A' ∧ A' 186 = h ∧ zROk A' ∧ (∀ s, zSel s (zRP A') 0 (h 0).toNat = zSel s (zWP h k) 0 (h 0).toNat) ∧ (∀ s, zSel s (A' 193) 0 (h 0).toNat = zSel s (fun p => h (15 + 6 * p + k)) 0 (h 0).toNat) ∧ ∀ i, 0 ≤ i → i < h 0 → A' 193 i = h (15 + 6 * i + k) := by
  subst e
  obtain ⟨A', g1, g2, g3⟩ := c_lays (d := d) (K := K) (O := O) (t := t) (ar := ar) hw.1 hk
  have e : A' 186 = B 186 := g2 _ (by decide)
  refine ⟨A', g1, zFt_row g2, e, ⟨by rw [e]; exact hw.1, fun p p0 p1 => ?_, fun p p0 p1 => ?_⟩, fun s => ?_, fun s => ?_, g3⟩
  · rw [e] at p1; rw [g3 p p0 p1]; exact hw.2.2.2.2.2.2.2.1 p k p0 p1 hk.1 hk.2
  · rw [e] at p1 ⊢; exact hw.2.2.2.2.2.2.2.2.1 p p0 p1
  · refine zSel_congr (fun i h1 h2 => ⟨rfl, fun _ => ?_⟩)
    unfold zRP zWP
    rw [e, g3 i h1 (by omega)]
  · exact zSel_congr (fun i h1 h2 => ⟨rfl, fun _ => g3 i h1 (by omega)⟩)
end CALLS4
