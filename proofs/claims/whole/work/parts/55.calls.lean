/-! CALLS, 3: nearest, hates, twins, majority, rank -/
theorem zSm_right {f : Int → Int} : ∀ {m : Nat} {p : Int}, zSm f p (m + 1) = zSm f p m + f (p + m)
  | 0, p => by show f p + 0 = 0 + f (p + ((0 : Nat) : Int)); simp
  | m + 1, p => by
    have ih := zSm_right (f := f) (m := m) (p := p + 1)
    show f p + zSm f (p + 1) (m + 1) = f p + zSm f (p + 1) m + f (p + ((m + 1 : Nat) : Int))
    rw [ih, show p + 1 + (m : Int) = p + ((m + 1 : Nat) : Int) by omega]
    omega
theorem zSm_add {f g : Int → Int} : ∀ {m : Nat} {p : Int}, zSm (fun i => f i + g i) p m = zSm f p m + zSm g p m
  | 0, _ => rfl
  | m + 1, p => by
    show f p + g p + zSm _ (p + 1) m = f p + zSm f (p + 1) m + (g p + zSm g (p + 1) m)
    rw [zSm_add]; omega
/-- pairs one way or the other -/
theorem zPairs {f : Int → Int → Int} (hs : ∀ p q, f p q = f q p) : ∀ n : Nat, zSm (fun p => zSm (f p) (p + 1) (n - (p.toNat + 1))) 0 n = zSm (fun p => zSm (f p) 0 p.toNat) 0 n
  | 0 => rfl
  | n + 1 => by
    rw [zSm_right, zSm_right, ← zPairs hs n]
    have e1 : zSm (fun p => zSm (f p) (p + 1) (n + 1 - (p.toNat + 1))) 0 n = zSm (fun p => zSm (f p) (p + 1) (n - (p.toNat + 1)) + f p n) 0 n := zSm_congr (fun i h1 h2 => by
      rw [show n + 1 - (i.toNat + 1) = (n - (i.toNat + 1)) + 1 by omega, zSm_right, show i + 1 + ((n - (i.toNat + 1) : Nat) : Int) = n by omega])
    rw [e1, zSm_add]
    have e2 : zSm (f (0 + (n : Int))) 0 ((0 : Int) + (n : Int)).toNat = zSm (fun p => f p n) 0 n := by
      rw [Int.zero_add, Int.toNat_natCast]
      exact zSm_congr (fun i _ _ => hs _ _)
    rw [e2, show n + 1 - ((0 + (n : Int)).toNat + 1) = 0 by omega]
    show _ + 0 = _
    omega
def zNr (h : Int → Int) : Int → Nat → Int → Int
  | _, 0, b => b
  | p, m + 1, b => zNr h (p + 1) m (if b < 0 ∨ zApart h p < zApart h b then p else b)
/-- bits of those for whom it holds -/
def zBf (f : Int → Bool) : Int → Nat → Int → Int
  | _, 0, b => b
  | p, m + 1, b => zBf f (p + 1) m (if f p = true then zOr b (zShl 1 p) else b)
theorem zBf_congr {f g : Int → Bool} : ∀ {m : Nat} {p b : Int}, (∀ i, p ≤ i → i < p + m → f i = g i) → zBf f p m b = zBf g p m b
  | 0, _, _, _ => rfl
  | m + 1, p, b, h => by
    show zBf f (p + 1) m (if f p = true then _ else _) = zBf g (p + 1) m (if g p = true then _ else _)
    rw [h p (by omega) (by omega), zBf_congr (m := m) (p := p + 1) (fun i h1 h2 => h i (by omega) (by omega))]
theorem zBf_rng {f : Int → Bool} : ∀ {m : Nat} {p b : Int}, 0 ≤ p → p + m ≤ 8 → (0 ≤ b ∧ b < 256) → 0 ≤ zBf f p m b ∧ zBf f p m b < 256
  | 0, _, _, _, _, h => h
  | m + 1, p, b, h0, h8, h => by
    show 0 ≤ zBf f (p + 1) m (if f p = true then _ else _) ∧ zBf f (p + 1) m (if f p = true then _ else _) < 256
    refine zBf_rng (by omega) (by omega) ?_
    split
    · exact (zf_more h ⟨h0, by omega⟩).1
    · exact h
theorem zOr_0 {b : Int} (h : 0 ≤ b ∧ b < 2147483648) : zOr b 0 = b := by
  rw [zOr_nat h (by decide)]
  simp
  omega
section CALLS3
variable {ar : Nat → Nat × (Nat → Int32)} {d t : Nat} {K : Nat → Nat → Option Nat} {A : Nat → Int → Int} {O : Nat → Int64}
theorem q_nearest (hI : zInv A) : zQ ar K O t (d + 12) 47 [.ref 0, .double 0, .double 0, .double 0, .double 0] 326 [.ref 185, .double 0, .double 0] (fun _ => 0) A := by
  obtain ⟨hw, hr, e0, w0⟩ := zInv_f hI
  have l1 : ∀ (m : Nat) (p b le : Int) (u : Value), p + m = A 186 0 → 0 ≤ p → (-1 ≤ b ∧ b < p) → (0 ≤ b → le = zApart (A 186) b) → (b < 0 → le = 0) → mGd ar (d + 12) 47 6 [.ref 0, .int (zI b), .int (zI le), .int (zI p), u] [] (zW K A O t) = some (.inl (some (.int (zI (zNr (A 186) p m b)))), zW K A O t) := by
    intro m
    induction m with
    | zero =>
      intro p b le u hp p0 hb h1 h2
      simp (disch := first | assumption | omega | exact zr_and | exact zr_or | exact zr_xor | exact zr_shl | exact zr_shr | exact zr_ushr | exact zr_byte) only [i47_6, i47_17, i47_25, i47_32, i47_38, i47_43, i47_49, mB1_i, mB0_i, mB1n_i, mB0n_i, mB1_x, mB0_x, ↓if_pos, ↓if_neg, if_true, if_false, if_pos, if_neg]
      rfl
    | succ m ih =>
      intro p b le u hp p0 hb h1 h2
      have ca := c_fromMan (d := d + 10) (K := K) (O := O) (t := t) (ar := ar) isHall3 hw hr (p := p) (by omega)
      have ra := zApart_rng hw (p := p) (by omega)
      show _ = some (_, _)
      rw [show zNr (A 186) p (m + 1) b = zNr (A 186) (p + 1) m (if b < 0 ∨ zApart (A 186) p < zApart (A 186) b then p else b) from rfl]
      by_cases hb0 : b < 0
      · rw [if_pos (Or.inl hb0), ← ih (p + 1) p (zApart (A 186) p) (.int (zI (zApart (A 186) p))) (by omega) (by omega) (by omega) (fun _ => rfl) (by omega), i47_6 (by omega) (by omega)]
        have hb1 : b = -1 := by omega
        simp (disch := first | assumption | omega | exact zr_and | exact zr_or | exact zr_xor | exact zr_shl | exact zr_shr | exact zr_ushr | exact zr_byte) only [i47_17, i47_25, i47_32, i47_38, i47_43, i47_49, ca, mB1_i, mB0_i, mB1n_i, mB0n_i, mB1_x, mB0_x, ↓if_pos, ↓if_neg, if_true, if_false, if_pos, if_neg]
      · have hle := h1 (by omega)
        have rb := zApart_rng hw (p := b) (by omega)
        by_cases hc : zApart (A 186) p < zApart (A 186) b
        · rw [if_pos (Or.inr hc), ← ih (p + 1) p (zApart (A 186) p) (.int (zI (zApart (A 186) p))) (by omega) (by omega) (by omega) (fun _ => rfl) (by omega), i47_6 (by omega) (by omega)]
          simp (disch := first | assumption | omega | exact zr_and | exact zr_or | exact zr_xor | exact zr_shl | exact zr_shr | exact zr_ushr | exact zr_byte) only [i47_17, i47_25, i47_32, i47_38, i47_43, i47_49, ca, mB1_i, mB0_i, mB1n_i, mB0n_i, mB1_x, mB0_x, ↓if_pos, ↓if_neg, if_true, if_false, if_pos, if_neg]
        · rw [if_neg (by omega), ← ih (p + 1) b le (.int (zI (zApart (A 186) p))) (by omega) (by omega) (by omega) h1 h2, i47_6 (by omega) (by omega)]
          simp (disch := first | assumption | omega | exact zr_and | exact zr_or | exact zr_xor | exact zr_shl | exact zr_shr | exact zr_ushr | exact zr_byte) only [i47_17, i47_25, i47_32, i47_38, i47_43, i47_49, ca, mB1_i, mB0_i, mB1n_i, mB0n_i, mB1_x, mB0_x, ↓if_pos, ↓if_neg, if_true, if_false, if_pos, if_neg]
  have l2 : ∀ (B : Nat → Int → Int) (O' : Nat → Int64) (t' : Nat), B 186 = A 186 → ∀ (m : Nat) (p b : Int), p + m = A 186 0 → 0 ≤ p → (-1 ≤ b ∧ b < p) → mGd ar (d + 12) 326 9 [.ref 185, .int (zI b), .int (zI p)] [] (zW K B O' t') = some (.inl (some (.int (zI (zNr (A 186) p m b)))), zW K B O' t') := by
    intro B O' t' e m
    have eB0 : B 186 0 = A 186 0 := by rw [e]
    induction m with
    | zero =>
      intro p b hp p0 hb
      simp (disch := first | assumption | omega | exact zr_and | exact zr_or | exact zr_xor | exact zr_shl | exact zr_shr | exact zr_ushr | exact zr_byte) only [i326_9, i326_14, i326_17, i326_21, i326_26, i326_31, i326_34, i326_36, i326_42, i233_0, eB0, mB1_i, mB0_i, mB1n_i, mB0n_i, mB1_x, mB0_x, ↓if_pos, ↓if_neg, if_true, if_false, if_pos, if_neg]
      rfl
    | succ m ih =>
      intro p b hp p0 hb
      have ca := c_apartOf (d := d + 9) (K := K) (O := O') (t := t') (ar := ar) (A := B) (p := p) (by rw [e]; exact hw) (by rw [e]; omega)
      rw [e] at ca
      have ra := zApart_rng hw (p := p) (by omega)
      rw [show zNr (A 186) p (m + 1) b = zNr (A 186) (p + 1) m (if b < 0 ∨ zApart (A 186) p < zApart (A 186) b then p else b) from rfl]
      by_cases hb0 : b < 0
      · rw [if_pos (Or.inl hb0), ← ih (p + 1) p (by omega) (by omega) (by omega), i326_9]
        simp (disch := first | assumption | omega | exact zr_and | exact zr_or | exact zr_xor | exact zr_shl | exact zr_shr | exact zr_ushr | exact zr_byte) only [i326_14, i326_17, i326_21, i326_26, i326_31, i326_34, i326_36, i326_42, i233_0, eB0, ca, mB1_i, mB0_i, mB1n_i, mB0n_i, mB1_x, mB0_x, ↓if_pos, ↓if_neg, if_true, if_false, if_pos, if_neg]
      · have cb := c_apartOf (d := d + 9) (K := K) (O := O') (t := t') (ar := ar) (A := B) (p := b) (by rw [e]; exact hw) (by rw [e]; omega)
        rw [e] at cb
        have rb := zApart_rng hw (p := b) (by omega)
        by_cases hc : zApart (A 186) p < zApart (A 186) b
        · rw [if_pos (Or.inr hc), ← ih (p + 1) p (by omega) (by omega) (by omega), i326_9]
          simp (disch := first | assumption | omega | exact zr_and | exact zr_or | exact zr_xor | exact zr_shl | exact zr_shr | exact zr_ushr | exact zr_byte) only [i326_14, i326_17, i326_21, i326_26, i326_31, i326_34, i326_36, i326_42, i233_0, eB0, ca, cb, mB1_i, mB0_i, mB1n_i, mB0n_i, mB1_x, mB0_x, ↓if_pos, ↓if_neg, if_true, if_false, if_pos, if_neg]
        · rw [if_neg (by omega), ← ih (p + 1) b (by omega) (by omega) (by omega), i326_9]
          simp (disch := first | assumption | omega | exact zr_and | exact zr_or | exact zr_xor | exact zr_shl | exact zr_shr | exact zr_ushr | exact zr_byte) only [i326_14, i326_17, i326_21, i326_26, i326_31, i326_34, i326_36, i326_42, i233_0, eB0, ca, cb, mB1_i, mB0_i, mB1n_i, mB0n_i, mB1_x, mB0_x, ↓if_pos, ↓if_neg, if_true, if_false, if_pos, if_neg]
  have rng : ∀ (m : Nat) (p b : Int), p + m ≤ 8 → (-1 ≤ b ∧ b ≤ 8) → 0 ≤ p → -1 ≤ zNr (A 186) p m b ∧ zNr (A 186) p m b ≤ 8 := by
    intro m
    induction m with
    | zero => intro p b _ h _; exact h
    | succ m ih =>
      intro p b hp hb p0
      exact ih (p + 1) _ (by omega) (by split <;> omega) (by omega)
  have hv := rng (A 186 0).toNat 0 (-1) (by omega) (by omega) (by omega)
  refine zQ_ok (b := zNr (A 186) 0 (A 186 0).toNat (-1)) (A1 := A) hI ?_ zFc_refl (by omega) (fun O' t' => ⟨zU A 185 0 0, ?_, zU_at, zFm_u⟩)
  · rw [i47_0, l1 (A 186 0).toNat 0 (-1) 0 (.double 0) (by omega) (by omega) (by omega) (by omega) (fun _ => rfl)]
  · rw [i326_0, l2 (zU A 185 0 0) O' t' (zU_r (by decide)) (A 186 0).toNat 0 (-1) (by omega) (by omega) (by omega)]
theorem q_hates {n : Int} (hI : zInv A) (h_n : -2147483648 ≤ n ∧ n < 2147483648) : zQ ar K O t (d + 12) 191 [.ref 0, .int (zI n), .double 0, .double 0] 327 [.ref 185, .int (zI n), .double 0, .double 0] (fun E => if E = 0 then 1 else 0) A := by
  obtain ⟨hw, hr, e0, w0⟩ := zInv_f hI
  have u6 : ∀ v, zU A 185 0 v 186 = A 186 := fun v => zU_r (by decide)
  have M1 : ∀ (B : Nat → Int → Int) (O' : Nat → Int64) (t' : Nat), B 186 = A 186 → mGd ar (d + 11) 256 0 [.int (zI n), .int (zI 0), .int (zI 400)] [] (zW K B O' t') = some (.inl (some (.int (zI (if 0 ≤ n ∧ n ≤ 400 then 1 else 0)))), zW K B O' t') := fun B O' t' e => c_in (d := (d + 11)) h_n (by decide) (by decide)
  by_cases g1 : 0 ≤ n ∧ n ≤ 400
  case neg =>
    have k1 := c_nNumberX (d := (d + 11)) (K := K) (O := O) (t := t) (ar := ar) (A := A) (p := n) (x := 0) (y := 400) h_n g1 (by decide)
    refine zQ_ex (E := 0) hI ?_ (by decide) (fun O' t' => ⟨0, zU A 185 0 1, ?_, zU_at, zFm_u⟩)
    · simp (disch := first | assumption | omega | exact zr_and | exact zr_or | exact zr_xor | exact zr_shl | exact zr_shr | exact zr_ushr | exact zr_byte) only [i191_0, i191_9, i191_13, i191_24, i191_32, i191_36, i191_42, i191_48, k1, mB1_i, mB0_i, mB1n_i, mB0n_i, mB1_x, mB0_x, ↓if_pos, ↓if_neg, if_true, if_false, if_pos, if_neg]
    · have n1 := M1 (zU A 185 0 0) O' t' (u6 0)
      rw [if_neg (by omega)] at n1
      simp (disch := first | assumption | omega | exact zr_and | exact zr_or | exact zr_xor | exact zr_shl | exact zr_shr | exact zr_ushr | exact zr_byte) only [i327_0, i327_14, i327_17, i327_21, i327_22, i327_26, i327_29, i327_31, i327_35, i327_40, i327_43, i327_49, i327_53, i327_59, i327_60, i327_68, n1, c_thr0, c_thr1, zU_uu, i233_0, zU_c, mB1_i, mB0_i, mB1n_i, mB0n_i, mB1_x, mB0_x, ↓if_pos, ↓if_neg, if_true, if_false, if_pos, if_neg]
  have k1 := c_nNumber (d := (d + 11)) (K := K) (O := O) (t := t) (ar := ar) (A := A) (p := n) (x := 0) (y := 400) g1 (by decide)
  have m1 : ∀ (B : Nat → Int → Int) (O' : Nat → Int64) (t' : Nat), B 186 = A 186 → mGd ar (d + 11) 256 0 [.int (zI n), .int (zI 0), .int (zI 400)] [] (zW K B O' t') = some (.inl (some (.int (zI 1))), zW K B O' t') := fun B O' t' e => by have q := M1 B O' t' e; rwa [if_pos (by omega)] at q
  have l1 : ∀ (m : Nat) (p b : Int), p + m = A 186 0 → 0 ≤ p → (0 ≤ b ∧ b < 256) → mGd ar (d + 12) 191 13 [.ref 0, .int (zI n), .int (zI b), .int (zI p)] [] (zW K A O t) = some (.inl (some (.int (zI (zBf (fun p => decide (n < zApart (A 186) p)) p m b)))), zW K A O t) := by
    intro m
    induction m with
    | zero =>
      intro p b hp p0 hb
      simp (disch := first | assumption | omega | exact zr_and | exact zr_or | exact zr_xor | exact zr_shl | exact zr_shr | exact zr_ushr | exact zr_byte) only [i191_9, i191_13, i191_24, i191_32, i191_36, i191_42, i191_48, mB1_i, mB0_i, mB1n_i, mB0n_i, mB1_x, mB0_x, ↓if_pos, ↓if_neg, if_true, if_false, if_pos, if_neg]
      rfl
    | succ m ih =>
      intro p b hp p0 hb
      have ca := c_fromMan (d := d + 10) (K := K) (O := O) (t := t) (ar := ar) isHall3 hw hr (p := p) (by omega)
      have ra := zApart_rng hw (p := p) (by omega)
      have rb := (zf_more hb (show 0 ≤ p ∧ p < 8 by omega)).1
      rw [show zBf (fun p => decide (n < zApart (A 186) p)) p (m + 1) b = zBf (fun p => decide (n < zApart (A 186) p)) (p + 1) m (if decide (n < zApart (A 186) p) = true then zOr b (zShl 1 p) else b) from rfl]
      by_cases hc : n < zApart (A 186) p
      · rw [if_pos (decide_eq_true hc), ← ih (p + 1) _ (by omega) (by omega) rb, i191_13 (by omega) (by omega)]
        simp (disch := first | assumption | omega | exact zr_and | exact zr_or | exact zr_xor | exact zr_shl | exact zr_shr | exact zr_ushr | exact zr_byte) only [i191_9, i191_24, i191_32, i191_36, i191_42, i191_48, ca, mB1_i, mB0_i, mB1n_i, mB0n_i, mB1_x, mB0_x, ↓if_pos, ↓if_neg, if_true, if_false, if_pos, if_neg]
      · rw [if_neg (by simp [hc]), ← ih (p + 1) _ (by omega) (by omega) hb, i191_13 (by omega) (by omega)]
        simp (disch := first | assumption | omega | exact zr_and | exact zr_or | exact zr_xor | exact zr_shl | exact zr_shr | exact zr_ushr | exact zr_byte) only [i191_9, i191_24, i191_32, i191_36, i191_42, i191_48, ca, mB1_i, mB0_i, mB1n_i, mB0n_i, mB1_x, mB0_x, ↓if_pos, ↓if_neg, if_true, if_false, if_pos, if_neg]
  have l2 : ∀ (B : Nat → Int → Int) (O' : Nat → Int64) (t' : Nat), B 186 = A 186 → ∀ (m : Nat) (p b : Int), p + m = A 186 0 → 0 ≤ p → (0 ≤ b ∧ b < 256) → mGd ar (d + 12) 327 35 [.ref 185, .int (zI n), .int (zI b), .int (zI p)] [] (zW K B O' t') = some (.inl (some (.int (zI (zBf (fun p => decide (n < zApart (A 186) p)) p m b)))), zW K B O' t') := by
    intro B O' t' e m
    have eB0 : B 186 0 = A 186 0 := by rw [e]
    induction m with
    | zero =>
      intro p b hp p0 hb
      simp (disch := first | assumption | omega | exact zr_and | exact zr_or | exact zr_xor | exact zr_shl | exact zr_shr | exact zr_ushr | exact zr_byte) only [i327_14, i327_17, i327_21, i327_22, i327_26, i327_29, i327_31, i327_35, i327_40, i327_43, i327_49, i327_53, i327_59, i327_60, i327_68, i233_0, eB0, mB1_i, mB0_i, mB1n_i, mB0n_i, mB1_x, mB0_x, ↓if_pos, ↓if_neg, if_true, if_false, if_pos, if_neg]
      rfl
    | succ m ih =>
      intro p b hp p0 hb
      have ca := c_apartOf (d := d + 9) (K := K) (O := O') (t := t') (ar := ar) (A := B) (p := p) (by rw [e]; exact hw) (by rw [e]; omega)
      rw [e] at ca
      have ra := zApart_rng hw (p := p) (by omega)
      have rb := (zf_more hb (show 0 ≤ p ∧ p < 8 by omega)).1
      have o0 := zOr_0 (b := b) (by omega)
      rw [show zBf (fun p => decide (n < zApart (A 186) p)) p (m + 1) b = zBf (fun p => decide (n < zApart (A 186) p)) (p + 1) m (if decide (n < zApart (A 186) p) = true then zOr b (zShl 1 p) else b) from rfl]
      by_cases hc : n < zApart (A 186) p
      · rw [if_pos (decide_eq_true hc), ← ih (p + 1) _ (by omega) (by omega) rb, i327_35]
        simp (disch := first | assumption | omega | exact zr_and | exact zr_or | exact zr_xor | exact zr_shl | exact zr_shr | exact zr_ushr | exact zr_byte) only [i327_14, i327_17, i327_21, i327_22, i327_26, i327_29, i327_31, i327_40, i327_43, i327_49, i327_53, i327_59, i327_60, i327_68, i233_0, eB0, ca, mB1_i, mB0_i, mB1n_i, mB0n_i, mB1_x, mB0_x, ↓if_pos, ↓if_neg, if_true, if_false, if_pos, if_neg]
      · rw [if_neg (by simp [hc]), ← ih (p + 1) _ (by omega) (by omega) hb, i327_35]
        simp (disch := first | assumption | omega | exact zr_and | exact zr_or | exact zr_xor | exact zr_shl | exact zr_shr | exact zr_ushr | exact zr_byte) only [i327_14, i327_17, i327_21, i327_22, i327_26, i327_29, i327_31, i327_40, i327_43, i327_49, i327_53, i327_59, i327_60, i327_68, i233_0, eB0, ca, o0, mB1_i, mB0_i, mB1n_i, mB0n_i, mB1_x, mB0_x, ↓if_pos, ↓if_neg, if_true, if_false, if_pos, if_neg]
  have hv := zBf_rng (f := fun p => decide (n < zApart (A 186) p)) (m := (A 186 0).toNat) (p := 0) (b := 0) (by omega) (by omega) (by decide)
  refine zQ_ok (b := zBf (fun p => decide (n < zApart (A 186) p)) 0 (A 186 0).toNat 0) (A1 := A) hI ?_ zFc_refl (by omega) (fun O' t' => ⟨zU A 185 0 0, ?_, zU_at, zFm_u⟩)
  · rw [← l1 (A 186 0).toNat 0 0 (by omega) (by omega) (by decide)]
    simp (disch := first | assumption | omega | exact zr_and | exact zr_or | exact zr_xor | exact zr_shl | exact zr_shr | exact zr_ushr | exact zr_byte) only [i191_0, i191_9, i191_24, i191_32, i191_36, i191_42, i191_48, k1, mB1_i, mB0_i, mB1n_i, mB0n_i, mB1_x, mB0_x, ↓if_pos, ↓if_neg, if_true, if_false, if_pos, if_neg]
  · rw [← l2 (zU A 185 0 0) O' t' (u6 0) (A 186 0).toNat 0 0 (by omega) (by omega) (by decide)]
    have n1 := m1 (zU A 185 0 0) O' t' (u6 0)
    simp (disch := first | assumption | omega | exact zr_and | exact zr_or | exact zr_xor | exact zr_shl | exact zr_shr | exact zr_ushr | exact zr_byte) only [i327_0, i327_14, i327_17, i327_21, i327_22, i327_26, i327_29, i327_31, i327_40, i327_43, i327_49, i327_53, i327_59, i327_60, i327_68, n1, c_thr0, mB1_i, mB0_i, mB1n_i, mB0n_i, mB1_x, mB0_x, ↓if_pos, ↓if_neg, if_true, if_false, if_pos, if_neg]
/-- twins -/
def zTw1 (h : Int → Int) (p q : Int) : Int := if h (15 + 6 * p + 0) = h (15 + 6 * q + 0) ∧ h (15 + 6 * p + 1) = h (15 + 6 * q + 1) ∧ h (15 + 6 * p + 2) = h (15 + 6 * q + 2) ∧ h (15 + 6 * p + 3) = h (15 + 6 * q + 3) then 1 else 0
theorem zTw1_comm {h : Int → Int} {p q : Int} : zTw1 h p q = zTw1 h q p := by
  unfold zTw1
  congr 1
  simp only [eq_comm]
theorem c_areTwins {a : Nat} (ha : isHall a) {h : Int → Int} (hw : zHW0 h) (hr : zHR0 A a h) {p q : Int} (hp : 0 ≤ p ∧ p < h 0) (hq : 0 ≤ q ∧ q < h 0) : mGd ar (d + 1) 50 0 [.ref a, .int (zI p), .int (zI q), .double 0] [] (zW K A O t) = some (.inl (some (.int (zI (zTw1 h p q)))), zW K A O t) := by
  have w0 := hw.1
  have st : ∀ k, 0 ≤ k → k < 4 → mGd ar (d + 1) 50 2 [.ref a, .int (zI p), .int (zI q), .int (zI k)] [] (zW K A O t) = if h (15 + 6 * p + k) = h (15 + 6 * q + k) then mGd ar (d + 1) 50 2 [.ref a, .int (zI p), .int (zI q), .int (zI ((k + 1)))] [] (zW K A O t) else some (.inl (some (.int (zI 0))), zW K A O t) := fun k k0 k1 => by
    have r1 := hr.2.2.2.2.2.2.2.1 p k hp.1 hp.2 k0 k1
    have r2 := hr.2.2.2.2.2.2.2.1 q k hq.1 hq.2 k0 k1
    have w1 := hw.2.2.2.2.2.2.2.1 p k hp.1 hp.2 k0 k1
    have w2 := hw.2.2.2.2.2.2.2.1 q k hq.1 hq.2 k0 k1
    rw [i50_2 ha (by omega)]
    by_cases hc : h (15 + 6 * p + k) = h (15 + 6 * q + k)
    · simp (disch := first | assumption | omega | exact zr_and | exact zr_or | exact zr_xor | exact zr_shl | exact zr_shr | exact zr_ushr | exact zr_byte) only [i50_7, i50_13, i50_19, i50_22, i50_24, i50_30, i27_0, r1, r2, mB1_i, mB0_i, mB1n_i, mB0n_i, mB1_x, mB0_x, ↓if_pos, ↓if_neg, if_true, if_false, if_pos, if_neg]
    · simp (disch := first | assumption | omega | exact zr_and | exact zr_or | exact zr_xor | exact zr_shl | exact zr_shr | exact zr_ushr | exact zr_byte) only [i50_7, i50_13, i50_19, i50_22, i50_24, i50_30, i27_0, r1, r2, mB1_i, mB0_i, mB1n_i, mB0n_i, mB1_x, mB0_x, ↓if_pos, ↓if_neg, if_true, if_false, if_pos, if_neg]
  have fin : mGd ar (d + 1) 50 2 [.ref a, .int (zI p), .int (zI q), .int (zI ((0 + 1 + 1 + 1 + 1)))] [] (zW K A O t) = some (.inl (some (.int (zI 1))), zW K A O t) := by
    simp (disch := first | assumption | omega | exact zr_and | exact zr_or | exact zr_xor | exact zr_shl | exact zr_shr | exact zr_ushr | exact zr_byte) only [i50_2, i50_7, i50_13, i50_19, i50_22, i50_24, i50_30, mB1_i, mB0_i, mB1n_i, mB0n_i, mB1_x, mB0_x, ↓if_pos, ↓if_neg, if_true, if_false, if_pos, if_neg]
  rw [i50_0 ha, st 0 (by omega) (by omega), st (0 + 1) (by omega) (by omega), st (0 + 1 + 1) (by omega) (by omega), st (0 + 1 + 1 + 1) (by omega) (by omega), fin]
  simp only [Int.reduceAdd]
  unfold zTw1
  by_cases h0 : h (15 + 6 * p + 0) = h (15 + 6 * q + 0) <;> by_cases h1 : h (15 + 6 * p + 1) = h (15 + 6 * q + 1) <;> by_cases h2 : h (15 + 6 * p + 2) = h (15 + 6 * q + 2) <;> by_cases h3 : h (15 + 6 * p + 3) = h (15 + 6 * q + 3) <;> simp only [h0, h1, h2, h3, and_self, and_true, and_false, false_and, if_true, if_false]
theorem c_rTwins (hw : zHW0 (A 186)) {p q : Int} (hp : 0 ≤ p ∧ p < A 186 0) (hq : 0 ≤ q ∧ q < A 186 0) : mGd ar (d + 2) 329 0 [.ref 185, .int (zI p), .int (zI q), .double 0, .double 0] [] (zW K A O t) = some (.inl (some (.int (zI (zTw1 (A 186) p q)))), zW K A O t) := by
  have w0 := hw.1
  have st : ∀ k, 0 ≤ k → k < 4 → ∀ is, is = 0 ∨ is = 1 → mGd ar (d + 2) 329 5 [.ref 185, .int (zI p), .int (zI q), .int (zI is), .int (zI k)] [] (zW K A O t) = mGd ar (d + 2) 329 5 [.ref 185, .int (zI p), .int (zI q), .int (zI ((if is = 1 ∧ A 186 (15 + 6 * p + k) = A 186 (15 + 6 * q + k) then 1 else 0))), .int (zI ((k + 1)))] [] (zW K A O t) := fun k k0 k1 is his => by
    have o1 := c_of (d := d) (K := K) (O := O) (t := t) (ar := ar) (A := A) (p := p) (k := k) (by omega) (by omega)
    have o2 := c_of (d := d) (K := K) (O := O) (t := t) (ar := ar) (A := A) (p := q) (k := k) (by omega) (by omega)
    have w1 := hw.2.2.2.2.2.2.2.1 p k hp.1 hp.2 k0 k1
    have w2 := hw.2.2.2.2.2.2.2.1 q k hq.1 hq.2 k0 k1
    rw [i329_5 (by omega)]
    rcases his with rfl | rfl
    · rw [if_neg (show ¬ ((0 : Int) = 1 ∧ _) by omega)]
      simp (disch := first | assumption | omega | exact zr_and | exact zr_or | exact zr_xor | exact zr_shl | exact zr_shr | exact zr_ushr | exact zr_byte) only [i329_11, i329_15, i329_22, i329_29, i329_32, i329_36, i329_37, i329_44, o1, o2, mB1_i, mB0_i, mB1n_i, mB0n_i, mB1_x, mB0_x, ↓if_pos, ↓if_neg, if_true, if_false, if_pos, if_neg]
    · by_cases hc : A 186 (15 + 6 * p + k) = A 186 (15 + 6 * q + k)
      · rw [if_pos (show (1 : Int) = 1 ∧ _ from ⟨rfl, hc⟩)]
        simp (disch := first | assumption | omega | exact zr_and | exact zr_or | exact zr_xor | exact zr_shl | exact zr_shr | exact zr_ushr | exact zr_byte) only [i329_11, i329_15, i329_22, i329_29, i329_32, i329_36, i329_37, i329_44, o1, o2, mB1_i, mB0_i, mB1n_i, mB0n_i, mB1_x, mB0_x, ↓if_pos, ↓if_neg, if_true, if_false, if_pos, if_neg]
      · rw [if_neg (show ¬ ((1 : Int) = 1 ∧ _) from fun q => hc q.2)]
        simp (disch := first | assumption | omega | exact zr_and | exact zr_or | exact zr_xor | exact zr_shl | exact zr_shr | exact zr_ushr | exact zr_byte) only [i329_11, i329_15, i329_22, i329_29, i329_32, i329_36, i329_37, i329_44, o1, o2, mB1_i, mB0_i, mB1n_i, mB0n_i, mB1_x, mB0_x, ↓if_pos, ↓if_neg, if_true, if_false, if_pos, if_neg]
  have fin : ∀ is, is = 0 ∨ is = 1 → mGd ar (d + 2) 329 5 [.ref 185, .int (zI p), .int (zI q), .int (zI is), .int (zI ((0 + 1 + 1 + 1 + 1)))] [] (zW K A O t) = some (.inl (some (.int (zI is))), zW K A O t) := fun is his => by
    simp (disch := first | assumption | omega | exact zr_and | exact zr_or | exact zr_xor | exact zr_shl | exact zr_shr | exact zr_ushr | exact zr_byte) only [i329_5, i329_11, i329_15, i329_22, i329_29, i329_32, i329_36, i329_37, i329_44, mB1_i, mB0_i, mB1n_i, mB0n_i, mB1_x, mB0_x, ↓if_pos, ↓if_neg, if_true, if_false, if_pos, if_neg]
  have b01 : ∀ (c : Prop) [Decidable c], (if c then (1 : Int) else 0) = 0 ∨ (if c then (1 : Int) else 0) = 1 := fun c _ => by by_cases h : c <;> simp [h]
  rw [i329_0, st 0 (by omega) (by omega) 1 (Or.inr rfl), st (0 + 1) (by omega) (by omega) _ (b01 _), st (0 + 1 + 1) (by omega) (by omega) _ (b01 _), st (0 + 1 + 1 + 1) (by omega) (by omega) _ (b01 _), fin _ (b01 _)]
  simp only [Int.reduceAdd]
  unfold zTw1
  by_cases h0 : A 186 (15 + 6 * p + 0) = A 186 (15 + 6 * q + 0) <;> by_cases h1 : A 186 (15 + 6 * p + 1) = A 186 (15 + 6 * q + 1) <;> by_cases h2 : A 186 (15 + 6 * p + 2) = A 186 (15 + 6 * q + 2) <;> by_cases h3 : A 186 (15 + 6 * p + 3) = A 186 (15 + 6 * q + 3) <;> simp [h0, h1, h2, h3]
theorem q_twins (hI : zInv A) : zQ ar K O t (d + 12) 49 [.ref 0, .double 0, .double 0, .double 0] 328 [.ref 185, .double 0, .double 0, .double 0] (fun _ => 0) A := by
  obtain ⟨hw, hr, e0, w0⟩ := zInv_f hI
  have tr : ∀ p q, 0 ≤ zTw1 (A 186) p q ∧ zTw1 (A 186) p q ≤ 1 := fun p q => by unfold zTw1; split <;> omega
  have i1 : ∀ (m : Nat) (q c p : Int), q + m = A 186 0 → 0 ≤ q → (0 ≤ p ∧ p < A 186 0) → mGd ar (d + 12) 49 19 [.ref 0, .int (zI c), .int (zI p), .int (zI q)] [] (zW K A O t) = mGd ar (d + 12) 49 51 [.ref 0, .int (zI ((c + zSm (zTw1 (A 186) p) q m))), .int (zI p), .int (zI ((A 186 0)))] [] (zW K A O t) := by
    intro m
    induction m with
    | zero =>
      intro q c p hq q0 hp
      rw [show c + zSm (zTw1 (A 186) p) q 0 = c from Int.add_zero _, show A 186 0 = q by omega]
      simp (disch := first | assumption | omega | exact zr_and | exact zr_or | exact zr_xor | exact zr_shl | exact zr_shr | exact zr_ushr | exact zr_byte) only [i49_19, mB1_i, mB0_i, mB1n_i, mB0n_i, mB1_x, mB0_x, ↓if_pos, ↓if_neg, if_true, if_false, if_pos, if_neg]
    | succ m ih =>
      intro q c p hq q0 hp
      have ct := c_areTwins (d := d + 10) (K := K) (O := O) (t := t) (ar := ar) isHall3 hw hr (p := p) (q := q) hp (by omega)
      have r := tr p q
      rw [show c + zSm (zTw1 (A 186) p) q (m + 1) = c + zTw1 (A 186) p q + zSm (zTw1 (A 186) p) (q + 1) m from (Int.add_assoc _ _ _).symm, ← ih (q + 1) _ p (by omega) (by omega) hp, i49_19 (by omega) (by omega)]
      by_cases h1 : zTw1 (A 186) p q = 0
      · rw [h1] at ct ⊢
        simp (disch := first | assumption | omega | exact zr_and | exact zr_or | exact zr_xor | exact zr_shl | exact zr_shr | exact zr_ushr | exact zr_byte) only [i49_15, i49_30, i49_39, i49_42, i49_45, i49_51, i49_57, ct, Int.add_zero, mB1_i, mB0_i, mB1n_i, mB0n_i, mB1_x, mB0_x, ↓if_pos, ↓if_neg, if_true, if_false, if_pos, if_neg]
      · have h2 : zTw1 (A 186) p q = 1 := by omega
        rw [h2] at ct ⊢
        simp (disch := first | assumption | omega | exact zr_and | exact zr_or | exact zr_xor | exact zr_shl | exact zr_shr | exact zr_ushr | exact zr_byte) only [i49_15, i49_30, i49_39, i49_42, i49_45, i49_51, i49_57, ct, mB1_i, mB0_i, mB1n_i, mB0n_i, mB1_x, mB0_x, ↓if_pos, ↓if_neg, if_true, if_false, if_pos, if_neg]
  have o1 : ∀ (m : Nat) (p c : Int) (u : Value), p + m = A 186 0 → 0 ≤ p → mGd ar (d + 12) 49 4 [.ref 0, .int (zI c), .int (zI p), u] [] (zW K A O t) = some (.inl (some (.int (zI (c + zSm (fun p => zSm (zTw1 (A 186) p) (p + 1) ((A 186 0).toNat - (p.toNat + 1))) p m)))), zW K A O t) := by
    intro m
    induction m with
    | zero =>
      intro p c u hp p0
      rw [show c + zSm (fun p => zSm (zTw1 (A 186) p) (p + 1) ((A 186 0).toNat - (p.toNat + 1))) p 0 = c from Int.add_zero _]
      simp (disch := first | assumption | omega | exact zr_and | exact zr_or | exact zr_xor | exact zr_shl | exact zr_shr | exact zr_ushr | exact zr_byte) only [i49_4, i49_57, mB1_i, mB0_i, mB1n_i, mB0n_i, mB1_x, mB0_x, ↓if_pos, ↓if_neg, if_true, if_false, if_pos, if_neg]
    | succ m ih =>
      intro p c u hp p0
      have g := i1 ((A 186 0).toNat - (p.toNat + 1)) (p + 1) c p (by omega) (by omega) (by omega)
      rw [show c + zSm (fun p => zSm (zTw1 (A 186) p) (p + 1) ((A 186 0).toNat - (p.toNat + 1))) p (m + 1) = c + zSm (zTw1 (A 186) p) (p + 1) ((A 186 0).toNat - (p.toNat + 1)) + zSm (fun p => zSm (zTw1 (A 186) p) (p + 1) ((A 186 0).toNat - (p.toNat + 1))) (p + 1) m from (Int.add_assoc _ _ _).symm, ← ih (p + 1) _ (.int (zI (A 186 0))) (by omega) (by omega), i49_4 (by omega) (by omega)]
      simp (disch := first | assumption | omega | exact zr_and | exact zr_or | exact zr_xor | exact zr_shl | exact zr_shr | exact zr_ushr | exact zr_byte) only [i49_15, g, i49_51, mB1_i, mB0_i, mB1n_i, mB0n_i, mB1_x, mB0_x, ↓if_pos, ↓if_neg, if_true, if_false, if_pos, if_neg]
  have l2 : ∀ (B : Nat → Int → Int) (O' : Nat → Int64) (t' : Nat), B 186 = A 186 → mGd ar (d + 12) 328 9 [.ref 185, .int (zI 0), .int (zI 0), .double 0] [] (zW K B O' t') = some (.inl (some (.int (zI (zSm (fun p => zSm (zTw1 (A 186) p) 0 p.toNat) 0 (A 186 0).toNat)))), zW K B O' t') := by
    intro B O' t' e
    have eB0 : B 186 0 = A 186 0 := by rw [e]
    have i2 : ∀ (m : Nat) (q c p : Int), q + m = p → 0 ≤ q → (0 ≤ p ∧ p < A 186 0) → mGd ar (d + 12) 328 19 [.ref 185, .int (zI c), .int (zI p), .int (zI q)] [] (zW K B O' t') = mGd ar (d + 12) 328 47 [.ref 185, .int (zI (c + zSm (zTw1 (A 186) p) q m)), .int (zI p), .int (zI p)] [] (zW K B O' t') := by
      intro m
      induction m with
      | zero =>
        intro q c p hq q0 hp
        rw [show c + zSm (zTw1 (A 186) p) q 0 = c from Int.add_zero _, show q = p by omega]
        simp (disch := first | assumption | omega | exact zr_and | exact zr_or | exact zr_xor | exact zr_shl | exact zr_shr | exact zr_ushr | exact zr_byte) only [i328_19, mB1_i, mB0_i, mB1n_i, mB0n_i, mB1_x, mB0_x, ↓if_pos, ↓if_neg, if_true, if_false, if_pos, if_neg]
      | succ m ih =>
        intro q c p hq q0 hp
        have ct := c_rTwins (d := d + 9) (K := K) (O := O') (t := t') (ar := ar) (A := B) (p := p) (q := q) (by rw [e]; exact hw) (by rw [e]; exact hp) (by rw [e]; omega)
        rw [e] at ct
        have r := tr p q
        rw [show c + zSm (zTw1 (A 186) p) q (m + 1) = c + zTw1 (A 186) p q + zSm (zTw1 (A 186) p) (q + 1) m from (Int.add_assoc _ _ _).symm, ← ih (q + 1) _ p (by omega) (by omega) hp, i328_19 (by omega) (by omega)]
        by_cases h1 : zTw1 (A 186) p q = 0
        · rw [h1] at ct ⊢
          simp (disch := first | assumption | omega | exact zr_and | exact zr_or | exact zr_xor | exact zr_shl | exact zr_shr | exact zr_ushr | exact zr_byte) only [i328_14, i328_17, i328_24, i328_31, i328_34, i328_38, i328_39, i328_47, i328_53, ct, mB1_i, mB0_i, mB1n_i, mB0n_i, mB1_x, mB0_x, ↓if_pos, ↓if_neg, if_true, if_false, if_pos, if_neg]
        · have h2 : zTw1 (A 186) p q = 1 := by omega
          rw [h2] at ct ⊢
          simp (disch := first | assumption | omega | exact zr_and | exact zr_or | exact zr_xor | exact zr_shl | exact zr_shr | exact zr_ushr | exact zr_byte) only [i328_14, i328_17, i328_24, i328_31, i328_34, i328_38, i328_39, i328_47, i328_53, ct, mB1_i, mB0_i, mB1n_i, mB0n_i, mB1_x, mB0_x, ↓if_pos, ↓if_neg, if_true, if_false, if_pos, if_neg]
    have o2 : ∀ (m : Nat) (p c : Int) (u : Value), p + m = A 186 0 → 0 ≤ p → mGd ar (d + 12) 328 9 [.ref 185, .int (zI c), .int (zI p), u] [] (zW K B O' t') = some (.inl (some (.int (zI (c + zSm (fun p => zSm (zTw1 (A 186) p) 0 p.toNat) p m)))), zW K B O' t') := by
      intro m
      induction m with
      | zero =>
        intro p c u hp p0
        rw [show c + zSm (fun p => zSm (zTw1 (A 186) p) 0 p.toNat) p 0 = c from Int.add_zero _]
        simp (disch := first | assumption | omega | exact zr_and | exact zr_or | exact zr_xor | exact zr_shl | exact zr_shr | exact zr_ushr | exact zr_byte) only [i328_9, i328_14, i328_17, i328_24, i328_31, i328_34, i328_38, i328_39, i328_47, i328_53, i233_0, eB0, mB1_i, mB0_i, mB1n_i, mB0n_i, mB1_x, mB0_x, ↓if_pos, ↓if_neg, if_true, if_false, if_pos, if_neg]
      | succ m ih =>
        intro p c u hp p0
        have g := i2 p.toNat 0 c p (by omega) (by omega) (by omega)
        rw [show c + zSm (fun p => zSm (zTw1 (A 186) p) 0 p.toNat) p (m + 1) = c + zSm (zTw1 (A 186) p) 0 p.toNat + zSm (fun p => zSm (zTw1 (A 186) p) 0 p.toNat) (p + 1) m from (Int.add_assoc _ _ _).symm, ← ih (p + 1) _ (.int (zI p)) (by omega) (by omega), i328_9]
        simp (disch := first | assumption | omega | exact zr_and | exact zr_or | exact zr_xor | exact zr_shl | exact zr_shr | exact zr_ushr | exact zr_byte) only [i328_14, i328_17, i328_24, i328_31, i328_34, i328_38, i328_39, i328_47, i328_53, i233_0, eB0, g, mB1_i, mB0_i, mB1n_i, mB0n_i, mB1_x, mB0_x, ↓if_pos, ↓if_neg, if_true, if_false, if_pos, if_neg]
    have := o2 (A 186 0).toNat 0 0 (.double 0) (by omega) (by omega)
    rw [Int.zero_add] at this
    exact this
  have hp := zPairs (f := zTw1 (A 186)) (fun p q => zTw1_comm) (A 186 0).toNat
  have hv := zSm_rng (f := fun p => zSm (zTw1 (A 186) p) 0 p.toNat) (c := 8) (m := (A 186 0).toNat) (p := 0) (fun i i1 i2 => by
    have := zSm_rng (f := zTw1 (A 186) i) (c := 1) (m := i.toNat) (p := 0) (fun j _ _ => tr i j)
    omega)
  refine zQ_ok (b := zSm (fun p => zSm (zTw1 (A 186) p) 0 p.toNat) 0 (A 186 0).toNat) (A1 := A) hI ?_ zFc_refl (by omega) (fun O' t' => ⟨zU A 185 0 0, ?_, zU_at, zFm_u⟩)
  · rw [i49_0, o1 (A 186 0).toNat 0 0 (.double 0) (by omega) (by omega), Int.zero_add, hp]
  · rw [i328_0, l2 (zU A 185 0 0) O' t' (zU_r (by decide))]
end CALLS3
