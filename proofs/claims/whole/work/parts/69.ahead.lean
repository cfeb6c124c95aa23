/-! CALLS, 17: ahead -/
section AHEAD2
variable {ar : Nat → Nat × (Nat → Int32)} {d t : Nat} {K : Nat → Nat → Option Nat} {A : Nat → Int → Int} {O : Nat → Int64}
theorem ahead_loop {L : zLines} {p k n : Int} (hn : 0 ≤ n ∧ n ≤ 60) : ∀ (m : Nat) (x : Int) (C : Nat → Int → Int), x + m = n → 0 ≤ x → zT L A C → ∃ C', mGd ar (d + 12) 290 70 [.ref 185, .int (zI p), .int (zI k), .int (zI n), .int (zI x)] [] (zW K C O t) = mGd ar (d + 12) 290 86 [.ref 185, .int (zI p), .int (zI k), .int (zI n), .int (zI n)] [] (zW K C' O t) ∧ zT L A C' ∧ C' 186 = zIt (zD0 L) m (C 186) := by
  intro m
  induction m with
  | zero =>
    intro x C hx x0 hC
    have : x = n := by omega
    subst this
    exact ⟨C, by simp (disch := first | assumption | omega | exact zr_and | exact zr_or | exact zr_xor | exact zr_shl | exact zr_shr | exact zr_ushr | exact zr_byte | exact isHall3 | exact isLaw12) only [i290_70, mB1_i, mB0_i, mB1n_i, mB0n_i, mB1_x, mB0_x, ↓if_pos, ↓if_neg, if_true, if_false, if_pos, if_neg], hC, rfl⟩
  | succ m ih =>
    intro x C hx x0 hC
    obtain ⟨C1, d1, d2, d3⟩ := t_calm (d := d + 4) (K := K) (O := O) (t := t) (ar := ar) hC
    obtain ⟨C', q1, q2, q3⟩ := ih (x + 1) C1 (by omega) (by omega) d2
    refine ⟨C', ?_, q2, by rw [q3, d3]; rfl⟩
    rw [← q1, i290_70 (by omega) (by omega)]
    simp (disch := first | assumption | omega | exact zr_and | exact zr_or | exact zr_xor | exact zr_shl | exact zr_shr | exact zr_ushr | exact zr_byte | exact isHall3 | exact isLaw12) only [i290_76, i290_80, d1, mB1_i, mB0_i, mB1n_i, mB0n_i, mB1_x, mB0_x, ↓if_pos, ↓if_neg, if_true, if_false, if_pos, if_neg]
theorem zD0n_0 {L : zLines} : ∀ {n : Nat} {h : Int → Int}, zIt (zD0 L) n h 0 = h 0
  | 0, _ => rfl
  | n + 1, h => (zD0n_0 (n := n) (h := zD0 L h)).trans (by unfold zD0 zEnd; rw [if_neg (by omega), zGo1_lo (by omega)])
theorem ahead_man {p k n : Int} (hI : zInv A) (hp : p = -1) (h_k : -2147483648 ≤ k ∧ k < 2147483648) (h_n : -2147483648 ≤ n ∧ n < 2147483648) : zQ ar K O t (d + 12) 134 [.ref 0, .int (zI p), .int (zI k), .int (zI n)] 290 [.ref 185, .int (zI p), .int (zI k), .int (zI n), .double 0] (fun E => if E = 2 then 1 else if E = 0 then 2 else 0) A := by
  obtain ⟨hw, hr, e0, w0⟩ := zInv_f hI
  have u6 : ∀ v, zU A 185 0 v 186 = A 186 := fun v => zU_r (by decide)
  have M1 : ∀ (B : Nat → Int → Int) (O' : Nat → Int64) (t' : Nat), B 186 = A 186 → mGd ar (d + 11) 257 0 [.int (zI k)] [] (zW K B O' t') = some (.inl (some (.int (zI (if 0 ≤ k ∧ k < 4 then 0 else 1)))), zW K B O' t') := fun B O' t' e => c_noKind (d := (d + 10)) h_k
  have M2 : ∀ (B : Nat → Int → Int) (O' : Nat → Int64) (t' : Nat), B 186 = A 186 → mGd ar (d + 11) 256 0 [.int (zI n), .int (zI 0), .int (zI 60)] [] (zW K B O' t') = some (.inl (some (.int (zI (if 0 ≤ n ∧ n ≤ 60 then 1 else 0)))), zW K B O' t') := fun B O' t' e => c_in (d := (d + 11)) h_n (by decide) (by decide)
  by_cases g1 : 0 ≤ k ∧ k < 4
  case neg =>
    have k1 := c_nKindX (d := (d + 11)) (K := K) (O := O) (t := t) (ar := ar) (A := A) (p := k) h_k g1
    refine zQ_ex (E := 2) hI ?_ (by decide) (fun O' t' => ⟨0, zU A 185 0 1, ?_, zU_at, zFm_u⟩)
    · simp (disch := first | assumption | omega | exact zr_and | exact zr_or | exact zr_xor | exact zr_shl | exact zr_shr | exact zr_ushr | exact zr_byte | exact isHall3 | exact isLaw12) only [i134_0, i134_5, i134_10, i134_15, i134_23, i134_34, i134_51, i134_56, i134_68, i134_77, k1, mB1_i, mB0_i, mB1n_i, mB0n_i, mB1_x, mB0_x, ↓if_pos, ↓if_neg, if_true, if_false, if_pos, if_neg]
    · have n1 := M1 (zU A 185 0 0) O' t' (u6 0)
      rw [if_neg (by omega)] at n1
      simp (disch := first | assumption | omega | exact zr_and | exact zr_or | exact zr_xor | exact zr_shl | exact zr_shr | exact zr_ushr | exact zr_byte | exact isHall3 | exact isLaw12) only [i290_0, i290_11, i290_16, i290_19, i290_23, i290_26, i290_30, i290_31, i290_35, i290_38, i290_46, i290_49, i290_53, i290_54, i290_58, i290_61, i290_63, i290_67, i290_70, i290_76, i290_80, i290_86, i290_91, i290_103, i290_109, i290_115, n1, c_thr0, c_thr1, zU_uu, i233_0, zU_c, mB1_i, mB0_i, mB1n_i, mB0n_i, mB1_x, mB0_x, ↓if_pos, ↓if_neg, if_true, if_false, if_pos, if_neg]
  have k1 := c_nKind (d := (d + 11)) (K := K) (O := O) (t := t) (ar := ar) (A := A) (p := k) g1
  have m1 : ∀ (B : Nat → Int → Int) (O' : Nat → Int64) (t' : Nat), B 186 = A 186 → mGd ar (d + 11) 257 0 [.int (zI k)] [] (zW K B O' t') = some (.inl (some (.int (zI 0))), zW K B O' t') := fun B O' t' e => by have q := M1 B O' t' e; rwa [if_pos (by omega)] at q
  by_cases g2 : 0 ≤ n ∧ n ≤ 60
  case neg =>
    have k2 := c_nNumberX (d := (d + 11)) (K := K) (O := O) (t := t) (ar := ar) (A := A) (p := n) (x := 0) (y := 60) h_n g2 (by decide)
    refine zQ_ex (E := 0) hI ?_ (by decide) (fun O' t' => ⟨0, zU A 185 0 2, ?_, zU_at, zFm_u⟩)
    · simp (disch := first | assumption | omega | exact zr_and | exact zr_or | exact zr_xor | exact zr_shl | exact zr_shr | exact zr_ushr | exact zr_byte | exact isHall3 | exact isLaw12) only [i134_0, i134_5, i134_10, i134_15, i134_23, i134_34, i134_51, i134_56, i134_68, i134_77, k1, k2, mB1_i, mB0_i, mB1n_i, mB0n_i, mB1_x, mB0_x, ↓if_pos, ↓if_neg, if_true, if_false, if_pos, if_neg]
    · have n1 := M1 (zU A 185 0 0) O' t' (u6 0)
      rw [if_pos (by omega)] at n1
      have n2 := M2 (zU A 185 0 0) O' t' (u6 0)
      rw [if_neg (by omega)] at n2
      simp (disch := first | assumption | omega | exact zr_and | exact zr_or | exact zr_xor | exact zr_shl | exact zr_shr | exact zr_ushr | exact zr_byte | exact isHall3 | exact isLaw12) only [i290_0, i290_11, i290_16, i290_19, i290_23, i290_26, i290_30, i290_31, i290_35, i290_38, i290_46, i290_49, i290_53, i290_54, i290_58, i290_61, i290_63, i290_67, i290_70, i290_76, i290_80, i290_86, i290_91, i290_103, i290_109, i290_115, n1, n2, c_thr0, c_thr1, zU_uu, i233_0, zU_c, mB1_i, mB0_i, mB1n_i, mB0n_i, mB1_x, mB0_x, ↓if_pos, ↓if_neg, if_true, if_false, if_pos, if_neg]
  have k2 := c_nNumber (d := (d + 11)) (K := K) (O := O) (t := t) (ar := ar) (A := A) (p := n) (x := 0) (y := 60) g2 (by decide)
  have m2 : ∀ (B : Nat → Int → Int) (O' : Nat → Int64) (t' : Nat), B 186 = A 186 → mGd ar (d + 11) 256 0 [.int (zI n), .int (zI 0), .int (zI 60)] [] (zW K B O' t') = some (.inl (some (.int (zI 1))), zW K B O' t') := fun B O' t' e => by have q := M2 B O' t' e; rwa [if_pos (by omega)] at q
  obtain ⟨-, ⟨L, lc, lr, -⟩, -⟩ := id hI
  obtain ⟨C1, f1, f2, f3⟩ := c_draft (d := d + 10) (K := K) (O := O) (t := t) (ar := ar) hI zFc_refl
  obtain ⟨A1, f4, f5, f6⟩ := c_passDays (d := d + 6) (K := K) (O := O) (t := t) (ar := ar) isHall145 isLaw12 (by omega) (dr := 0) (n := n) (Or.inl rfl) g2 hw f2.1 (zLawC_same lc (fun c c1 c2 => f3 c (by unfold zSc; omega)))
  rw [if_neg (show ¬ (0 : Int) = 1 by decide)] at f5
  have f7 := zFc_pf f3 f6
  have wN := zIt_wff (f := zD0 L) (fun _ hh => zD0_wff hh) (n := n.toNat) hI.1.1
  have f8 := f5.2.2.2.2.2.2.1 k g1.1 g1.2
  have rg := wN.1.2.2.2.2.2.2.1 k g1.1 g1.2
  refine zQ_ok (b := zIt (zD0 L) n.toNat (A 186) (11 + k)) (A1 := A1) hI ?_ f7 (by omega) (fun O' t' => ?_)
  · simp (disch := first | assumption | omega | exact zr_and | exact zr_or | exact zr_xor | exact zr_shl | exact zr_shr | exact zr_ushr | exact zr_byte | exact isHall3 | exact isLaw12) only [i134_0, i134_5, i134_10, i134_15, i134_23, i134_34, i134_51, i134_56, i134_68, i134_77, k1, k2, f1, f4, f8, mB1_i, mB0_i, mB1n_i, mB0n_i, mB1_x, mB0_x, ↓if_pos, ↓if_neg, if_true, if_false, if_pos, if_neg]
  · have e6 : A1 186 = A 186 := f7 186 (by unfold zSc; omega)
    have u6' : (zU A1 185 0 0) 186 = A 186 := by rw [zU_r (by decide), e6]
    have n1 := m1 (zU A1 185 0 0) O' t' u6'
    have n2 := m2 (zU A1 185 0 0) O' t' u6'
    obtain ⟨C0, p1, p2, p3⟩ := t_keeps (d := d + 11) (K := K) (O := O') (t := t') (ar := ar) (A := zU A1 185 0 0) (L := L) (by rw [u6']; exact hI.1.1) (by rw [u6']; exact lr)
    obtain ⟨C1, q1, q2, q3⟩ := ahead_loop (d := d) (K := K) (O := O') (t := t') (ar := ar) (p := p) (k := k) g2 n.toNat 0 C0 (by omega) (by omega) p2
    rw [p3, u6'] at q3
    obtain ⟨C2, s1, s2, -, -⟩ := t_brings (d := d + 11) (K := K) (O := O') (t := t') (ar := ar) (A := zU A1 185 0 0) (L := L) (by rw [u6']; exact hI.1.1) (by rw [u6']; exact lr) q2
    refine ⟨C2, ?_, zFm_0 s2⟩
    rw [← q3]
    subst hp
    simp (disch := first | assumption | omega | exact zr_and | exact zr_or | exact zr_xor | exact zr_shl | exact zr_shr | exact zr_ushr | exact zr_byte | exact isHall3 | exact isLaw12) only [i290_0, i290_11, i290_16, i290_19, i290_23, i290_26, i290_30, i290_31, i290_35, i290_38, i290_46, i290_49, i290_53, i290_54, i290_58, i290_61, i290_63, i290_67, i290_76, i290_80, i290_86, i290_91, i290_103, i290_109, i290_115, n1, n2, c_thr0, p1, q1, s1, mB1_i, mB0_i, mB1n_i, mB0n_i, mB1_x, mB0_x, ↓if_pos, ↓if_neg, if_true, if_false, if_pos, if_neg]
theorem ahead_one {p k n : Int} (hI : zInv A) (hp : p ≠ -1) (h_p : -2147483648 ≤ p ∧ p < 2147483648) (h_k : -2147483648 ≤ k ∧ k < 2147483648) (h_n : -2147483648 ≤ n ∧ n < 2147483648) : zQ ar K O t (d + 12) 134 [.ref 0, .int (zI p), .int (zI k), .int (zI n)] 290 [.ref 185, .int (zI p), .int (zI k), .int (zI n), .double 0] (fun E => if E = 2 then 1 else if E = 0 then 2 else 0) A := by
  obtain ⟨hw, hr, e0, w0⟩ := zInv_f hI
  have u6 : ∀ v, zU A 185 0 v 186 = A 186 := fun v => zU_r (by decide)
  have M1 : ∀ (B : Nat → Int → Int) (O' : Nat → Int64) (t' : Nat), B 186 = A 186 → mGd ar (d + 11) 255 0 [.ref 185, .int (zI p)] [] (zW K B O' t') = some (.inl (some (.int (zI (if 0 ≤ p ∧ p < A 186 0 then 0 else 1)))), zW K B O' t') := fun B O' t' e => by rw [← e]; exact c_noPerson (d := (d + 10)) h_p (by rw [e]; exact w0)
  have M2 : ∀ (B : Nat → Int → Int) (O' : Nat → Int64) (t' : Nat), B 186 = A 186 → mGd ar (d + 11) 257 0 [.int (zI k)] [] (zW K B O' t') = some (.inl (some (.int (zI (if 0 ≤ k ∧ k < 4 then 0 else 1)))), zW K B O' t') := fun B O' t' e => c_noKind (d := (d + 10)) h_k
  have M3 : ∀ (B : Nat → Int → Int) (O' : Nat → Int64) (t' : Nat), B 186 = A 186 → mGd ar (d + 11) 256 0 [.int (zI n), .int (zI 0), .int (zI 60)] [] (zW K B O' t') = some (.inl (some (.int (zI (if 0 ≤ n ∧ n ≤ 60 then 1 else 0)))), zW K B O' t') := fun B O' t' e => c_in (d := (d + 11)) h_n (by decide) (by decide)
  by_cases g1 : 0 ≤ p ∧ p < A 186 0
  case neg =>
    have k1 := c_nPersonX (d := (d + 11)) (K := K) (O := O) (t := t) (ar := ar) (A := A) (p := p) h_p (by omega) (by omega)
    refine zQ_ex (E := 2) hI ?_ (by decide) (fun O' t' => ⟨0, zU A 185 0 1, ?_, zU_at, zFm_u⟩)
    · simp (disch := first | assumption | omega | exact zr_and | exact zr_or | exact zr_xor | exact zr_shl | exact zr_shr | exact zr_ushr | exact zr_byte | exact isHall3 | exact isLaw12) only [i134_0, i134_5, i134_10, i134_15, i134_23, i134_34, i134_51, i134_56, i134_68, i134_77, k1, mB1_i, mB0_i, mB1n_i, mB0n_i, mB1_x, mB0_x, ↓if_pos, ↓if_neg, if_true, if_false, if_pos, if_neg]
    · have n1 := M1 (zU A 185 0 0) O' t' (u6 0)
      rw [if_neg (by omega)] at n1
      simp (disch := first | assumption | omega | exact zr_and | exact zr_or | exact zr_xor | exact zr_shl | exact zr_shr | exact zr_ushr | exact zr_byte | exact isHall3 | exact isLaw12) only [i290_0, i290_11, i290_16, i290_19, i290_23, i290_26, i290_30, i290_31, i290_35, i290_38, i290_46, i290_49, i290_53, i290_54, i290_58, i290_61, i290_63, i290_67, i290_70, i290_76, i290_80, i290_86, i290_91, i290_103, i290_109, i290_115, n1, c_thr0, c_thr1, zU_uu, i233_0, zU_c, mB1_i, mB0_i, mB1n_i, mB0n_i, mB1_x, mB0_x, ↓if_pos, ↓if_neg, if_true, if_false, if_pos, if_neg]
  have k1 := c_nPerson (d := (d + 11)) (K := K) (O := O) (t := t) (ar := ar) (A := A) (p := p) (by omega) (by omega)
  have m1 : ∀ (B : Nat → Int → Int) (O' : Nat → Int64) (t' : Nat), B 186 = A 186 → mGd ar (d + 11) 255 0 [.ref 185, .int (zI p)] [] (zW K B O' t') = some (.inl (some (.int (zI 0))), zW K B O' t') := fun B O' t' e => by have q := M1 B O' t' e; rwa [if_pos (by omega)] at q
  by_cases g2 : 0 ≤ k ∧ k < 4
  case neg =>
    have k2 := c_nKindX (d := (d + 11)) (K := K) (O := O) (t := t) (ar := ar) (A := A) (p := k) h_k g2
    refine zQ_ex (E := 2) hI ?_ (by decide) (fun O' t' => ⟨0, zU A 185 0 1, ?_, zU_at, zFm_u⟩)
    · simp (disch := first | assumption | omega | exact zr_and | exact zr_or | exact zr_xor | exact zr_shl | exact zr_shr | exact zr_ushr | exact zr_byte | exact isHall3 | exact isLaw12) only [i134_0, i134_5, i134_10, i134_15, i134_23, i134_34, i134_51, i134_56, i134_68, i134_77, k1, k2, mB1_i, mB0_i, mB1n_i, mB0n_i, mB1_x, mB0_x, ↓if_pos, ↓if_neg, if_true, if_false, if_pos, if_neg]
    · have n1 := M1 (zU A 185 0 0) O' t' (u6 0)
      rw [if_pos (by omega)] at n1
      have n2 := M2 (zU A 185 0 0) O' t' (u6 0)
      rw [if_neg (by omega)] at n2
      simp (disch := first | assumption | omega | exact zr_and | exact zr_or | exact zr_xor | exact zr_shl | exact zr_shr | exact zr_ushr | exact zr_byte | exact isHall3 | exact isLaw12) only [i290_0, i290_11, i290_16, i290_19, i290_23, i290_26, i290_30, i290_31, i290_35, i290_38, i290_46, i290_49, i290_53, i290_54, i290_58, i290_61, i290_63, i290_67, i290_70, i290_76, i290_80, i290_86, i290_91, i290_103, i290_109, i290_115, n1, n2, c_thr0, c_thr1, zU_uu, i233_0, zU_c, mB1_i, mB0_i, mB1n_i, mB0n_i, mB1_x, mB0_x, ↓if_pos, ↓if_neg, if_true, if_false, if_pos, if_neg]
  have k2 := c_nKind (d := (d + 11)) (K := K) (O := O) (t := t) (ar := ar) (A := A) (p := k) g2
  have m2 : ∀ (B : Nat → Int → Int) (O' : Nat → Int64) (t' : Nat), B 186 = A 186 → mGd ar (d + 11) 257 0 [.int (zI k)] [] (zW K B O' t') = some (.inl (some (.int (zI 0))), zW K B O' t') := fun B O' t' e => by have q := M2 B O' t' e; rwa [if_pos (by omega)] at q
  by_cases g3 : 0 ≤ n ∧ n ≤ 60
  case neg =>
    have k3 := c_nNumberX (d := (d + 11)) (K := K) (O := O) (t := t) (ar := ar) (A := A) (p := n) (x := 0) (y := 60) h_n g3 (by decide)
    refine zQ_ex (E := 0) hI ?_ (by decide) (fun O' t' => ⟨0, zU A 185 0 2, ?_, zU_at, zFm_u⟩)
    · simp (disch := first | assumption | omega | exact zr_and | exact zr_or | exact zr_xor | exact zr_shl | exact zr_shr | exact zr_ushr | exact zr_byte | exact isHall3 | exact isLaw12) only [i134_0, i134_5, i134_10, i134_15, i134_23, i134_34, i134_51, i134_56, i134_68, i134_77, k1, k2, k3, mB1_i, mB0_i, mB1n_i, mB0n_i, mB1_x, mB0_x, ↓if_pos, ↓if_neg, if_true, if_false, if_pos, if_neg]
    · have n1 := M1 (zU A 185 0 0) O' t' (u6 0)
      rw [if_pos (by omega)] at n1
      have n2 := M2 (zU A 185 0 0) O' t' (u6 0)
      rw [if_pos (by omega)] at n2
      have n3 := M3 (zU A 185 0 0) O' t' (u6 0)
      rw [if_neg (by omega)] at n3
      simp (disch := first | assumption | omega | exact zr_and | exact zr_or | exact zr_xor | exact zr_shl | exact zr_shr | exact zr_ushr | exact zr_byte | exact isHall3 | exact isLaw12) only [i290_0, i290_11, i290_16, i290_19, i290_23, i290_26, i290_30, i290_31, i290_35, i290_38, i290_46, i290_49, i290_53, i290_54, i290_58, i290_61, i290_63, i290_67, i290_70, i290_76, i290_80, i290_86, i290_91, i290_103, i290_109, i290_115, n1, n2, n3, c_thr0, c_thr1, zU_uu, i233_0, zU_c, mB1_i, mB0_i, mB1n_i, mB0n_i, mB1_x, mB0_x, ↓if_pos, ↓if_neg, if_true, if_false, if_pos, if_neg]
  have k3 := c_nNumber (d := (d + 11)) (K := K) (O := O) (t := t) (ar := ar) (A := A) (p := n) (x := 0) (y := 60) g3 (by decide)
  have m3 : ∀ (B : Nat → Int → Int) (O' : Nat → Int64) (t' : Nat), B 186 = A 186 → mGd ar (d + 11) 256 0 [.int (zI n), .int (zI 0), .int (zI 60)] [] (zW K B O' t') = some (.inl (some (.int (zI 1))), zW K B O' t') := fun B O' t' e => by have q := M3 B O' t' e; rwa [if_pos (by omega)] at q
  obtain ⟨-, ⟨L, lc, lr, -⟩, -⟩ := id hI
  obtain ⟨C1, f1, f2, f3⟩ := c_draft (d := d + 10) (K := K) (O := O) (t := t) (ar := ar) hI zFc_refl
  obtain ⟨A1, f4, f5, f6⟩ := c_passDays (d := d + 6) (K := K) (O := O) (t := t) (ar := ar) isHall145 isLaw12 (by omega) (dr := 0) (n := n) (Or.inl rfl) g3 hw f2.1 (zLawC_same lc (fun c c1 c2 => f3 c (by unfold zSc; omega)))
  rw [if_neg (show ¬ (0 : Int) = 1 by decide)] at f5
  have f7 := zFc_pf f3 f6
  have wN := zIt_wff (f := zD0 L) (fun _ hh => zD0_wff hh) (n := n.toNat) hI.1.1
  have e00 : zIt (zD0 L) n.toNat (A 186) 0 = A 186 0 := zD0n_0
  have f8 := f5.2.2.2.2.2.2.2.1 p k g1.1 (by rw [e00]; exact g1.2) g2.1 g2.2
  have rg := wN.1.2.2.2.2.2.2.2.1 p k g1.1 (by rw [e00]; exact g1.2) g2.1 g2.2
  refine zQ_ok (b := zIt (zD0 L) n.toNat (A 186) (15 + 6 * p + k)) (A1 := A1) hI ?_ f7 (by omega) (fun O' t' => ?_)
  · simp (disch := first | assumption | omega | exact zr_and | exact zr_or | exact zr_xor | exact zr_shl | exact zr_shr | exact zr_ushr | exact zr_byte | exact isHall3 | exact isLaw12) only [i134_0, i134_5, i134_10, i134_15, i134_23, i134_34, i134_51, i134_56, i134_68, i134_77, k1, k2, k3, f1, f4, i27_0 isHall145, f8, mB1_i, mB0_i, mB1n_i, mB0n_i, mB1_x, mB0_x, ↓if_pos, ↓if_neg, if_true, if_false, if_pos, if_neg]
  · have e6 : A1 186 = A 186 := f7 186 (by unfold zSc; omega)
    have u6' : (zU A1 185 0 0) 186 = A 186 := by rw [zU_r (by decide), e6]
    have n1 := m1 (zU A1 185 0 0) O' t' u6'
    have n2 := m2 (zU A1 185 0 0) O' t' u6'
    have n3 := m3 (zU A1 185 0 0) O' t' u6'
    obtain ⟨C0, p1, p2, p3⟩ := t_keeps (d := d + 11) (K := K) (O := O') (t := t') (ar := ar) (A := zU A1 185 0 0) (L := L) (by rw [u6']; exact hI.1.1) (by rw [u6']; exact lr)
    obtain ⟨C1, q1, q2, q3⟩ := ahead_loop (d := d) (K := K) (O := O') (t := t') (ar := ar) (p := p) (k := k) g3 n.toNat 0 C0 (by omega) (by omega) p2
    rw [p3, u6'] at q3
    obtain ⟨C2, s1, s2, -, -⟩ := t_brings (d := d + 11) (K := K) (O := O') (t := t') (ar := ar) (A := zU A1 185 0 0) (L := L) (by rw [u6']; exact hI.1.1) (by rw [u6']; exact lr) q2
    refine ⟨C2, ?_, zFm_0 s2⟩
    rw [← q3]
    simp (disch := first | assumption | omega | exact zr_and | exact zr_or | exact zr_xor | exact zr_shl | exact zr_shr | exact zr_ushr | exact zr_byte | exact isHall3 | exact isLaw12) only [i290_0, i290_11, i290_16, i290_19, i290_23, i290_26, i290_30, i290_31, i290_35, i290_38, i290_46, i290_49, i290_53, i290_54, i290_58, i290_61, i290_63, i290_67, i290_76, i290_80, i290_86, i290_91, i290_103, i290_109, i290_115, n1, n2, n3, c_thr0, p1, q1, i258_0, i258_9, i234_0, s1, mB1_i, mB0_i, mB1n_i, mB0n_i, mB1_x, mB0_x, ↓if_pos, ↓if_neg, if_true, if_false, if_pos, if_neg]
theorem q_ahead {p k n : Int} (hI : zInv A) (h_p : -2147483648 ≤ p ∧ p < 2147483648) (h_k : -2147483648 ≤ k ∧ k < 2147483648) (h_n : -2147483648 ≤ n ∧ n < 2147483648) : zQ ar K O t (d + 12) 134 [.ref 0, .int (zI p), .int (zI k), .int (zI n)] 290 [.ref 185, .int (zI p), .int (zI k), .int (zI n), .double 0] (fun E => if E = 2 then 1 else if E = 0 then 2 else 0) A := by
  by_cases hp : p = -1
  · exact ahead_man hI hp h_k h_n
  · exact ahead_one hI hp h_p h_k h_n
end AHEAD2
