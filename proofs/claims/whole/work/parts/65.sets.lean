/-! CALLS, 13: samples, village -/
theorem zCnt_0 {s : Int} (hs : 0 ≤ s ∧ s < 256) (h : 1 ≤ zCnt s) : 0 < s := by
  by_cases h0 : s = 0
  · subst h0
    have : zCnt 0 = 0 := by decide
    omega
  · omega
theorem zCnt_rng {s : Int} : 0 ≤ zCnt s ∧ zCnt s ≤ 8 := by
  unfold zCnt
  have : ((List.range 8).filter fun k => s.toNat.testBit k).length ≤ (List.range 8).length := List.length_filter_le _ _
  simp only [List.length_range] at this
  omega
/-- the middle of some, by the rule of the kind -/
noncomputable def zMs (h : Int → Int) (k s : Int) : Int := zMid (h (7 + k)) (zSel s (zWP h k) 0 (h 0).toNat)
theorem zMs_rng {h : Int → Int} (hw : zHW0 h) {k s : Int} (hk : 0 ≤ k ∧ k < 4) (hs : 0 < s ∧ s ≤ zAll (h 0)) : 0 ≤ zMs h k s ∧ zMs h k s ≤ 99 := by
  have w0 := hw.1
  have hpos := zCnt_pos hs w0
  have hcnt := zSel_cnt (f := zWP h k) (n := h 0) (s := s) (by omega) w0
  exact zMid_rng (zWP_ok hw hk) (by omega) (hw.2.2.2.2.2.1 k hk.1 hk.2)
section SETS
variable {ar : Nat → Nat × (Nat → Int32)} {d t : Nat} {K : Nat → Nat → Option Nat} {A : Nat → Int → Int} {O : Nat → Int64}
theorem c_setMid {k s : Int} (hI : zInv A) (hk : 0 ≤ k ∧ k < 4) (hs : 0 < s ∧ s ≤ zAll (A 186 0)) {B : Nat → Int → Int} (hB : ∀ c, c < 173 → B c = A c) : ∃ C, mGd ar (d + 2) 189 0 [.ref 183, .int (zI s), .int (zI k)] [] (zW K B O t) = some (.inl (some (.int (zI (zMs (A 186) k s)))), zW K C O t) ∧ ∀ c, c ≠ 173 → c ≠ 174 → C c = B c := by
  obtain ⟨hw, hr, e0, w0⟩ := zInv_f hI
  have hr2 : zHR0 B 3 (A 186) := zHR0_same5 (fun c h1 h2 => hB c (by omega)) hr
  have wr := hw.2.2.2.2.2.1 k hk.1 hk.2
  have rr := hr2.2.2.2.2.2.1 k hk.1 hk.2
  have hl := zAll_lt w0
  obtain ⟨C, f1, f2, f3⟩ := c_fill (d := d) (K := K) (O := O) (t := t) (ar := ar) (A := B) isHall3 (k := k) (s := s) (zHOk_of_HR hw hr2) hk (by omega)
  rw [zHP_sel hr2 hk] at f2
  have hpos := zCnt_pos hs w0
  have hcnt := zSel_cnt (f := zWP (A 186) k) (n := A 186 0) (s := s) (by omega) w0
  have cb := c_by (d := d) (K := K) (O := O) (t := t) (ar := ar) (r := A 186 (7 + k)) f2 (zWP_ok hw hk) (by omega) wr
  have e6 : C 6 k = A 186 (7 + k) := by rw [f3 _ (by decide) (by decide)]; exact rr
  refine ⟨C, ?_, f3⟩
  unfold zMs
  simp (disch := first | assumption | omega | exact zr_and | exact zr_or | exact zr_xor | exact zr_shl | exact zr_shr | exact zr_ushr | exact zr_byte | exact isHall3 | exact isLaw12) only [i189_0, i189_13, i189_29, f1, e6, cb, mB1_i, mB0_i, mB1n_i, mB0n_i, mB1_x, mB0_x, ↓if_pos, ↓if_neg, if_true, if_false, if_pos, if_neg]
/-- nobody: no middle -/
theorem c_setMid0 {k : Int} (hI : zInv A) (hk : 0 ≤ k ∧ k < 4) (hp : A 186 0 = 0) {B : Nat → Int → Int} (hB : ∀ c, c < 173 → B c = A c) : ∃ C, mGd ar (d + 2) 189 0 [.ref 183, .int (zI 0), .int (zI k)] [] (zW K B O t) = some (.inl (some (.int (zI (-1)))), zW K C O t) ∧ ∀ c, c ≠ 173 → c ≠ 174 → C c = B c := by
  obtain ⟨hw, hr, e0, w0⟩ := zInv_f hI
  have hr2 : zHR0 B 3 (A 186) := zHR0_same5 (fun c h1 h2 => hB c (by omega)) hr
  have rr := hr2.2.2.2.2.2.1 k hk.1 hk.2
  obtain ⟨C, f1, f2, f3⟩ := c_fill (d := d) (K := K) (O := O) (t := t) (ar := ar) (A := B) isHall3 (k := k) (s := 0) (zHOk_of_HR hw hr2) hk (by decide)
  rw [zHP_sel hr2 hk, hp] at f2
  have cb := c_by0 (d := d + 1) (K := K) (O := O) (t := t) (ar := ar) (r := A 186 (7 + k)) f2
  have e6 : C 6 k = A 186 (7 + k) := by rw [f3 _ (by decide) (by decide)]; exact rr
  refine ⟨C, ?_, f3⟩
  simp (disch := first | assumption | omega | exact zr_and | exact zr_or | exact zr_xor | exact zr_shl | exact zr_shr | exact zr_ushr | exact zr_byte | exact isHall3 | exact isLaw12) only [i189_0, i189_13, i189_29, f1, e6, cb, mB1_i, mB0_i, mB1n_i, mB0n_i, mB1_x, mB0_x, ↓if_pos, ↓if_neg, if_true, if_false, if_pos, if_neg]
/-- in how many sets: terms -/
noncomputable def zSt (h : Int → Int) (k z e : Int) (al : Bool) (s : Int) : Int := if zCnt s = z ∧ (al = true ∨ zAbs (zMs h k s - zMs h k (zAll (h 0))) ≤ e) then 1 else 0
theorem q_samples {k z e s : Int} (hI : zInv A) (h_k : -2147483648 ≤ k ∧ k < 2147483648) (h_z : -2147483648 ≤ z ∧ z < 2147483648) (h_e : -2147483648 ≤ e ∧ e < 2147483648) (hs : s = 0 ∨ s = 1) : zQ ar K O t (d + 12) 186 [.ref 0, .int (zI k), .int (zI z), .int (zI e), .int (zI s)] 325 [.ref 185, .int (zI k), .int (zI z), .int (zI e), .int (zI s), .double 0, .double 0] (fun E => if E = 2 then 1 else if E = 0 then 2 else 0) A := by
  obtain ⟨hw, hr, e0, w0⟩ := zInv_f hI
  have u6 : ∀ v, zU A 185 0 v 186 = A 186 := fun v => zU_r (by decide)
  have M1 : ∀ (B : Nat → Int → Int) (O' : Nat → Int64) (t' : Nat), B 186 = A 186 → mGd ar (d + 11) 257 0 [.int (zI k)] [] (zW K B O' t') = some (.inl (some (.int (zI (if 0 ≤ k ∧ k < 4 then 0 else 1)))), zW K B O' t') := fun B O' t' e => c_noKind (d := (d + 10)) h_k
  have M2 : ∀ (B : Nat → Int → Int) (O' : Nat → Int64) (t' : Nat), B 186 = A 186 → mGd ar (d + 11) 256 0 [.int (zI z), .int (zI 1), .int (zI 8)] [] (zW K B O' t') = some (.inl (some (.int (zI (if 1 ≤ z ∧ z ≤ 8 then 1 else 0)))), zW K B O' t') := fun B O' t' e => c_in (d := (d + 11)) h_z (by decide) (by decide)
  have M3 : ∀ (B : Nat → Int → Int) (O' : Nat → Int64) (t' : Nat), B 186 = A 186 → mGd ar (d + 11) 277 0 [.int (zI e)] [] (zW K B O' t') = some (.inl (some (.int (zI (if 0 ≤ e ∧ e ≤ 99 then 0 else 1)))), zW K B O' t') := fun B O' t' e => c_noNumber (d := (d + 10)) h_e
  by_cases g1 : 0 ≤ k ∧ k < 4
  case neg =>
    have k1 := c_nKindX (d := (d + 11)) (K := K) (O := O) (t := t) (ar := ar) (A := A) (p := k) h_k g1
    refine zQ_ex (E := 2) hI ?_ (by decide) (fun O' t' => ⟨0, zU A 185 0 1, ?_, zU_at, zFm_u⟩)
    · simp (disch := first | assumption | omega | exact zr_and | exact zr_or | exact zr_xor | exact zr_shl | exact zr_shr | exact zr_ushr | exact zr_byte | exact isHall3 | exact isLaw12) only [i186_0, i186_5, i186_13, i186_21, i186_26, i186_34, i186_37, i186_47, k1, mB1_i, mB0_i, mB1n_i, mB0n_i, mB1_x, mB0_x, ↓if_pos, ↓if_neg, if_true, if_false, if_pos, if_neg]
    · have n1 := M1 (zU A 185 0 0) O' t' (u6 0)
      rw [if_neg (by omega)] at n1
      simp (disch := first | assumption | omega | exact zr_and | exact zr_or | exact zr_xor | exact zr_shl | exact zr_shr | exact zr_ushr | exact zr_byte | exact isHall3 | exact isLaw12) only [i325_0, i325_10, i325_14, i325_17, i325_25, i325_28, i325_32, i325_35, i325_39, i325_40, i325_44, i325_47, i325_49, i325_54, i325_60, i325_66, i325_69, i325_74, i325_78, i325_81, i325_88, i325_94, i325_99, i325_105, i325_109, i325_112, i325_116, i325_120, i325_124, i325_125, i325_128, i325_134, n1, c_thr0, c_thr1, zU_uu, i233_0, zU_c, mB1_i, mB0_i, mB1n_i, mB0n_i, mB1_x, mB0_x, ↓if_pos, ↓if_neg, if_true, if_false, if_pos, if_neg]
  have k1 := c_nKind (d := (d + 11)) (K := K) (O := O) (t := t) (ar := ar) (A := A) (p := k) g1
  have m1 : ∀ (B : Nat → Int → Int) (O' : Nat → Int64) (t' : Nat), B 186 = A 186 → mGd ar (d + 11) 257 0 [.int (zI k)] [] (zW K B O' t') = some (.inl (some (.int (zI 0))), zW K B O' t') := fun B O' t' e => by have q := M1 B O' t' e; rwa [if_pos (by omega)] at q
  by_cases g2 : 1 ≤ z ∧ z ≤ 8
  case neg =>
    have k2 := c_nNumberX (d := (d + 11)) (K := K) (O := O) (t := t) (ar := ar) (A := A) (p := z) (x := 1) (y := 8) h_z g2 (by decide)
    refine zQ_ex (E := 0) hI ?_ (by decide) (fun O' t' => ⟨0, zU A 185 0 2, ?_, zU_at, zFm_u⟩)
    · simp (disch := first | assumption | omega | exact zr_and | exact zr_or | exact zr_xor | exact zr_shl | exact zr_shr | exact zr_ushr | exact zr_byte | exact isHall3 | exact isLaw12) only [i186_0, i186_5, i186_13, i186_21, i186_26, i186_34, i186_37, i186_47, k1, k2, mB1_i, mB0_i, mB1n_i, mB0n_i, mB1_x, mB0_x, ↓if_pos, ↓if_neg, if_true, if_false, if_pos, if_neg]
    · have n1 := M1 (zU A 185 0 0) O' t' (u6 0)
      rw [if_pos (by omega)] at n1
      have n2 := M2 (zU A 185 0 0) O' t' (u6 0)
      rw [if_neg (by omega)] at n2
      simp (disch := first | assumption | omega | exact zr_and | exact zr_or | exact zr_xor | exact zr_shl | exact zr_shr | exact zr_ushr | exact zr_byte | exact isHall3 | exact isLaw12) only [i325_0, i325_10, i325_14, i325_17, i325_25, i325_28, i325_32, i325_35, i325_39, i325_40, i325_44, i325_47, i325_49, i325_54, i325_60, i325_66, i325_69, i325_74, i325_78, i325_81, i325_88, i325_94, i325_99, i325_105, i325_109, i325_112, i325_116, i325_120, i325_124, i325_125, i325_128, i325_134, n1, n2, c_thr0, c_thr1, zU_uu, i233_0, zU_c, mB1_i, mB0_i, mB1n_i, mB0n_i, mB1_x, mB0_x, ↓if_pos, ↓if_neg, if_true, if_false, if_pos, if_neg]
  have k2 := c_nNumber (d := (d + 11)) (K := K) (O := O) (t := t) (ar := ar) (A := A) (p := z) (x := 1) (y := 8) g2 (by decide)
  have m2 : ∀ (B : Nat → Int → Int) (O' : Nat → Int64) (t' : Nat), B 186 = A 186 → mGd ar (d + 11) 256 0 [.int (zI z), .int (zI 1), .int (zI 8)] [] (zW K B O' t') = some (.inl (some (.int (zI 1))), zW K B O' t') := fun B O' t' e => by have q := M2 B O' t' e; rwa [if_pos (by omega)] at q
  by_cases g3 : 0 ≤ e ∧ e ≤ 99
  case neg =>
    have k3 := c_nNumberX (d := (d + 11)) (K := K) (O := O) (t := t) (ar := ar) (A := A) (p := e) (x := 0) (y := 99) h_e g3 (by decide)
    refine zQ_ex (E := 0) hI ?_ (by decide) (fun O' t' => ⟨0, zU A 185 0 2, ?_, zU_at, zFm_u⟩)
    · simp (disch := first | assumption | omega | exact zr_and | exact zr_or | exact zr_xor | exact zr_shl | exact zr_shr | exact zr_ushr | exact zr_byte | exact isHall3 | exact isLaw12) only [i186_0, i186_5, i186_13, i186_21, i186_26, i186_34, i186_37, i186_47, k1, k2, k3, mB1_i, mB0_i, mB1n_i, mB0n_i, mB1_x, mB0_x, ↓if_pos, ↓if_neg, if_true, if_false, if_pos, if_neg]
    · have n1 := M1 (zU A 185 0 0) O' t' (u6 0)
      rw [if_pos (by omega)] at n1
      have n2 := M2 (zU A 185 0 0) O' t' (u6 0)
      rw [if_pos (by omega)] at n2
      have n3 := M3 (zU A 185 0 0) O' t' (u6 0)
      rw [if_neg (by omega)] at n3
      simp (disch := first | assumption | omega | exact zr_and | exact zr_or | exact zr_xor | exact zr_shl | exact zr_shr | exact zr_ushr | exact zr_byte | exact isHall3 | exact isLaw12) only [i325_0, i325_10, i325_14, i325_17, i325_25, i325_28, i325_32, i325_35, i325_39, i325_40, i325_44, i325_47, i325_49, i325_54, i325_60, i325_66, i325_69, i325_74, i325_78, i325_81, i325_88, i325_94, i325_99, i325_105, i325_109, i325_112, i325_116, i325_120, i325_124, i325_125, i325_128, i325_134, n1, n2, n3, c_thr0, c_thr1, zU_uu, i233_0, zU_c, mB1_i, mB0_i, mB1n_i, mB0n_i, mB1_x, mB0_x, ↓if_pos, ↓if_neg, if_true, if_false, if_pos, if_neg]
  have k3 := c_nNumber (d := (d + 11)) (K := K) (O := O) (t := t) (ar := ar) (A := A) (p := e) (x := 0) (y := 99) g3 (by decide)
  have m3 : ∀ (B : Nat → Int → Int) (O' : Nat → Int64) (t' : Nat), B 186 = A 186 → mGd ar (d + 11) 277 0 [.int (zI e)] [] (zW K B O' t') = some (.inl (some (.int (zI 0))), zW K B O' t') := fun B O' t' e => by have q := M3 B O' t' e; rwa [if_pos (by omega)] at q
  have hl := zAll_lt w0
  have wr := hw.2.2.2.2.2.1 k g1.1 g1.2
  have rr := hr.2.2.2.2.2.1 k g1.1 g1.2
  have t01 : ∀ al s, 0 ≤ zSt (A 186) k z e al s ∧ zSt (A 186) k z e al s ≤ 1 := fun al s => by unfold zSt; split <;> omega
  have hv : ∀ al, 0 ≤ zSm (zSt (A 186) k z e al) 1 (zAll (A 186 0)).toNat ∧ zSm (zSt (A 186) k z e al) 1 (zAll (A 186 0)).toNat ≤ 256 := fun al => by
    have := zSm_rng (f := zSt (A 186) k z e al) (c := 1) (m := (zAll (A 186 0)).toNat) (p := 1) (fun i _ _ => t01 al i)
    omega
  have z0 : ∀ al, zSt (A 186) k z e al 0 = 0 := fun al => by
    have : zCnt 0 = 0 := by decide
    unfold zSt
    rw [if_neg]
    intro q
    omega
  have zsum : ∀ al, zSm (zSt (A 186) k z e al) 0 ((zAll (A 186 0)).toNat + 1) = zSm (zSt (A 186) k z e al) 1 (zAll (A 186 0)).toNat := fun al => by
    show zSt (A 186) k z e al 0 + zSm (zSt (A 186) k z e al) (0 + 1) (zAll (A 186 0)).toNat = _
    rw [z0]
    exact Int.zero_add _
  -- the reference
  have ref : ∀ (B' : Nat → Int → Int), zFc A B' → ∀ (O' : Nat → Int64) (t' : Nat), ∃ A2, mGd ar (d + 12) 325 0 [.ref 185, .int (zI k), .int (zI z), .int (zI e), .int (zI s), .double 0, .double 0] [] (zW K B' O' t') = some (.inl (some (.int (zI (zSm (zSt (A 186) k z e (decide (s = 1))) 1 (zAll (A 186 0)).toNat)))), zW K A2 O' t') ∧ A2 185 0 = 0 ∧ zFm B' A2 := fun B' hB' O' t' => by
    have u7 : zU B' 185 0 0 186 = A 186 := by rw [zU_r (by decide), zFc_186 hB']
    have n1 := m1 (zU B' 185 0 0) O' t' u7
    have n2 := m2 (zU B' 185 0 0) O' t' u7
    have n3 := m3 (zU B' 185 0 0) O' t' u7
    obtain ⟨A2, s1, s2, s3, s4, s5, s6, s7⟩ := c_laidAll (d := d + 9) (K := K) (O := O') (t := t') (ar := ar) (B := zU B' 185 0 0) hw u7 g1
    have l2 : ∀ (m : Nat) (x n : Int) (C : Nat → Int → Int), x + m = zAll (A 186 0) + 1 → 1 ≤ x → zFr A2 C → zLd (A 186) k C → ∃ C', mGd ar (d + 12) 325 60 [.ref 185, .int (zI k), .int (zI z), .int (zI e), .int (zI s), .int (zI n), .int (zI x)] [] (zW K C O' t') = some (.inl (some (.int (zI (n + zSm (zSt (A 186) k z e (decide (s = 1))) x m)))), zW K C' O' t') ∧ zFr A2 C' := by
      intro m
      induction m with
      | zero =>
        intro x n C hx x0 hf hC
        have ca := c_all (d := d + 10) (K := K) (O := O') (t := t') (ar := ar) (A := C) (by rw [hC.1]; exact w0)
        rw [hC.1] at ca
        refine ⟨C, ?_, hf⟩
        rw [show n + zSm (zSt (A 186) k z e (decide (s = 1))) x 0 = n from Int.add_zero _]
        simp (disch := first | assumption | omega | exact zr_and | exact zr_or | exact zr_xor | exact zr_shl | exact zr_shr | exact zr_ushr | exact zr_byte | exact isHall3 | exact isLaw12) only [i325_10, i325_14, i325_17, i325_25, i325_28, i325_32, i325_35, i325_39, i325_40, i325_44, i325_47, i325_49, i325_54, i325_60, i325_66, i325_69, i325_74, i325_78, i325_81, i325_88, i325_94, i325_99, i325_105, i325_109, i325_112, i325_116, i325_120, i325_124, i325_125, i325_128, i325_134, ca, mB1_i, mB0_i, mB1n_i, mB0n_i, mB1_x, mB0_x, ↓if_pos, ↓if_neg, if_true, if_false, if_pos, if_neg]
      | succ m ih =>
        intro x n C hx x0 hf hC
        have ca := c_all (d := d + 10) (K := K) (O := O') (t := t') (ar := ar) (A := C) (by rw [hC.1]; exact w0)
        rw [hC.1] at ca
        have cc := c_bits (d := d + 11) (K := K) (O := O') (t := t') (ar := ar) (A := C) (s := x) (by omega)
        have rc := zCnt_rng (s := x)
        rw [show n + zSm (zSt (A 186) k z e (decide (s = 1))) x (m + 1) = n + zSt (A 186) k z e (decide (s = 1)) x + zSm (zSt (A 186) k z e (decide (s = 1))) (x + 1) m from (Int.add_assoc _ _ _).symm, i325_60]
        by_cases hz : zCnt x = z
        · rcases hs with rfl | rfl
          · -- by middles
            have eR : C 186 (7 + k) = A 186 (7 + k) := by rw [hC.1]
            obtain ⟨C1, d1, d2⟩ := c_middleOf (d := d + 8) (K := K) (O := O') (t := t') (ar := ar) (A := C) (r := A 186 (7 + k)) (s := x) hC.2.1 (by rw [hC.1]; omega) wr
            have eS : zSel x (zRP C) 0 (C 186 0).toNat = zSel x (zWP (A 186) k) 0 (A 186 0).toNat := by
              rw [hC.1]
              refine zSel_congr (fun i i1 i2 => ⟨rfl, fun _ => ?_⟩)
              unfold zRP zWP
              rw [hC.1, hC.2.2 i i1 (by omega)]
            rw [eS] at d1
            have d3 := zLd_fr hC d2
            have eR1 : C1 186 (7 + k) = A 186 (7 + k) := by rw [d3.1]
            have ca1 := c_all (d := d + 10) (K := K) (O := O') (t := t') (ar := ar) (A := C1) (by rw [d3.1]; exact w0)
            rw [d3.1] at ca1
            obtain ⟨C2, e1, e2, e3⟩ := c_midAllBy (d := d + 8) (K := K) (O := O') (t := t') (ar := ar) (r := A 186 (7 + k)) (h := A 186) (k := k) (by
              by_cases hp : A 186 0 = 0
              · rw [hp] at hx
                have : zAll 0 = 0 := by decide
                omega
              · omega) hw wr d3
            have r1 := zMs_rng hw g1 (s := x) (by omega)
            have r2 := zMs_rng hw g1 (s := zAll (A 186 0)) (by omega)
            have d1' : mGd ar (d + 11) 265 0 [.ref 185, .int (zI (A 186 (7 + k))), .int (zI x)] [] (zW K C O' t') = some (.inl (some (.int (zI (zMs (A 186) k x)))), zW K C1 O' t') := d1
            have e1' : mGd ar (d + 11) 265 0 [.ref 185, .int (zI (A 186 (7 + k))), .int (zI (zAll (A 186 0)))] [] (zW K C1 O' t') = some (.inl (some (.int (zI (zMs (A 186) k (zAll (A 186 0)))))), zW K C2 O' t') := e1
            have cab := c_abs (d := d + 11) (K := K) (O := O') (t := t') (ar := ar) (A := C2) (x := zMs (A 186) k x - zMs (A 186) k (zAll (A 186 0))) (by omega)
            have rab := zAbs_rng (x := zMs (A 186) k x - zMs (A 186) k (zAll (A 186 0))) (by omega)
            have hf2 : zFr A2 C2 := ⟨fun j hj => by rw [e2.1 j hj, d2.1 j hj, hf.1 j hj], fun c c1 c2 => by rw [e2.2 c c1 c2, d2.2 c c1 c2, hf.2 c c1 c2]⟩
            by_cases hc : zAbs (zMs (A 186) k x - zMs (A 186) k (zAll (A 186 0))) ≤ e
            · obtain ⟨C', q1, q2⟩ := ih (x + 1) (n + 1) C2 (by omega) (by omega) hf2 e3
              refine ⟨C', ?_, q2⟩
              rw [show zSt (A 186) k z e (decide ((0 : Int) = 1)) x = 1 from if_pos ⟨hz, Or.inr hc⟩, ← q1]
              simp (disch := first | assumption | omega | exact zr_and | exact zr_or | exact zr_xor | exact zr_shl | exact zr_shr | exact zr_ushr | exact zr_byte | exact isHall3 | exact isLaw12) only [i325_10, i325_14, i325_17, i325_25, i325_28, i325_32, i325_35, i325_39, i325_40, i325_44, i325_47, i325_49, i325_54, i325_66, i325_69, i325_74, i325_78, i325_81, i325_88, i325_94, i325_99, i325_105, i325_109, i325_112, i325_116, i325_120, i325_124, i325_125, i325_128, i325_134, ca, cc, i280_0, eR, d1', eR1, ca1, e1', cab, mB1_i, mB0_i, mB1n_i, mB0n_i, mB1_x, mB0_x, ↓if_pos, ↓if_neg, if_true, if_false, if_pos, if_neg]
            · obtain ⟨C', q1, q2⟩ := ih (x + 1) n C2 (by omega) (by omega) hf2 e3
              refine ⟨C', ?_, q2⟩
              rw [show zSt (A 186) k z e (decide ((0 : Int) = 1)) x = 0 from if_neg (fun q => by rcases q.2 with q | q
                                                                                                 · exact absurd q (by decide)
                                                                                                 · exact hc q), Int.add_zero, ← q1]
              simp (disch := first | assumption | omega | exact zr_and | exact zr_or | exact zr_xor | exact zr_shl | exact zr_shr | exact zr_ushr | exact zr_byte | exact isHall3 | exact isLaw12) only [i325_10, i325_14, i325_17, i325_25, i325_28, i325_32, i325_35, i325_39, i325_40, i325_44, i325_47, i325_49, i325_54, i325_66, i325_69, i325_74, i325_78, i325_81, i325_88, i325_94, i325_99, i325_105, i325_109, i325_112, i325_116, i325_120, i325_124, i325_125, i325_128, i325_134, ca, cc, i280_0, eR, d1', eR1, ca1, e1', cab, Int.add_zero, mB1_i, mB0_i, mB1n_i, mB0n_i, mB1_x, mB0_x, ↓if_pos, ↓if_neg, if_true, if_false, if_pos, if_neg]
          · obtain ⟨C', q1, q2⟩ := ih (x + 1) (n + 1) C (by omega) (by omega) hf hC
            refine ⟨C', ?_, q2⟩
            rw [show zSt (A 186) k z e (decide ((1 : Int) = 1)) x = 1 from if_pos ⟨hz, Or.inl rfl⟩, ← q1]
            simp (disch := first | assumption | omega | exact zr_and | exact zr_or | exact zr_xor | exact zr_shl | exact zr_shr | exact zr_ushr | exact zr_byte | exact isHall3 | exact isLaw12) only [i325_10, i325_14, i325_17, i325_25, i325_28, i325_32, i325_35, i325_39, i325_40, i325_44, i325_47, i325_49, i325_54, i325_66, i325_69, i325_74, i325_78, i325_81, i325_88, i325_94, i325_99, i325_105, i325_109, i325_112, i325_116, i325_120, i325_124, i325_125, i325_128, i325_134, ca, cc, mB1_i, mB0_i, mB1n_i, mB0n_i, mB1_x, mB0_x, ↓if_pos, ↓if_neg, if_true, if_false, if_pos, if_neg]
        · obtain ⟨C', q1, q2⟩ := ih (x + 1) n C (by omega) (by omega) hf hC
          refine ⟨C', ?_, q2⟩
          rw [show zSt (A 186) k z e (decide (s = 1)) x = 0 from if_neg (fun q => hz q.1), Int.add_zero, ← q1]
          simp (disch := first | assumption | omega | exact zr_and | exact zr_or | exact zr_xor | exact zr_shl | exact zr_shr | exact zr_ushr | exact zr_byte | exact isHall3 | exact isLaw12) only [i325_10, i325_14, i325_17, i325_25, i325_28, i325_32, i325_35, i325_39, i325_40, i325_44, i325_47, i325_49, i325_54, i325_66, i325_69, i325_74, i325_78, i325_81, i325_88, i325_94, i325_99, i325_105, i325_109, i325_112, i325_116, i325_120, i325_124, i325_125, i325_128, i325_134, ca, cc, mB1_i, mB0_i, mB1n_i, mB0n_i, mB1_x, mB0_x, ↓if_pos, ↓if_neg, if_true, if_false, if_pos, if_neg]
    obtain ⟨A3, p1, p2⟩ := l2 (zAll (A 186 0)).toNat 1 0 A2 (by omega) (by omega) zFr_refl ⟨s3, s4, s7⟩
    rw [Int.zero_add] at p1
    have hz := zFm_0 (A := B') (A' := A3) (zFt_trans s2 (zFt_fr p2))
    refine ⟨A3, ?_, hz.1, hz.2⟩
    rw [← p1]
    simp (disch := first | assumption | omega | exact zr_and | exact zr_or | exact zr_xor | exact zr_shl | exact zr_shr | exact zr_ushr | exact zr_byte | exact isHall3 | exact isLaw12) only [i325_0, i325_10, i325_14, i325_17, i325_25, i325_28, i325_32, i325_35, i325_39, i325_40, i325_44, i325_47, i325_49, i325_54, i325_66, i325_69, i325_74, i325_78, i325_81, i325_88, i325_94, i325_99, i325_105, i325_109, i325_112, i325_116, i325_120, i325_124, i325_125, i325_128, i325_134, n1, n2, n3, c_thr0, s1, mB1_i, mB0_i, mB1n_i, mB0n_i, mB1_x, mB0_x, ↓if_pos, ↓if_neg, if_true, if_false, if_pos, if_neg]
  have ce : ∀ B : Nat → Int → Int, B 3 = A 3 → mGd ar (d + 10) 24 0 [.ref 3] [] (zW K B O t) = some (.inl (some (.int (zI (zAll (A 186 0))))), zW K B O t) := fun B hB => by
    have := c_everyone (d := d + 10) (K := K) (O := O) (t := t) (ar := ar) (A := B) isHall3 (by rw [hB, e0]; exact w0)
    rw [hB, e0] at this
    exact this
  rcases hs with rfl | rfl
  · by_cases hp : 0 < A 186 0
    · obtain ⟨B0, f1, f2⟩ := c_midAll (d := d + 8) (K := K) (O := O) (t := t) (ar := ar) (A := A) isHall3 (k := k) (r := A 186 (7 + k)) (zHOk_of_HR hw hr) g1 wr (by omega)
      rw [zHP_sel hr g1, e0] at f1
      have f1' : mGd ar (d + 10) 23 0 [.ref 3, .ref 173, .int (zI k), .int (zI (A 186 (7 + k)))] [] (zW K A O t) = some (.inl (some (.int (zI (zMs (A 186) k (zAll (A 186 0)))))), zW K B0 O t) := f1
      have r2 := zMs_rng hw g1 (s := zAll (A 186 0)) ⟨zAll_pos (by omega), Int.le_refl _⟩
      have l1 : ∀ (m : Nat) (x n : Int) (C : Nat → Int → Int), x + m = zAll (A 186 0) + 1 → 0 ≤ x → (∀ c, c ≠ 173 → c ≠ 174 → C c = A c) → ∃ C', mGd ar (d + 11) 188 33 [.ref 183, .int (zI k), .int (zI z), .int (zI e), .int (zI (A 186 (7 + k))), .int (zI (zMs (A 186) k (zAll (A 186 0)))), .int (zI n), .int (zI x)] [] (zW K C O t) = some (.inl (some (.int (zI (n + zSm (zSt (A 186) k z e false) x m)))), zW K C' O t) ∧ ∀ c, c ≠ 173 → c ≠ 174 → C' c = A c := by
        intro m
        induction m with
        | zero =>
          intro x n C hx x0 hC
          have c1 := ce C (hC 3 (by decide) (by decide))
          refine ⟨C, ?_, hC⟩
          rw [show n + zSm (zSt (A 186) k z e false) x 0 = n from Int.add_zero _]
          simp (disch := first | assumption | omega | exact zr_and | exact zr_or | exact zr_xor | exact zr_shl | exact zr_shr | exact zr_ushr | exact zr_byte | exact isHall3 | exact isLaw12) only [i188_25, i188_33, i188_42, i188_45, i188_50, i188_54, i188_61, i188_67, i188_71, i188_74, i188_80, c1, mB1_i, mB0_i, mB1n_i, mB0n_i, mB1_x, mB0_x, ↓if_pos, ↓if_neg, if_true, if_false, if_pos, if_neg]
        | succ m ih =>
          intro x n C hx x0 hC
          have c1 := ce C (hC 3 (by decide) (by decide))
          have cc := c_bits (d := d + 10) (K := K) (O := O) (t := t) (ar := ar) (A := C) (s := x) (by omega)
          have rc := zCnt_rng (s := x)
          rw [show n + zSm (zSt (A 186) k z e false) x (m + 1) = n + zSt (A 186) k z e false x + zSm (zSt (A 186) k z e false) (x + 1) m from (Int.add_assoc _ _ _).symm, i188_33]
          by_cases hz : zCnt x = z
          · have hx1 := zCnt_0 (s := x) (by omega) (by omega)
            obtain ⟨C1, d1, d2⟩ := c_setMid (d := d + 8) (K := K) (O := O) (t := t) (ar := ar) hI g1 (s := x) (by omega) (B := C) (fun c hc => hC c (by omega) (by omega))
            have hC1 : ∀ c, c ≠ 173 → c ≠ 174 → C1 c = A c := fun c c1 c2 => by rw [d2 c c1 c2, hC c c1 c2]
            have r1 := zMs_rng hw g1 (s := x) (by omega)
            have cab := c_abs (d := d + 10) (K := K) (O := O) (t := t) (ar := ar) (A := C1) (x := zMs (A 186) k x - zMs (A 186) k (zAll (A 186 0))) (by omega)
            have rab := zAbs_rng (x := zMs (A 186) k x - zMs (A 186) k (zAll (A 186 0))) (by omega)
            by_cases hc : zAbs (zMs (A 186) k x - zMs (A 186) k (zAll (A 186 0))) ≤ e
            · obtain ⟨C', q1, q2⟩ := ih (x + 1) (n + 1) C1 (by omega) (by omega) hC1
              refine ⟨C', ?_, q2⟩
              rw [show zSt (A 186) k z e false x = 1 from if_pos ⟨hz, Or.inr hc⟩, ← q1]
              simp (disch := first | assumption | omega | exact zr_and | exact zr_or | exact zr_xor | exact zr_shl | exact zr_shr | exact zr_ushr | exact zr_byte | exact isHall3 | exact isLaw12) only [i188_25, i188_42, i188_45, i188_50, i188_54, i188_61, i188_67, i188_71, i188_74, i188_80, c1, cc, d1, cab, mB1_i, mB0_i, mB1n_i, mB0n_i, mB1_x, mB0_x, ↓if_pos, ↓if_neg, if_true, if_false, if_pos, if_neg]
            · obtain ⟨C', q1, q2⟩ := ih (x + 1) n C1 (by omega) (by omega) hC1
              refine ⟨C', ?_, q2⟩
              rw [show zSt (A 186) k z e false x = 0 from if_neg (fun q => by rcases q.2 with q | q
                                                                              · exact absurd q (by decide)
                                                                              · exact hc q), Int.add_zero, ← q1]
              simp (disch := first | assumption | omega | exact zr_and | exact zr_or | exact zr_xor | exact zr_shl | exact zr_shr | exact zr_ushr | exact zr_byte | exact isHall3 | exact isLaw12) only [i188_25, i188_42, i188_45, i188_50, i188_54, i188_61, i188_67, i188_71, i188_74, i188_80, c1, cc, d1, cab, mB1_i, mB0_i, mB1n_i, mB0n_i, mB1_x, mB0_x, ↓if_pos, ↓if_neg, if_true, if_false, if_pos, if_neg]
          · obtain ⟨C', q1, q2⟩ := ih (x + 1) n C (by omega) (by omega) hC
            refine ⟨C', ?_, q2⟩
            rw [show zSt (A 186) k z e false x = 0 from if_neg (fun q => hz q.1), Int.add_zero, ← q1]
            simp (disch := first | assumption | omega | exact zr_and | exact zr_or | exact zr_xor | exact zr_shl | exact zr_shr | exact zr_ushr | exact zr_byte | exact isHall3 | exact isLaw12) only [i188_25, i188_42, i188_45, i188_50, i188_54, i188_61, i188_67, i188_71, i188_74, i188_80, c1, cc, mB1_i, mB0_i, mB1n_i, mB0n_i, mB1_x, mB0_x, ↓if_pos, ↓if_neg, if_true, if_false, if_pos, if_neg]
      obtain ⟨B', q1, q2⟩ := l1 ((zAll (A 186 0)).toNat + 1) 0 0 B0 (by omega) (by omega) f2
      rw [Int.zero_add, zsum] at q1
      have hvv := hv false
      refine zQ_ok (b := zSm (zSt (A 186) k z e false) 1 (zAll (A 186 0)).toNat) (A1 := B') hI ?_ (zFc_bag q2) (by omega) (ref B' (zFc_bag q2))
      simp (disch := first | assumption | omega | exact zr_and | exact zr_or | exact zr_xor | exact zr_shl | exact zr_shr | exact zr_ushr | exact zr_byte | exact isHall3 | exact isLaw12) only [i186_0, i186_5, i186_13, i186_21, i186_26, i186_34, i186_37, i186_47, k1, k2, k3, i188_0, i188_25, i188_42, i188_45, i188_50, i188_54, i188_61, i188_67, i188_71, i188_74, i188_80, rr, f1', q1, mB1_i, mB0_i, mB1n_i, mB0n_i, mB1_x, mB0_x, ↓if_pos, ↓if_neg, if_true, if_false, if_pos, if_neg]
    · have hp0 : A 186 0 = 0 := by omega
      have ha0 : zAll (A 186 0) = 0 := by rw [hp0]; decide
      obtain ⟨B0, f1, f2, f3⟩ := c_fillAll (d := d + 8) (K := K) (O := O) (t := t) (ar := ar) hI g1
      have hnil : zAP (A 186) k = [] := List.eq_nil_of_length_eq_zero (by have := zAP_len (h := A 186) (k := k) w0; omega)
      rw [hnil] at f2
      have cb := c_by0 (d := d + 9) (K := K) (O := O) (t := t) (ar := ar) (r := A 186 (7 + k)) f2
      have ce9 := c_everyone (d := d + 9) (K := K) (O := O) (t := t) (ar := ar) (A := A) isHall3 (by rw [e0]; exact w0)
      rw [e0] at ce9
      have c1 := ce B0 (f3 3 (by unfold zSc; omega))
      have cc := c_bits (d := d + 10) (K := K) (O := O) (t := t) (ar := ar) (A := B0) (s := 0) (by decide)
      have zc : zCnt 0 = 0 := by decide
      rw [zc] at cc
      rw [ha0] at c1 ce9 f1
      refine zQ_ok (b := zSm (zSt (A 186) k z e false) 1 (zAll (A 186 0)).toNat) (A1 := B0) hI ?_ f3 (by have := hv false; omega) (ref B0 f3)
      rw [ha0, show zSm (zSt (A 186) k z e false) 1 (Int.toNat 0) = 0 from rfl]
      simp (disch := first | assumption | omega | exact zr_and | exact zr_or | exact zr_xor | exact zr_shl | exact zr_shr | exact zr_ushr | exact zr_byte | exact isHall3 | exact isLaw12) only [i186_0, i186_5, i186_13, i186_21, i186_26, i186_34, i186_37, i186_47, k1, k2, k3, i188_0, i188_25, i188_33, i188_42, i188_45, i188_50, i188_54, i188_61, i188_67, i188_71, i188_74, i188_80, rr, i23_0, i23_7, i23_10, i23_15, ce9, f1, cb, c1, cc, mB1_i, mB0_i, mB1n_i, mB0n_i, mB1_x, mB0_x, ↓if_pos, ↓if_neg, if_true, if_false, if_pos, if_neg]
  · have l1 : ∀ (m : Nat) (x n : Int), x + m = zAll (A 186 0) + 1 → 0 ≤ x → mGd ar (d + 11) 187 4 [.ref 183, .int (zI z), .int (zI n), .int (zI x)] [] (zW K A O t) = some (.inl (some (.int (zI (n + zSm (zSt (A 186) k z e true) x m)))), zW K A O t) := by
      intro m
      induction m with
      | zero =>
        intro x n hx x0
        have c1 := ce A rfl
        rw [show n + zSm (zSt (A 186) k z e true) x 0 = n from Int.add_zero _]
        simp (disch := first | assumption | omega | exact zr_and | exact zr_or | exact zr_xor | exact zr_shl | exact zr_shr | exact zr_ushr | exact zr_byte | exact isHall3 | exact isLaw12) only [i187_4, i187_12, i187_15, i187_19, i187_23, i187_26, i187_32, c1, mB1_i, mB0_i, mB1n_i, mB0n_i, mB1_x, mB0_x, ↓if_pos, ↓if_neg, if_true, if_false, if_pos, if_neg]
      | succ m ih =>
        intro x n hx x0
        have c1 := ce A rfl
        have cc := c_bits (d := d + 10) (K := K) (O := O) (t := t) (ar := ar) (A := A) (s := x) (by omega)
        have rc := zCnt_rng (s := x)
        rw [show n + zSm (zSt (A 186) k z e true) x (m + 1) = n + zSt (A 186) k z e true x + zSm (zSt (A 186) k z e true) (x + 1) m from (Int.add_assoc _ _ _).symm, ← ih (x + 1) _ (by omega) (by omega), i187_4]
        by_cases hz : zCnt x = z
        · rw [show zSt (A 186) k z e true x = 1 from if_pos ⟨hz, Or.inl rfl⟩]
          simp (disch := first | assumption | omega | exact zr_and | exact zr_or | exact zr_xor | exact zr_shl | exact zr_shr | exact zr_ushr | exact zr_byte | exact isHall3 | exact isLaw12) only [i187_12, i187_15, i187_19, i187_23, i187_26, i187_32, c1, cc, mB1_i, mB0_i, mB1n_i, mB0n_i, mB1_x, mB0_x, ↓if_pos, ↓if_neg, if_true, if_false, if_pos, if_neg]
        · rw [show zSt (A 186) k z e true x = 0 from if_neg (fun q => hz q.1), Int.add_zero]
          simp (disch := first | assumption | omega | exact zr_and | exact zr_or | exact zr_xor | exact zr_shl | exact zr_shr | exact zr_ushr | exact zr_byte | exact isHall3 | exact isLaw12) only [i187_12, i187_15, i187_19, i187_23, i187_26, i187_32, c1, cc, mB1_i, mB0_i, mB1n_i, mB0n_i, mB1_x, mB0_x, ↓if_pos, ↓if_neg, if_true, if_false, if_pos, if_neg]
    have q1 := l1 ((zAll (A 186 0)).toNat + 1) 0 0 (by omega) (by omega)
    rw [Int.zero_add, zsum] at q1
    have hvv := hv true
    refine zQ_ok (b := zSm (zSt (A 186) k z e true) 1 (zAll (A 186 0)).toNat) (A1 := A) hI ?_ zFc_refl (by omega) (ref A zFc_refl)
    simp (disch := first | assumption | omega | exact zr_and | exact zr_or | exact zr_xor | exact zr_shl | exact zr_shr | exact zr_ushr | exact zr_byte | exact isHall3 | exact isLaw12) only [i186_0, i186_5, i186_13, i186_21, i186_26, i186_34, i186_37, i186_47, k1, k2, k3, i187_0, i187_12, i187_15, i187_19, i187_23, i187_26, i187_32, q1, mB1_i, mB0_i, mB1n_i, mB0n_i, mB1_x, mB0_x, ↓if_pos, ↓if_neg, if_true, if_false, if_pos, if_neg]
end SETS
