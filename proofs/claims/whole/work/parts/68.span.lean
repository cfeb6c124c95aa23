/-! CALLS, 16: span, ahead -/
def zSp (b : Int) (f : Int → Int) : Nat → Int → Int → Int
  | 0, _, e => e
  | m + 1, s, e => zSp b f m (s + 1) (if e < 0 then f s else if b = 0 then min e (f s) else max e (f s))
theorem zSp_rng {b : Int} {f : Int → Int} (hf : ∀ s, 0 ≤ f s ∧ f s ≤ 99) : ∀ {m : Nat} {s e : Int}, -1 ≤ e ∧ e ≤ 99 → -1 ≤ zSp b f m s e ∧ zSp b f m s e ≤ 99
  | 0, _, _, h => h
  | m + 1, s, e, h => by
    have := hf s
    exact zSp_rng (m := m) hf (by
      split
      · omega
      · split <;> omega)
section SPAN
variable {ar : Nat → Nat × (Nat → Int32)} {d t : Nat} {K : Nat → Nat → Option Nat} {A : Nat → Int → Int} {O : Nat → Int64}
theorem q_span {k n b : Int} (hI : zInv A) (h_k : -2147483648 ≤ k ∧ k < 2147483648) (h_n : -2147483648 ≤ n ∧ n < 2147483648) (hb : b = 0 ∨ b = 1) : zQ ar K O t (d + 12) 207 [.ref 0, .int (zI k), .int (zI n), .int (zI b), .double 0, .double 0, .double 0] 337 [.ref 185, .int (zI k), .int (zI n), .int (zI b), .double 0, .double 0, .double 0] (fun E => if E = 2 then 1 else if E = 0 then 2 else 0) A := by
  obtain ⟨hw, hr, e0, w0⟩ := zInv_f hI
  have u6 : ∀ v, zU A 185 0 v 186 = A 186 := fun v => zU_r (by decide)
  have M1 : ∀ (B : Nat → Int → Int) (O' : Nat → Int64) (t' : Nat), B 186 = A 186 → mGd ar (d + 11) 257 0 [.int (zI k)] [] (zW K B O' t') = some (.inl (some (.int (zI (if 0 ≤ k ∧ k < 4 then 0 else 1)))), zW K B O' t') := fun B O' t' e => c_noKind (d := (d + 10)) h_k
  have M2 : ∀ (B : Nat → Int → Int) (O' : Nat → Int64) (t' : Nat), B 186 = A 186 → mGd ar (d + 11) 256 0 [.int (zI n), .int (zI 0), .int (zI 60)] [] (zW K B O' t') = some (.inl (some (.int (zI (if 0 ≤ n ∧ n ≤ 60 then 1 else 0)))), zW K B O' t') := fun B O' t' e => c_in (d := (d + 11)) h_n (by decide) (by decide)
  by_cases g1 : 0 ≤ k ∧ k < 4
  case neg =>
    have k1 := c_nKindX (d := (d + 11)) (K := K) (O := O) (t := t) (ar := ar) (A := A) (p := k) h_k g1
    refine zQ_ex (E := 2) hI ?_ (by decide) (fun O' t' => ⟨0, zU A 185 0 1, ?_, zU_at, zFm_u⟩)
    · simp (disch := first | assumption | omega | exact zr_and | exact zr_or | exact zr_xor | exact zr_shl | exact zr_shr | exact zr_ushr | exact zr_byte | exact isHall3 | exact isLaw12) only [i207_0, i207_5, i207_13, i207_20, i207_25, i207_32, i207_40, i207_46, i207_53, i207_56, i207_63, i207_71, k1, mB1_i, mB0_i, mB1n_i, mB0n_i, mB1_x, mB0_x, ↓if_pos, ↓if_neg, if_true, if_false, if_pos, if_neg]
    · have n1 := M1 (zU A 185 0 0) O' t' (u6 0)
      rw [if_neg (by omega)] at n1
      simp (disch := first | assumption | omega | exact zr_and | exact zr_or | exact zr_xor | exact zr_shl | exact zr_shr | exact zr_ushr | exact zr_byte | exact isHall3 | exact isLaw12) only [i337_0, i337_10, i337_14, i337_17, i337_25, i337_28, i337_32, i337_33, i337_37, i337_40, i337_42, i337_46, i337_52, i337_59, i337_71, i337_77, i337_81, i337_88, i337_103, i337_108, i337_113, i337_117, i337_124, i337_127, i337_134, i337_142, n1, c_thr0, c_thr1, zU_uu, i233_0, zU_c, mB1_i, mB0_i, mB1n_i, mB0n_i, mB1_x, mB0_x, ↓if_pos, ↓if_neg, if_true, if_false, if_pos, if_neg]
  have k1 := c_nKind (d := (d + 11)) (K := K) (O := O) (t := t) (ar := ar) (A := A) (p := k) g1
  have m1 : ∀ (B : Nat → Int → Int) (O' : Nat → Int64) (t' : Nat), B 186 = A 186 → mGd ar (d + 11) 257 0 [.int (zI k)] [] (zW K B O' t') = some (.inl (some (.int (zI 0))), zW K B O' t') := fun B O' t' e => by have q := M1 B O' t' e; rwa [if_pos (by omega)] at q
  by_cases g2 : 0 ≤ n ∧ n ≤ 60
  case neg =>
    have k2 := c_nNumberX (d := (d + 11)) (K := K) (O := O) (t := t) (ar := ar) (A := A) (p := n) (x := 0) (y := 60) h_n g2 (by decide)
    refine zQ_ex (E := 0) hI ?_ (by decide) (fun O' t' => ⟨0, zU A 185 0 2, ?_, zU_at, zFm_u⟩)
    · simp (disch := first | assumption | omega | exact zr_and | exact zr_or | exact zr_xor | exact zr_shl | exact zr_shr | exact zr_ushr | exact zr_byte | exact isHall3 | exact isLaw12) only [i207_0, i207_5, i207_13, i207_20, i207_25, i207_32, i207_40, i207_46, i207_53, i207_56, i207_63, i207_71, k1, k2, mB1_i, mB0_i, mB1n_i, mB0n_i, mB1_x, mB0_x, ↓if_pos, ↓if_neg, if_true, if_false, if_pos, if_neg]
    · have n1 := M1 (zU A 185 0 0) O' t' (u6 0)
      rw [if_pos (by omega)] at n1
      have n2 := M2 (zU A 185 0 0) O' t' (u6 0)
      rw [if_neg (by omega)] at n2
      simp (disch := first | assumption | omega | exact zr_and | exact zr_or | exact zr_xor | exact zr_shl | exact zr_shr | exact zr_ushr | exact zr_byte | exact isHall3 | exact isLaw12) only [i337_0, i337_10, i337_14, i337_17, i337_25, i337_28, i337_32, i337_33, i337_37, i337_40, i337_42, i337_46, i337_52, i337_59, i337_71, i337_77, i337_81, i337_88, i337_103, i337_108, i337_113, i337_117, i337_124, i337_127, i337_134, i337_142, n1, n2, c_thr0, c_thr1, zU_uu, i233_0, zU_c, mB1_i, mB0_i, mB1n_i, mB0n_i, mB1_x, mB0_x, ↓if_pos, ↓if_neg, if_true, if_false, if_pos, if_neg]
  have k2 := c_nNumber (d := (d + 11)) (K := K) (O := O) (t := t) (ar := ar) (A := A) (p := n) (x := 0) (y := 60) g2 (by decide)
  have m2 : ∀ (B : Nat → Int → Int) (O' : Nat → Int64) (t' : Nat), B 186 = A 186 → mGd ar (d + 11) 256 0 [.int (zI n), .int (zI 0), .int (zI 60)] [] (zW K B O' t') = some (.inl (some (.int (zI 1))), zW K B O' t') := fun B O' t' e => by have q := M2 B O' t' e; rwa [if_pos (by omega)] at q
  obtain ⟨-, ⟨L, lc, lr, -⟩, -⟩ := id hI
  have rg : ∀ s, 0 ≤ zIt (zDL L) n.toNat (zSd (A 186) s) (11 + k) ∧ zIt (zDL L) n.toNat (zSd (A 186) s) (11 + k) ≤ 99 := fun s => zDLn_rng (zSd_wf hI.1.1) g1
  have step : ∀ (s : Int) (B : Nat → Int → Int), zFc A B → ∃ C, mGd ar (d + 11) 205 0 [.ref 0, .int (zI k), .int (zI n), .int (zI s)] [] (zW K B O t) = some (.inl (some (.int (zI (zIt (zDL L) n.toNat (zSd (A 186) s) (11 + k))))), zW K C O t) ∧ zFc A C := fun s B hB => c_manAfter (d := d + 5) (K := K) (O := O) (t := t) (ar := ar) hI lc hB g1 g2
  have cl : ∀ (m : Nat) (s e : Int) (B : Nat → Int → Int) (u : Value), s + m = 7 → 2 ≤ s → (0 ≤ e ∧ e ≤ 99) → zFc A B → ∃ C, mGd ar (d + 12) 207 25 [.ref 0, .int (zI k), .int (zI n), .int (zI b), .int (zI e), .int (zI s), u] [] (zW K B O t) = some (.inl (some (.int (zI (zSp b (fun s => zIt (zDL L) n.toNat (zSd (A 186) s) (11 + k)) m s e)))), zW K C O t) ∧ zFc A C := by
    intro m
    induction m with
    | zero =>
      intro s e B u hs s0 he hB
      refine ⟨B, ?_, hB⟩
      simp (disch := first | assumption | omega | exact zr_and | exact zr_or | exact zr_xor | exact zr_shl | exact zr_shr | exact zr_ushr | exact zr_byte | exact isHall3 | exact isLaw12) only [i207_25, i207_71, mB1_i, mB0_i, mB1n_i, mB0n_i, mB1_x, mB0_x, ↓if_pos, ↓if_neg, if_true, if_false, if_pos, if_neg]
      rfl
    | succ m ih =>
      intro s e B u hs s0 he hB
      obtain ⟨C1, d1, d2⟩ := step s B hB
      have r := rg s
      rw [show zSp b (fun s => zIt (zDL L) n.toNat (zSd (A 186) s) (11 + k)) (m + 1) s e = zSp b (fun s => zIt (zDL L) n.toNat (zSd (A 186) s) (11 + k)) m (s + 1) (if e < 0 then zIt (zDL L) n.toNat (zSd (A 186) s) (11 + k) else if b = 0 then min e (zIt (zDL L) n.toNat (zSd (A 186) s) (11 + k)) else max e (zIt (zDL L) n.toNat (zSd (A 186) s) (11 + k))) from rfl, if_neg (show ¬ e < 0 by omega), i207_25 (by omega)]
      generalize zIt (zDL L) n.toNat (zSd (A 186) s) (11 + k) = y at d1 r ⊢
      have cm := c_min (d := d + 11) (K := K) (O := O) (t := t) (ar := ar) (A := C1) (x := e) (y := y) (by omega) (by omega)
      have cx := c_max (d := d + 11) (K := K) (O := O) (t := t) (ar := ar) (A := C1) (x := e) (y := y) (by omega) (by omega)
      rcases hb with rfl | rfl
      · obtain ⟨C', q1, q2⟩ := ih (s + 1) (min e y) C1 (.int (zI y)) (by omega) (by omega) (by omega) d2
        refine ⟨C', ?_, q2⟩
        rw [if_pos rfl, ← q1]
        simp (disch := first | assumption | omega | exact zr_and | exact zr_or | exact zr_xor | exact zr_shl | exact zr_shr | exact zr_ushr | exact zr_byte | exact isHall3 | exact isLaw12) only [i207_5, i207_13, i207_20, i207_32, i207_40, i207_46, i207_53, i207_56, i207_63, i207_71, d1, cm, mB1_i, mB0_i, mB1n_i, mB0n_i, mB1_x, mB0_x, ↓if_pos, ↓if_neg, if_true, if_false, if_pos, if_neg]
      · obtain ⟨C', q1, q2⟩ := ih (s + 1) (max e y) C1 (.int (zI y)) (by omega) (by omega) (by omega) d2
        refine ⟨C', ?_, q2⟩
        rw [if_neg (show ¬ (1 : Int) = 0 by decide), ← q1]
        simp (disch := first | assumption | omega | exact zr_and | exact zr_or | exact zr_xor | exact zr_shl | exact zr_shr | exact zr_ushr | exact zr_byte | exact isHall3 | exact isLaw12) only [i207_5, i207_13, i207_20, i207_32, i207_40, i207_46, i207_53, i207_56, i207_63, i207_71, d1, cx, mB1_i, mB0_i, mB1n_i, mB0n_i, mB1_x, mB0_x, ↓if_pos, ↓if_neg, if_true, if_false, if_pos, if_neg]
  obtain ⟨B1, f1, f2⟩ := step 1 A zFc_refl
  obtain ⟨A1, f3, f4⟩ := cl 5 2 _ B1 (.double 0) (by omega) (by omega) (rg 1) f2
  have e1 : zSp b (fun s => zIt (zDL L) n.toNat (zSd (A 186) s) (11 + k)) 6 1 (-1) = zSp b (fun s => zIt (zDL L) n.toNat (zSd (A 186) s) (11 + k)) 5 2 (zIt (zDL L) n.toNat (zSd (A 186) 1) (11 + k)) := by
    rw [show zSp b (fun s => zIt (zDL L) n.toNat (zSd (A 186) s) (11 + k)) 6 1 (-1) = zSp b (fun s => zIt (zDL L) n.toNat (zSd (A 186) s) (11 + k)) 5 (1 + 1) (if (-1 : Int) < 0 then zIt (zDL L) n.toNat (zSd (A 186) 1) (11 + k) else if b = 0 then min (-1) (zIt (zDL L) n.toNat (zSd (A 186) 1) (11 + k)) else max (-1) (zIt (zDL L) n.toNat (zSd (A 186) 1) (11 + k))) from rfl, if_pos (by decide)]
    rfl
  have rr := zSp_rng (b := b) (f := fun s => zIt (zDL L) n.toNat (zSd (A 186) s) (11 + k)) rg (m := 6) (s := 1) (e := -1) (by omega)
  rw [← e1] at f3
  refine zQ_ok (b := zSp b (fun s => zIt (zDL L) n.toNat (zSd (A 186) s) (11 + k)) 6 1 (-1)) (A1 := A1) hI ?_ f4 (by omega) (fun O' t' => ?_)
  · simp (disch := first | assumption | omega | exact zr_and | exact zr_or | exact zr_xor | exact zr_shl | exact zr_shr | exact zr_ushr | exact zr_byte | exact isHall3 | exact isLaw12) only [i207_0, i207_5, i207_13, i207_20, i207_32, i207_40, i207_46, i207_53, i207_56, i207_63, i207_71, k1, k2, f1, f3, mB1_i, mB0_i, mB1n_i, mB0n_i, mB1_x, mB0_x, ↓if_pos, ↓if_neg, if_true, if_false, if_pos, if_neg]
  · have e6 : A1 186 = A 186 := f4 186 (by unfold zSc; omega)
    have u6' : (zU A1 185 0 0) 186 = A 186 := by rw [zU_r (by decide), e6]
    have n1 := m1 (zU A1 185 0 0) O' t' u6'
    have n2 := m2 (zU A1 185 0 0) O' t' u6'
    obtain ⟨C0, p1, p2, p3⟩ := t_keeps (d := d + 11) (K := K) (O := O') (t := t') (ar := ar) (A := zU A1 185 0 0) (L := L) (by rw [u6']; exact hI.1.1) (by rw [u6']; exact lr)
    have l1 : ∀ (x3 x4 x5 : Int) (m : Nat) (x : Int) (C : Nat → Int → Int), x + m = n → 0 ≤ x → zT L (zU A1 185 0 0) C → ∃ C', mGd ar (d + 12) 337 71 [.ref 185, .int (zI k), .int (zI n), .int (zI x3), .int (zI x4), .int (zI x5), .int (zI x)] [] (zW K C O' t') = mGd ar (d + 12) 337 88 [.ref 185, .int (zI k), .int (zI n), .int (zI x3), .int (zI x4), .int (zI x5), .int (zI n)] [] (zW K C' O' t') ∧ zT L (zU A1 185 0 0) C' ∧ C' 186 = zIt (zDL L) m (C 186) := by
      intro x3 x4 x5 m
      induction m with
      | zero =>
        intro x C hx x0 hC
        have : x = n := by omega
        subst this
        exact ⟨C, by simp (disch := first | assumption | omega | exact zr_and | exact zr_or | exact zr_xor | exact zr_shl | exact zr_shr | exact zr_ushr | exact zr_byte | exact isHall3 | exact isLaw12) only [i337_71, mB1_i, mB0_i, mB1n_i, mB0n_i, mB1_x, mB0_x, ↓if_pos, ↓if_neg, if_true, if_false, if_pos, if_neg], hC, rfl⟩
      | succ m ih =>
        intro x C hx x0 hC
        obtain ⟨C1, d1, d2, d3⟩ := t_oneDay (d := d + 4) (K := K) (O := O') (t := t') (ar := ar) hC
        obtain ⟨C', q1, q2, q3⟩ := ih (x + 1) C1 (by omega) (by omega) d2
        refine ⟨C', ?_, q2, by rw [q3, d3]; rfl⟩
        rw [← q1, i337_71 (by omega) (by omega)]
        simp (disch := first | assumption | omega | exact zr_and | exact zr_or | exact zr_xor | exact zr_shl | exact zr_shr | exact zr_ushr | exact zr_byte | exact isHall3 | exact isLaw12) only [i337_77, i337_81, d1, mB1_i, mB0_i, mB1n_i, mB0n_i, mB1_x, mB0_x, ↓if_pos, ↓if_neg, if_true, if_false, if_pos, if_neg]
    have l2 : ∀ (m : Nat) (s e : Int) (C : Nat → Int → Int) (u : Value), s + m = 7 → 1 ≤ s → (-1 ≤ e ∧ e ≤ 99) → zT L (zU A1 185 0 0) C → C 186 = A 186 → (m = 0 → zFt (zU A1 185 0 0) C) → ∃ C', mGd ar (d + 12) 337 52 [.ref 185, .int (zI k), .int (zI n), .int (zI b), .int (zI e), .int (zI s), u] [] (zW K C O' t') = some (.inl (some (.int (zI (zSp b (fun s => zIt (zDL L) n.toNat (zSd (A 186) s) (11 + k)) m s e)))), zW K C' O' t') ∧ zFt (zU A1 185 0 0) C' := by
      intro m
      induction m with
      | zero =>
        intro s e C u hs s0 he hC h6 hf
        refine ⟨C, ?_, hf rfl⟩
        simp (disch := first | assumption | omega | exact zr_and | exact zr_or | exact zr_xor | exact zr_shl | exact zr_shr | exact zr_ushr | exact zr_byte | exact isHall3 | exact isLaw12) only [i337_52, i337_142, mB1_i, mB0_i, mB1n_i, mB0n_i, mB1_x, mB0_x, ↓if_pos, ↓if_neg, if_true, if_false, if_pos, if_neg]
        rfl
      | succ m ih =>
        intro s e C u hs s0 he hC h6 hf
        obtain ⟨ts, es⟩ := t_seed (s := s) hC
        obtain ⟨C1, q1, q2, q3⟩ := l1 b e s n.toNat 0 (zU C 186 6 s) (by omega) (by omega) ts
        rw [es, h6] at q3
        obtain ⟨C2, s1, s2, s3, s4⟩ := t_brings (d := d + 11) (K := K) (O := O') (t := t') (ar := ar) (A := zU A1 185 0 0) (L := L) (by rw [u6']; exact hI.1.1) (by rw [u6']; exact lr) q2
        rw [u6'] at s4
        have r := rg s
        have ey : C1 186 (11 + k) = zIt (zDL L) n.toNat (zSd (A 186) s) (11 + k) := by rw [q3]
        rw [show zSp b (fun s => zIt (zDL L) n.toNat (zSd (A 186) s) (11 + k)) (m + 1) s e = zSp b (fun s => zIt (zDL L) n.toNat (zSd (A 186) s) (11 + k)) m (s + 1) (if e < 0 then zIt (zDL L) n.toNat (zSd (A 186) s) (11 + k) else if b = 0 then min e (zIt (zDL L) n.toNat (zSd (A 186) s) (11 + k)) else max e (zIt (zDL L) n.toNat (zSd (A 186) s) (11 + k))) from rfl, i337_52 (by omega)]
        generalize zIt (zDL L) n.toNat (zSd (A 186) s) (11 + k) = y at ey r ⊢
        have cm := c_min (d := d + 11) (K := K) (O := O') (t := t') (ar := ar) (A := C2) (x := e) (y := y) (by omega) (by omega)
        have cx := c_max (d := d + 11) (K := K) (O := O') (t := t') (ar := ar) (A := C2) (x := e) (y := y) (by omega) (by omega)
        by_cases hn : e < 0
        · obtain ⟨C', v1, v2⟩ := ih (s + 1) y C2 (.int (zI y)) (by omega) (by omega) (by omega) s3 s4 (fun _ => s2)
          refine ⟨C', ?_, v2⟩
          rw [if_pos hn, ← v1]
          simp (disch := first | assumption | omega | exact zr_and | exact zr_or | exact zr_xor | exact zr_shl | exact zr_shr | exact zr_ushr | exact zr_byte | exact isHall3 | exact isLaw12) only [i337_10, i337_14, i337_17, i337_25, i337_28, i337_32, i337_33, i337_37, i337_40, i337_42, i337_46, i337_59, i337_77, i337_81, i337_88, i337_103, i337_108, i337_113, i337_117, i337_124, i337_127, i337_134, i337_142, q1, ey, s1, mB1_i, mB0_i, mB1n_i, mB0n_i, mB1_x, mB0_x, ↓if_pos, ↓if_neg, if_true, if_false, if_pos, if_neg]
        · rcases hb with rfl | rfl
          · obtain ⟨C', v1, v2⟩ := ih (s + 1) (min e y) C2 (.int (zI y)) (by omega) (by omega) (by omega) s3 s4 (fun _ => s2)
            refine ⟨C', ?_, v2⟩
            rw [if_neg hn, if_pos rfl, ← v1]
            simp (disch := first | assumption | omega | exact zr_and | exact zr_or | exact zr_xor | exact zr_shl | exact zr_shr | exact zr_ushr | exact zr_byte | exact isHall3 | exact isLaw12) only [i337_10, i337_14, i337_17, i337_25, i337_28, i337_32, i337_33, i337_37, i337_40, i337_42, i337_46, i337_59, i337_77, i337_81, i337_88, i337_103, i337_108, i337_113, i337_117, i337_124, i337_127, i337_134, i337_142, q1, ey, s1, cm, mB1_i, mB0_i, mB1n_i, mB0n_i, mB1_x, mB0_x, ↓if_pos, ↓if_neg, if_true, if_false, if_pos, if_neg]
          · obtain ⟨C', v1, v2⟩ := ih (s + 1) (max e y) C2 (.int (zI y)) (by omega) (by omega) (by omega) s3 s4 (fun _ => s2)
            refine ⟨C', ?_, v2⟩
            rw [if_neg hn, if_neg (show ¬ (1 : Int) = 0 by decide), ← v1]
            simp (disch := first | assumption | omega | exact zr_and | exact zr_or | exact zr_xor | exact zr_shl | exact zr_shr | exact zr_ushr | exact zr_byte | exact isHall3 | exact isLaw12) only [i337_10, i337_14, i337_17, i337_25, i337_28, i337_32, i337_33, i337_37, i337_40, i337_42, i337_46, i337_59, i337_77, i337_81, i337_88, i337_103, i337_108, i337_113, i337_117, i337_124, i337_127, i337_134, i337_142, q1, ey, s1, cx, mB1_i, mB0_i, mB1n_i, mB0n_i, mB1_x, mB0_x, ↓if_pos, ↓if_neg, if_true, if_false, if_pos, if_neg]
    obtain ⟨C1, q1, q2⟩ := l2 6 1 (-1) C0 (.double 0) (by omega) (by omega) (by omega) p2 (by rw [p3, u6']) (fun h => by omega)
    refine ⟨C1, ?_, zFm_0 q2⟩
    simp (disch := first | assumption | omega | exact zr_and | exact zr_or | exact zr_xor | exact zr_shl | exact zr_shr | exact zr_ushr | exact zr_byte | exact isHall3 | exact isLaw12) only [i337_0, i337_10, i337_14, i337_17, i337_25, i337_28, i337_32, i337_33, i337_37, i337_40, i337_42, i337_46, i337_59, i337_77, i337_81, i337_88, i337_103, i337_108, i337_113, i337_117, i337_124, i337_127, i337_134, i337_142, n1, n2, c_thr0, p1, q1, mB1_i, mB0_i, mB1n_i, mB0n_i, mB1_x, mB0_x, ↓if_pos, ↓if_neg, if_true, if_false, if_pos, if_neg]
end SPAN
