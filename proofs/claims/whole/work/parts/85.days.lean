/-! CALLS THAT CHANGE, 6: days -/
noncomputable def zDc (L : zLines) : Nat → (Int → Int) → Int
  | 0, _ => 0
  | m + 1, h => zChg h L + zDc L m (zDL L h)
theorem zDc_rng {L : zLines} : ∀ {m : Nat} {h : Int → Int}, zHWf h → 0 ≤ zDc L m h ∧ zDc L m h ≤ 32 * m
  | 0, _, _ => by show (0 : Int) ≤ 0 ∧ (0 : Int) ≤ 32 * ((0 : Nat) : Int); decide
  | m + 1, h, hw => by
    have h1 := zChg_rng (L := L) hw.1
    have h2 := zDc_rng (L := L) (m := m) (zDL_wf (L := L) hw)
    show 0 ≤ zChg h L + zDc L m (zDL L h) ∧ zChg h L + zDc L m (zDL L h) ≤ 32 * ((m + 1 : Nat) : Int)
    omega
theorem zRm_rf {A1 C C' : Nat → Int → Int} (h : zRm A1 C) (hf : zRf C C') (e2 : C' 186 2 = C 186 2) : zRm A1 C' := by
  obtain ⟨m1, m2, m3, m4, m5, m6⟩ := h
  obtain ⟨f1, f2, f3⟩ := hf
  have e190 : C' 190 = C 190 := f2 190 (by decide) (by decide) (by decide) (by decide) (by decide)
  exact ⟨by rw [f1 7 (by decide)]; exact m1, by rw [e190]; exact m2, by rw [e190]; exact m3, fun c hc => by rw [f2 c (by omega) (by omega) (by omega) (by omega) (by omega)]; exact m4 c hc, fun j hj => by rw [f1 j (by omega)]; exact m5 j hj, fun i hi => by
    by_cases h2 : i = 2
    · rw [h2, e2]; exact m6 2 (Or.inl rfl)
    · rw [f3 i (by omega)]; exact m6 i hi⟩
section DAYS
variable {ar : Nat → Nat × (Nat → Int32)} {d t : Nat} {K : Nat → Nat → Option Nat} {A : Nat → Int → Int} {O : Nat → Int64}
theorem q_days {n : Int} (hK : mKok K) (hI : zInv A) (h_n : -2147483648 ≤ n ∧ n < 2147483648) : zQ ar K O t (d + 12) 130 [.ref 0, .int (zI n), .double 0, .double 0] 283 [.ref 185, .int (zI n), .double 0, .double 0] (fun E => if E = 0 then 1 else 0) A := by
  obtain ⟨hw, hr, e0, w0⟩ := zInv_f hI
  have u6 : ∀ v, zU A 185 0 v 186 = A 186 := fun v => zU_r (by decide)
  have M1 : ∀ (B : Nat → Int → Int) (O' : Nat → Int64) (t' : Nat), B 186 = A 186 → mGd ar (d + 11) 256 0 [.int (zI n), .int (zI 1), .int (zI 60)] [] (zW K B O' t') = some (.inl (some (.int (zI (if 1 ≤ n ∧ n ≤ 60 then 1 else 0)))), zW K B O' t') := fun B O' t' e => c_in (d := (d + 11)) h_n (by decide) (by decide)
  by_cases g1 : 1 ≤ n ∧ n ≤ 60
  case neg =>
    have k1 := c_nNumberX (d := (d + 11)) (K := K) (O := O) (t := t) (ar := ar) (A := A) (p := n) (x := 1) (y := 60) h_n g1 (by decide)
    refine zQ_ex (E := 0) hI ?_ (by decide) (fun O' t' => ⟨0, zU A 185 0 1, ?_, zU_at, zFm_u⟩)
    · simp (disch := first | assumption | omega | exact zr_and | exact zr_or | exact zr_xor | exact zr_shl | exact zr_shr | exact zr_ushr | exact zr_byte | exact isHall3 | exact isLaw12) only [i130_0, i130_8, i130_19, i130_23, i130_28, i130_44, i130_52, k1, mB1_i, mB0_i, mB1n_i, mB0n_i, mB1_x, mB0_x, ↓if_pos, ↓if_neg, if_true, if_false, if_pos, if_neg]
    · have n1 := M1 (zU A 185 0 0) O' t' (u6 0)
      rw [if_neg (by omega)] at n1
      simp (disch := first | assumption | omega | exact zr_and | exact zr_or | exact zr_xor | exact zr_shl | exact zr_shr | exact zr_ushr | exact zr_byte | exact isHall3 | exact isLaw12) only [i283_0, i283_13, i283_16, i283_20, i283_21, i283_25, i283_28, i283_30, i283_34, i283_38, i283_43, i283_48, i283_56, n1, c_thr0, c_thr1, zU_uu, i233_0, zU_c, mB1_i, mB0_i, mB1n_i, mB0n_i, mB1_x, mB0_x, ↓if_pos, ↓if_neg, if_true, if_false, if_pos, if_neg]
  have k1 := c_nNumber (d := (d + 11)) (K := K) (O := O) (t := t) (ar := ar) (A := A) (p := n) (x := 1) (y := 60) g1 (by decide)
  have m1 : ∀ (B : Nat → Int → Int) (O' : Nat → Int64) (t' : Nat), B 186 = A 186 → mGd ar (d + 11) 256 0 [.int (zI n), .int (zI 1), .int (zI 60)] [] (zW K B O' t') = some (.inl (some (.int (zI 1))), zW K B O' t') := fun B O' t' e => by have q := M1 B O' t' e; rwa [if_pos (by omega)] at q
  obtain ⟨a1, a2, a3, -⟩ := hI.2.2.2.1
  obtain ⟨-, ⟨L, lc, lr, -⟩, -⟩ := id hI
  obtain ⟨C, f1, f2, f3⟩ := k_remember (d := d + 9) (K := K) (O := O) (t := t) (ar := ar) hK hI
  have hrC : zHR C 3 (A 186) := zHR_same (fun c h1 h2 => f3 c h1 h2) hI.1.1 hI.1.2
  have lcC : zLawC C 12 L := zLawC_same lc (fun c h1 h2 => f2.2.2.2 c (by omega) (by omega) (by omega) (by unfold zSc; omega))
  have cl : ∀ (m : Nat) (x acc : Int) (h : Int → Int) (B : Nat → Int → Int), x + m = n → 0 ≤ x → zHWf h → zHR B 3 h → zLawC B 12 L → ∃ C', mGd ar (d + 12) 130 23 [.ref 0, .int (zI n), .int (zI acc), .int (zI x)] [] (zW K B O t) = some (.inl (some (.int (zI (acc + zDc L m h)))), zW K C' O t) ∧ zHR C' 3 (zIt (zDL L) m h) ∧ ∀ c, ¬ (3 ≤ c ∧ c ≤ 11) → ¬ zSc c → C' c = B c := by
    intro m
    induction m with
    | zero =>
      intro x acc h B hx x0 hw hr hL
      refine ⟨B, ?_, hr, fun _ _ _ => rfl⟩
      rw [show acc + zDc L 0 h = acc from Int.add_zero _]
      simp (disch := first | assumption | omega | exact zr_and | exact zr_or | exact zr_xor | exact zr_shl | exact zr_shr | exact zr_ushr | exact zr_byte | exact isHall3 | exact isLaw12) only [i130_23, i130_52, mB1_i, mB0_i, mB1n_i, mB0n_i, mB1_x, mB0_x, ↓if_pos, ↓if_neg, if_true, if_false, if_pos, if_neg]
    | succ m ih =>
      intro x acc h B hx x0 hw hr hL
      obtain ⟨B1, b1, b2, b3⟩ := c_logged (d := d + 6) (K := K) (O := O) (t := t) (ar := ar) isHall3 isLaw12 (by omega) hw hr hL
      have b4 : ∀ c, ¬ (3 ≤ c ∧ c ≤ 11) → ¬ zSc c → B1 c = B c := fun c h1 h2 => by
        unfold zSc at h2
        exact b3 c (by omega) (by omega) (by omega) (by omega) (by omega)
      obtain ⟨C', q1, q2, q3⟩ := ih (x + 1) (acc + zChg h L) (zDL L h) B1 (by omega) (by omega) (zDL_wf hw) b2 (zLawC_same hL (fun c h1 h2 => b4 c (by omega) (by unfold zSc; omega)))
      refine ⟨C', ?_, q2, fun c h1 h2 => by rw [q3 c h1 h2, b4 c h1 h2]⟩
      rw [show acc + zDc L (m + 1) h = acc + zChg h L + zDc L m (zDL L h) from (Int.add_assoc _ _ _).symm, ← q1, i130_23 (by omega) (by omega)]
      simp (disch := first | assumption | omega | exact zr_and | exact zr_or | exact zr_xor | exact zr_shl | exact zr_shr | exact zr_ushr | exact zr_byte | exact isHall3 | exact isLaw12) only [i130_28, b1, i130_44, mB1_i, mB0_i, mB1n_i, mB0n_i, mB1_x, mB0_x, ↓if_pos, ↓if_neg, if_true, if_false, if_pos, if_neg]
  obtain ⟨A1, q1, q2, q3⟩ := cl n.toNat 0 0 (A 186) C (by omega) (by omega) hI.1.1 hrC lcC
  rw [Int.zero_add] at q1
  have hc : zRc A A1 := zRc_hall f2 a3 hI.1.1 q3
  have s : ∀ c, c = 185 ∨ c = 186 → A1 c = A c := fun c hx => by
    rw [q3 c (by omega) (by unfold zSc; omega)]
    exact f2.2.2.2 c (by omega) (by omega) (by omega) (by unfold zSc; omega)
  have rg := zDc_rng (L := L) (m := n.toNat) hI.1.1
  refine zQ_act (b := zDc L n.toNat (A 186)) (A1 := A1) hI ?_ hc (by omega) (fun O' t' => ?_)
  · simp (disch := first | assumption | omega | exact zr_and | exact zr_or | exact zr_xor | exact zr_shl | exact zr_shr | exact zr_ushr | exact zr_byte | exact isHall3 | exact isLaw12) only [i130_0, i130_8, i130_19, i130_28, i130_44, i130_52, k1, f1, q1, mB1_i, mB0_i, mB1n_i, mB0n_i, mB1_x, mB0_x, ↓if_pos, ↓if_neg, if_true, if_false, if_pos, if_neg]
  · have n1 := m1 (zU A1 185 0 0) O' t' (by rw [zU_r (by decide), s 186 (by omega)])
    obtain ⟨D, p1, p2, p3, p4⟩ := k_remembers (d := d + 11) (K := K) (O := O') (t := t') (ar := ar) (A1 := A1) (by rw [s 185 (by omega), a1]; exact a2)
    rw [s 186 (by omega)] at p4
    have l1 : ∀ (m : Nat) (x acc : Int) (B : Nat → Int → Int), x + m = n → 0 ≤ x → zHWf (B 186) → zLawR (B 186) L → zRm A1 B → B 185 0 = 0 → ∃ C', mGd ar (d + 12) 283 38 [.ref 185, .int (zI n), .int (zI acc), .int (zI x)] [] (zW K B O' t') = some (.inl (some (.int (zI (acc + zDc L m (B 186))))), zW K C' O' t') ∧ C' 186 = zIt (zDL L) m (B 186) ∧ zRm A1 C' ∧ C' 185 0 = 0 := by
      intro m
      induction m with
      | zero =>
        intro x acc B hx x0 hw hL hm h0
        refine ⟨B, ?_, rfl, hm, h0⟩
        rw [show acc + zDc L 0 (B 186) = acc from Int.add_zero _]
        simp (disch := first | assumption | omega | exact zr_and | exact zr_or | exact zr_xor | exact zr_shl | exact zr_shr | exact zr_ushr | exact zr_byte | exact isHall3 | exact isLaw12) only [i283_38, i283_56, mB1_i, mB0_i, mB1n_i, mB0n_i, mB1_x, mB0_x, ↓if_pos, ↓if_neg, if_true, if_false, if_pos, if_neg]
      | succ m ih =>
        intro x acc B hx x0 hw hL hm h0
        obtain ⟨B1, b1, b2, b3⟩ := c_oneDay (d := d + 4) (K := K) (O := O') (t := t') (ar := ar) hw.1 hw.2.1 hL
        have e2 : B1 186 2 = B 186 2 := by rw [b3, zDL_lo (by omega) (by omega)]; exact zD1_2 hw.1
        obtain ⟨C', q1, q2, q3, q4⟩ := ih (x + 1) (acc + zChg (B 186) L) B1 (by omega) (by omega) (by rw [b3]; exact zDL_wf hw) (zLawR_congr e2 (fun i i1 _ => b2.2.2 i (Or.inr i1)) hL) (zRm_rf hm b2 e2) (by rw [b2.1 0 (by decide)]; exact h0)
        rw [b3] at q1 q2
        refine ⟨C', ?_, q2, q3, q4⟩
        rw [show acc + zDc L (m + 1) (B 186) = acc + zChg (B 186) L + zDc L m (zDL L (B 186)) from (Int.add_assoc _ _ _).symm, ← q1, i283_38 (by omega) (by omega)]
        simp (disch := first | assumption | omega | exact zr_and | exact zr_or | exact zr_xor | exact zr_shl | exact zr_shr | exact zr_ushr | exact zr_byte | exact isHall3 | exact isLaw12) only [i283_43, b1, i283_48, mB1_i, mB0_i, mB1n_i, mB0n_i, mB1_x, mB0_x, ↓if_pos, ↓if_neg, if_true, if_false, if_pos, if_neg]
    obtain ⟨A2, r1, r2, r3, r4⟩ := l1 n.toNat 0 0 D (by omega) (by omega) (by rw [p4]; exact hI.1.1) (by rw [p4]; exact lr) p2 p3
    rw [p4] at r1 r2
    rw [Int.zero_add] at r1
    have wN := zIt_wff (f := zDL L) (fun _ hh => zDL_wf hh) (n := n.toNat) hI.1.1
    refine ⟨A2, ?_, r4, r3, by rw [r2]; exact wN, ?_⟩
    · simp (disch := first | assumption | omega | exact zr_and | exact zr_or | exact zr_xor | exact zr_shl | exact zr_shr | exact zr_ushr | exact zr_byte | exact isHall3 | exact isLaw12) only [i283_0, i283_13, i283_16, i283_20, i283_21, i283_25, i283_28, i283_30, i283_34, i283_43, i283_48, i283_56, n1, c_thr0, p1, r1, mB1_i, mB0_i, mB1n_i, mB0n_i, mB1_x, mB0_x, ↓if_pos, ↓if_neg, if_true, if_false, if_pos, if_neg]
    · rw [r2]
      exact zHR_same (A := A1) (fun c h1 h2 => r3.2.2.2.1 c (by omega)) wN q2
end DAYS
