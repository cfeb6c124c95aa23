/-! CALLS THAT CHANGE, 4: tell -/
section TELL
variable {ar : Nat → Nat × (Nat → Int32)} {d t : Nat} {K : Nat → Nat → Option Nat} {A : Nat → Int → Int} {O : Nat → Int64}
theorem zHR0_numb {h : Int → Int} {p k v : Int} (hp : 0 ≤ p ∧ p < h 0) (hk : 0 ≤ k ∧ k < 4) (hr : zHR0 A 3 h) : zHR0 (zU A 4 (p * 4 + k) v) 3 (zPt h (15 + 6 * p + k) v) := by
  have f : ∀ i, i < 15 → zPt h (15 + 6 * p + k) v i = h i := fun i hi => zPt_ne (by omega)
  obtain ⟨r0, r9, r7, r6, r8, rr, rm, rn, rw', ⟨s1, s2⟩⟩ := hr
  unfold zHR0 zStub
  rw [f 0 (by omega), f 1 (by omega), f 3 (by omega), f 4 (by omega), f 6 (by omega), zU_r (show (3 : Nat) ≠ 4 by decide), zU_r (show (3 + 3 : Nat) ≠ 4 by decide), zU_r (show (3 + 4 : Nat) ≠ 4 by decide), zU_r (show (3 + 2 : Nat) ≠ 4 by decide)]
  refine ⟨r0, r9, r7, r6, r8, fun j h1 h2 => ?_, fun j h1 h2 => ?_, fun q j h1 h2 h3 h4 => ?_, fun q h1 h2 => ?_, ⟨s1, fun q h1 h2 => ?_⟩⟩
  · rw [f _ (by omega)]; exact rr j h1 h2
  · rw [f _ (by omega)]; exact rm j h1 h2
  · by_cases hq : q = p ∧ j = k
    · rw [hq.1, hq.2, zPt_at]; exact zU_at
    · rw [zPt_ne (by omega), ← rn q j h1 h2 h3 h4]; exact zU_s (by omega)
  · rw [zPt_ne (by omega)]; exact rw' q h1 h2
  · rw [zPt_ne (by omega)]; exact s2 q h1 h2
theorem zHW0_numb {h : Int → Int} {p k v : Int} (hp : 0 ≤ p ∧ p < h 0) (hk : 0 ≤ k ∧ k < 4) (hv : 0 ≤ v ∧ v ≤ 99) (hw : zHW0 h) : zHW0 (zPt h (15 + 6 * p + k) v) := by
  have f : ∀ i, i < 15 → zPt h (15 + 6 * p + k) v i = h i := fun i hi => zPt_ne (by omega)
  obtain ⟨w0, w1, w2, w3, w4, wr, wm, wn, ww, ws⟩ := hw
  unfold zHW0
  rw [f 0 (by omega), f 1 (by omega), f 2 (by omega), f 3 (by omega), f 4 (by omega)]
  refine ⟨w0, w1, w2, w3, w4, fun j h1 h2 => ?_, fun j h1 h2 => ?_, fun q j h1 h2 h3 h4 => ?_, fun q h1 h2 => ?_, fun q h1 h2 => ?_⟩
  · rw [f _ (by omega)]; exact wr j h1 h2
  · rw [f _ (by omega)]; exact wm j h1 h2
  · by_cases hq : q = p ∧ j = k
    · rw [hq.1, hq.2, zPt_at]; exact hv
    · rw [zPt_ne (by omega)]; exact wn q j h1 h2 h3 h4
  · rw [zPt_ne (by omega)]; exact ww q h1 h2
  · rw [zPt_ne (by omega)]; exact ws q h1 h2
theorem q_tell {p k v : Int} (hK : mKok K) (hI : zInv A) (h_p : -2147483648 ≤ p ∧ p < 2147483648) (h_k : -2147483648 ≤ k ∧ k < 2147483648) (h_v : -2147483648 ≤ v ∧ v < 2147483648) : zQ ar K O t (d + 12) 119 [.ref 0, .int (zI p), .int (zI k), .int (zI v), .double 0] 276 [.ref 185, .int (zI p), .int (zI k), .int (zI v), .double 0] (fun E => if E = 2 then 1 else if E = 0 then 2 else 0) A := by
  obtain ⟨hw, hr, e0, w0⟩ := zInv_f hI
  have u6 : ∀ v, zU A 185 0 v 186 = A 186 := fun v => zU_r (by decide)
  have M1 : ∀ (B : Nat → Int → Int) (O' : Nat → Int64) (t' : Nat), B 186 = A 186 → mGd ar (d + 11) 255 0 [.ref 185, .int (zI p)] [] (zW K B O' t') = some (.inl (some (.int (zI (if 0 ≤ p ∧ p < A 186 0 then 0 else 1)))), zW K B O' t') := fun B O' t' e => by rw [← e]; exact c_noPerson (d := (d + 10)) h_p (by rw [e]; exact w0)
  have M2 : ∀ (B : Nat → Int → Int) (O' : Nat → Int64) (t' : Nat), B 186 = A 186 → mGd ar (d + 11) 257 0 [.int (zI k)] [] (zW K B O' t') = some (.inl (some (.int (zI (if 0 ≤ k ∧ k < 4 then 0 else 1)))), zW K B O' t') := fun B O' t' e => c_noKind (d := (d + 10)) h_k
  have M3 : ∀ (B : Nat → Int → Int) (O' : Nat → Int64) (t' : Nat), B 186 = A 186 → mGd ar (d + 11) 277 0 [.int (zI v)] [] (zW K B O' t') = some (.inl (some (.int (zI (if 0 ≤ v ∧ v ≤ 99 then 0 else 1)))), zW K B O' t') := fun B O' t' e => c_noNumber (d := (d + 10)) h_v
  by_cases g1 : 0 ≤ p ∧ p < A 186 0
  case neg =>
    have k1 := c_nPersonX (d := (d + 11)) (K := K) (O := O) (t := t) (ar := ar) (A := A) (p := p) h_p (by omega) (by omega)
    refine zQ_ex (E := 2) hI ?_ (by decide) (fun O' t' => ⟨0, zU A 185 0 1, ?_, zU_at, zFm_u⟩)
    · simp (disch := first | assumption | omega | exact zr_and | exact zr_or | exact zr_xor | exact zr_shl | exact zr_shr | exact zr_ushr | exact zr_byte | exact isHall3 | exact isLaw12) only [i119_0, i119_5, i119_10, i119_18, i119_29, i119_38, i119_50, k1, mB1_i, mB0_i, mB1n_i, mB0n_i, mB1_x, mB0_x, ↓if_pos, ↓if_neg, if_true, if_false, if_pos, if_neg]
    · have n1 := M1 (zU A 185 0 0) O' t' (u6 0)
      rw [if_neg (by omega)] at n1
      simp (disch := first | assumption | omega | exact zr_and | exact zr_or | exact zr_xor | exact zr_shl | exact zr_shr | exact zr_ushr | exact zr_byte | exact isHall3 | exact isLaw12) only [i276_0, i276_11, i276_14, i276_18, i276_21, i276_25, i276_26, i276_30, i276_33, i276_38, i276_42, i276_45, i276_47, i276_51, i276_57, i276_68, n1, c_thr0, c_thr1, zU_uu, i233_0, zU_c, mB1_i, mB0_i, mB1n_i, mB0n_i, mB1_x, mB0_x, ↓if_pos, ↓if_neg, if_true, if_false, if_pos, if_neg]
  have k1 := c_nPerson (d := (d + 11)) (K := K) (O := O) (t := t) (ar := ar) (A := A) (p := p) (by omega) (by omega)
  have m1 : ∀ (B : Nat → Int → Int) (O' : Nat → Int64) (t' : Nat), B 186 = A 186 → mGd ar (d + 11) 255 0 [.ref 185, .int (zI p)] [] (zW K B O' t') = some (.inl (some (.int (zI 0))), zW K B O' t') := fun B O' t' e => by have q := M1 B O' t' e; rwa [if_pos (by omega)] at q
  by_cases g2 : 0 ≤ k ∧ k < 4
  case neg =>
    have k2 := c_nKindX (d := (d + 11)) (K := K) (O := O) (t := t) (ar := ar) (A := A) (p := k) h_k g2
    refine zQ_ex (E := 2) hI ?_ (by decide) (fun O' t' => ⟨0, zU A 185 0 1, ?_, zU_at, zFm_u⟩)
    · simp (disch := first | assumption | omega | exact zr_and | exact zr_or | exact zr_xor | exact zr_shl | exact zr_shr | exact zr_ushr | exact zr_byte | exact isHall3 | exact isLaw12) only [i119_0, i119_5, i119_10, i119_18, i119_29, i119_38, i119_50, k1, k2, mB1_i, mB0_i, mB1n_i, mB0n_i, mB1_x, mB0_x, ↓if_pos, ↓if_neg, if_true, if_false, if_pos, if_neg]
    · have n1 := M1 (zU A 185 0 0) O' t' (u6 0)
      rw [if_pos (by omega)] at n1
      have n2 := M2 (zU A 185 0 0) O' t' (u6 0)
      rw [if_neg (by omega)] at n2
      simp (disch := first | assumption | omega | exact zr_and | exact zr_or | exact zr_xor | exact zr_shl | exact zr_shr | exact zr_ushr | exact zr_byte | exact isHall3 | exact isLaw12) only [i276_0, i276_11, i276_14, i276_18, i276_21, i276_25, i276_26, i276_30, i276_33, i276_38, i276_42, i276_45, i276_47, i276_51, i276_57, i276_68, n1, n2, c_thr0, c_thr1, zU_uu, i233_0, zU_c, mB1_i, mB0_i, mB1n_i, mB0n_i, mB1_x, mB0_x, ↓if_pos, ↓if_neg, if_true, if_false, if_pos, if_neg]
  have k2 := c_nKind (d := (d + 11)) (K := K) (O := O) (t := t) (ar := ar) (A := A) (p := k) g2
  have m2 : ∀ (B : Nat → Int → Int) (O' : Nat → Int64) (t' : Nat), B 186 = A 186 → mGd ar (d + 11) 257 0 [.int (zI k)] [] (zW K B O' t') = some (.inl (some (.int (zI 0))), zW K B O' t') := fun B O' t' e => by have q := M2 B O' t' e; rwa [if_pos (by omega)] at q
  by_cases g3 : 0 ≤ v ∧ v ≤ 99
  case neg =>
    have k3 := c_nNumberX (d := (d + 11)) (K := K) (O := O) (t := t) (ar := ar) (A := A) (p := v) (x := 0) (y := 99) h_v g3 (by decide)
    refine zQ_ex (E := 0) hI ?_ (by decide) (fun O' t' => ⟨0, zU A 185 0 2, ?_, zU_at, zFm_u⟩)
    · simp (disch := first | assumption | omega | exact zr_and | exact zr_or | exact zr_xor | exact zr_shl | exact zr_shr | exact zr_ushr | exact zr_byte | exact isHall3 | exact isLaw12) only [i119_0, i119_5, i119_10, i119_18, i119_29, i119_38, i119_50, k1, k2, k3, mB1_i, mB0_i, mB1n_i, mB0n_i, mB1_x, mB0_x, ↓if_pos, ↓if_neg, if_true, if_false, if_pos, if_neg]
    · have n1 := M1 (zU A 185 0 0) O' t' (u6 0)
      rw [if_pos (by omega)] at n1
      have n2 := M2 (zU A 185 0 0) O' t' (u6 0)
      rw [if_pos (by omega)] at n2
      have n3 := M3 (zU A 185 0 0) O' t' (u6 0)
      rw [if_neg (by omega)] at n3
      simp (disch := first | assumption | omega | exact zr_and | exact zr_or | exact zr_xor | exact zr_shl | exact zr_shr | exact zr_ushr | exact zr_byte | exact isHall3 | exact isLaw12) only [i276_0, i276_11, i276_14, i276_18, i276_21, i276_25, i276_26, i276_30, i276_33, i276_38, i276_42, i276_45, i276_47, i276_51, i276_57, i276_68, n1, n2, n3, c_thr0, c_thr1, zU_uu, i233_0, zU_c, mB1_i, mB0_i, mB1n_i, mB0n_i, mB1_x, mB0_x, ↓if_pos, ↓if_neg, if_true, if_false, if_pos, if_neg]
  have k3 := c_nNumber (d := (d + 11)) (K := K) (O := O) (t := t) (ar := ar) (A := A) (p := v) (x := 0) (y := 99) g3 (by decide)
  have m3 : ∀ (B : Nat → Int → Int) (O' : Nat → Int64) (t' : Nat), B 186 = A 186 → mGd ar (d + 11) 277 0 [.int (zI v)] [] (zW K B O' t') = some (.inl (some (.int (zI 0))), zW K B O' t') := fun B O' t' e => by have q := M3 B O' t' e; rwa [if_pos (by omega)] at q
  obtain ⟨a1, a2, a3, -⟩ := hI.2.2.2.1
  obtain ⟨C, f1, f2, f3⟩ := k_remember (d := d + 9) (K := K) (O := O) (t := t) (ar := ar) hK hI
  have rk : C 4 (p * 4 + k) = A 186 (15 + 6 * p + k) := by
    rw [f3 4 (by omega) (by omega)]
    exact hr.2.2.2.2.2.2.2.1 p k g1.1 g1.2 g2.1 g2.2
  have wk := hw.2.2.2.2.2.2.2.1 p k g1.1 g1.2 g2.1 g2.2
  have hc : zRc A (zU C 4 (p * 4 + k) v) := zRc_hall f2 a3 hI.1.1 (fun c h1 _ => zU_r (by omega))
  have hrC : zHR C 3 (A 186) := zHR_same (fun c h1 h2 => f3 c h1 h2) hI.1.1 hI.1.2
  have hr1 : zHR (zU C 4 (p * 4 + k) v) 3 (zPt (A 186) (15 + 6 * p + k) v) := ⟨zHR0_numb g1 g2 hrC.1, zLog_same (A := C) (fun c h1 h2 => zU_r (by omega)) (zLog_pt (by omega) hI.1.1.2 hrC.2)⟩
  have hw1 : zHWf (zPt (A 186) (15 + 6 * p + k) v) := ⟨zHW0_numb g1 g2 g3 hw, zHWl_pt (by omega) hI.1.1.2⟩
  have s : ∀ c, c = 185 ∨ c = 186 → (zU C 4 (p * 4 + k) v) c = A c := fun c hx => by
    rw [zU_r (by omega)]
    exact f2.2.2.2 c (by omega) (by omega) (by omega) (by unfold zSc; omega)
  refine zQ_act (b := A 186 (15 + 6 * p + k)) (A1 := zU C 4 (p * 4 + k) v) hI ?_ hc (by omega) (fun O' t' => ?_)
  · simp (disch := first | assumption | omega | exact zr_and | exact zr_or | exact zr_xor | exact zr_shl | exact zr_shr | exact zr_ushr | exact zr_byte | exact isHall3 | exact isLaw12) only [i119_0, i119_5, i119_10, i119_18, i119_29, i119_38, i119_50, k1, k2, k3, f1, i27_0 isHall3, rk, i41_0 isHall3, mB1_i, mB0_i, mB1n_i, mB0n_i, mB1_x, mB0_x, ↓if_pos, ↓if_neg, if_true, if_false, if_pos, if_neg]
  · have n1 := m1 (zU (zU C 4 (p * 4 + k) v) 185 0 0) O' t' (by rw [zU_r (by decide), s 186 (by omega)])
    have n2 := m2 (zU (zU C 4 (p * 4 + k) v) 185 0 0) O' t' (by rw [zU_r (by decide), s 186 (by omega)])
    have n3 := m3 (zU (zU C 4 (p * 4 + k) v) 185 0 0) O' t' (by rw [zU_r (by decide), s 186 (by omega)])
    obtain ⟨D, p1, p2, p3, p4⟩ := k_remembers (d := d + 11) (K := K) (O := O') (t := t') (ar := ar) (A1 := zU C 4 (p * 4 + k) v) (by rw [s 185 (by omega), a1]; exact a2)
    rw [s 186 (by omega)] at p4
    have ek : D 186 (15 + 6 * p + k) = A 186 (15 + 6 * p + k) := by rw [p4]
    have e6 : (zU D 186 (15 + 6 * p + k) v) 186 = zPt (A 186) (15 + 6 * p + k) v := by rw [zPt_u, p4]
    have hm : zRm (zU C 4 (p * 4 + k) v) (zU D 186 (15 + 6 * p + k) v) := zRm_u p2 (by omega)
    refine ⟨zU D 186 (15 + 6 * p + k) v, ?_, by rw [zU_c (by decide)]; exact p3, hm, by rw [e6]; exact hw1, ?_⟩
    · simp (disch := first | assumption | omega | exact zr_and | exact zr_or | exact zr_xor | exact zr_shl | exact zr_shr | exact zr_ushr | exact zr_byte | exact isHall3 | exact isLaw12) only [i276_0, i276_11, i276_14, i276_18, i276_21, i276_25, i276_26, i276_30, i276_33, i276_38, i276_42, i276_45, i276_47, i276_51, i276_57, i276_68, n1, n2, n3, c_thr0, p1, i258_0, i258_9, i234_0, ek, mB1_i, mB0_i, mB1n_i, mB0n_i, mB1_x, mB0_x, ↓if_pos, ↓if_neg, if_true, if_false, if_pos, if_neg]
    · rw [e6]
      exact zHR_same (A := zU C 4 (p * 4 + k) v) (fun c h1 h2 => hm.2.2.2.1 c (by omega)) hw1 hr1
end TELL
