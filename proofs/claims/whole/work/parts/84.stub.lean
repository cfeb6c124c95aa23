/-! CALLS THAT CHANGE, 5: stubborn -/
theorem zf_bits {n s k : Int} (hn : 0 ≤ n ∧ n ≤ 8) (hs : 0 ≤ s ∧ s ≤ zAll n) (hk : 0 ≤ k ∧ k < n) : zOr s (zShl 1 k) ≤ zAll n ∧ zAnd s (zXor (zShl 1 k) (-1)) ≤ zAll n := by
  have h : ∀ n : Fin 9, ∀ s : Fin 256, ∀ k : Fin 8, (s.val : Int) ≤ zAll (n.val : Int) → k.val < n.val → zOr (s.val : Int) (zShl 1 (k.val : Int)) ≤ zAll (n.val : Int) ∧ zAnd (s.val : Int) (zXor (zShl 1 (k.val : Int)) (-1)) ≤ zAll (n.val : Int) := by decide +kernel
  have hl := zAll_lt hn
  have := h ⟨n.toNat, by omega⟩ ⟨s.toNat, by omega⟩ ⟨k.toNat, by omega⟩
  simp only [Int.toNat_of_nonneg hs.1, Int.toNat_of_nonneg hn.1, Int.toNat_of_nonneg hk.1] at this
  exact this hs.2 (by omega)
/-- the bits when one is told to be stubborn or not -/
def zSb1 (s p v : Int) : Int := if v = 0 then zAnd s (zXor (zShl 1 p) (-1)) else zOr s (zShl 1 p)
section STUB
variable {ar : Nat → Nat × (Nat → Int32)} {d t : Nat} {K : Nat → Nat → Option Nat} {A : Nat → Int → Int} {O : Nat → Int64}
theorem zHR0_stub {h : Int → Int} {p v : Int} (w0 : 0 ≤ h 0 ∧ h 0 ≤ 8) (hp : 0 ≤ p ∧ p < h 0) (hv : v = 0 ∨ v = 1) (hr : zHR0 A 3 h) : zHR0 (zU A 3 3 (zSb1 (A 3 3) p v)) 3 (zPt h (15 + 6 * p + 5) v) := by
  have f : ∀ i, i < 15 → zPt h (15 + 6 * p + 5) v i = h i := fun i hi => zPt_ne (by omega)
  obtain ⟨r0, r9, r7, r6, r8, rr, rm, rn, rw', ⟨s1, s2⟩⟩ := hr
  have hl := zAll_lt w0
  have zb := zf_bits w0 s1 hp
  have zl := zf_less (s := A 3 3) (k := p) (by omega) (by omega)
  have zm := zf_more (s := A 3 3) (k := p) (by omega) (by omega)
  unfold zHR0 zStub
  rw [f 0 (by omega), f 1 (by omega), f 3 (by omega), f 4 (by omega), f 6 (by omega), zU_s (show (0 : Int) ≠ 3 by decide), zU_s (show (9 : Int) ≠ 3 by decide), zU_s (show (7 : Int) ≠ 3 by decide), zU_s (show (6 : Int) ≠ 3 by decide), zU_s (show (8 : Int) ≠ 3 by decide), zU_at, zU_r (show (3 + 3 : Nat) ≠ 3 by decide), zU_r (show (3 + 4 : Nat) ≠ 3 by decide), zU_r (show (3 + 1 : Nat) ≠ 3 by decide), zU_r (show (3 + 2 : Nat) ≠ 3 by decide)]
  refine ⟨r0, r9, r7, r6, r8, fun j h1 h2 => ?_, fun j h1 h2 => ?_, fun q j h1 h2 h3 h4 => ?_, fun q h1 h2 => ?_, ⟨?_, fun q h1 h2 => ?_⟩⟩
  · rw [f _ (by omega)]; exact rr j h1 h2
  · rw [f _ (by omega)]; exact rm j h1 h2
  · rw [zPt_ne (by omega)]; exact rn q j h1 h2 h3 h4
  · rw [zPt_ne (by omega)]; exact rw' q h1 h2
  · unfold zSb1
    split
    · exact ⟨zl.1.1, zb.2⟩
    · exact ⟨zm.1.1, zb.1⟩
  · have s2q := s2 q h1 h2
    unfold zSb1
    rcases hv with rfl | rfl
    · rw [if_pos rfl, zl.2 q (by omega)]
      by_cases hq : q = p
      · rw [hq, zPt_at]; simp
      · rw [zPt_ne (by omega), ← s2q]; simp [hq]
    · rw [if_neg (show ¬ (1 : Int) = 0 by decide), zm.2 q (by omega)]
      by_cases hq : q = p
      · rw [hq, zPt_at]; simp
      · rw [zPt_ne (by omega), ← s2q]; simp [hq]
theorem zHW0_stub {h : Int → Int} {p v : Int} (hp : 0 ≤ p ∧ p < h 0) (hv : v = 0 ∨ v = 1) (hw : zHW0 h) : zHW0 (zPt h (15 + 6 * p + 5) v) := by
  have f : ∀ i, i < 15 → zPt h (15 + 6 * p + 5) v i = h i := fun i hi => zPt_ne (by omega)
  obtain ⟨w0, w1, w2, w3, w4, wr, wm, wn, ww, ws⟩ := hw
  unfold zHW0
  rw [f 0 (by omega), f 1 (by omega), f 2 (by omega), f 3 (by omega), f 4 (by omega)]
  refine ⟨w0, w1, w2, w3, w4, fun j h1 h2 => ?_, fun j h1 h2 => ?_, fun q j h1 h2 h3 h4 => ?_, fun q h1 h2 => ?_, fun q h1 h2 => ?_⟩
  · rw [f _ (by omega)]; exact wr j h1 h2
  · rw [f _ (by omega)]; exact wm j h1 h2
  · rw [zPt_ne (by omega)]; exact wn q j h1 h2 h3 h4
  · rw [zPt_ne (by omega)]; exact ww q h1 h2
  · by_cases hq : q = p
    · rw [hq, zPt_at]; exact hv
    · rw [zPt_ne (by omega)]; exact ws q h1 h2
theorem q_stubborn {p v : Int} (hK : mKok K) (hI : zInv A) (h_p : -2147483648 ≤ p ∧ p < 2147483648) (hv : v = 0 ∨ v = 1) : zQ ar K O t (d + 12) 125 [.ref 0, .int (zI p), .int (zI v), .double 0] 281 [.ref 185, .int (zI p), .int (zI v), .double 0] (fun E => if E = 2 then 1 else 0) A := by
  obtain ⟨hw, hr, e0, w0⟩ := zInv_f hI
  have u6 : ∀ v, zU A 185 0 v 186 = A 186 := fun v => zU_r (by decide)
  have M1 : ∀ (B : Nat → Int → Int) (O' : Nat → Int64) (t' : Nat), B 186 = A 186 → mGd ar (d + 11) 255 0 [.ref 185, .int (zI p)] [] (zW K B O' t') = some (.inl (some (.int (zI (if 0 ≤ p ∧ p < A 186 0 then 0 else 1)))), zW K B O' t') := fun B O' t' e => by rw [← e]; exact c_noPerson (d := (d + 10)) h_p (by rw [e]; exact w0)
  by_cases g1 : 0 ≤ p ∧ p < A 186 0
  case neg =>
    have k1 := c_nPersonX (d := (d + 11)) (K := K) (O := O) (t := t) (ar := ar) (A := A) (p := p) h_p (by omega) (by omega)
    refine zQ_ex (E := 2) hI ?_ (by decide) (fun O' t' => ⟨0, zU A 185 0 1, ?_, zU_at, zFm_u⟩)
    · simp (disch := first | assumption | omega | exact zr_and | exact zr_or | exact zr_xor | exact zr_shl | exact zr_shr | exact zr_ushr | exact zr_byte | exact isHall3 | exact isLaw12) only [i125_0, i125_5, i125_16, i125_24, i125_34, i125_39, i125_43, i125_44, k1, mB1_i, mB0_i, mB1n_i, mB0n_i, mB1_x, mB0_x, ↓if_pos, ↓if_neg, if_true, if_false, if_pos, if_neg]
    · have n1 := M1 (zU A 185 0 0) O' t' (u6 0)
      rw [if_neg (by omega)] at n1
      simp (disch := first | assumption | omega | exact zr_and | exact zr_or | exact zr_xor | exact zr_shl | exact zr_shr | exact zr_ushr | exact zr_byte | exact isHall3 | exact isLaw12) only [i281_0, i281_11, i281_15, i281_18, i281_20, i281_24, i281_30, i281_34, i281_38, i281_39, i281_49, i281_53, i281_57, i281_58, i281_64, i281_68, i281_69, n1, c_thr0, c_thr1, zU_uu, i233_0, zU_c, mB1_i, mB0_i, mB1n_i, mB0n_i, mB1_x, mB0_x, ↓if_pos, ↓if_neg, if_true, if_false, if_pos, if_neg]
  have k1 := c_nPerson (d := (d + 11)) (K := K) (O := O) (t := t) (ar := ar) (A := A) (p := p) (by omega) (by omega)
  have m1 : ∀ (B : Nat → Int → Int) (O' : Nat → Int64) (t' : Nat), B 186 = A 186 → mGd ar (d + 11) 255 0 [.ref 185, .int (zI p)] [] (zW K B O' t') = some (.inl (some (.int (zI 0))), zW K B O' t') := fun B O' t' e => by have q := M1 B O' t' e; rwa [if_pos (by omega)] at q
  obtain ⟨a1, a2, a3, -⟩ := hI.2.2.2.1
  obtain ⟨C, f1, f2, f3⟩ := k_remember (d := d + 9) (K := K) (O := O) (t := t) (ar := ar) hK hI
  have hrC : zHR C 3 (A 186) := zHR_same (fun c h1 h2 => f3 c h1 h2) hI.1.1 hI.1.2
  obtain ⟨s1, s2⟩ := hrC.1.2.2.2.2.2.2.2.2.2
  have hl := zAll_lt w0
  have ws := hw.2.2.2.2.2.2.2.2.2 p g1.1 g1.2
  have c1 := c_stub (d := d + 11) (K := K) (O := O) (t := t) (ar := ar) (A := C) isHall3 (p := p) (by omega) (by omega)
  have eb : (if zB (C 3 3) p = true then (1 : Int) else 0) = A 186 (15 + 6 * p + 5) := by
    have := s2 p g1.1 g1.2
    by_cases hb : zB (C 3 3) p = true
    · rw [if_pos hb, this.1 hb]
    · rw [if_neg hb]
      rcases ws with h | h
      · exact h.symm
      · exact absurd (this.2 h) hb
  rw [eb] at c1
  have hc : zRc A (zU C 3 3 (zSb1 (C 3 3) p v)) := zRc_hall f2 a3 hI.1.1 (fun c h1 _ => zU_r (by omega))
  have hr1 : zHR (zU C 3 3 (zSb1 (C 3 3) p v)) 3 (zPt (A 186) (15 + 6 * p + 5) v) := ⟨zHR0_stub w0 g1 hv hrC.1, zLog_same (A := C) (fun c h1 h2 => zU_r (by omega)) (zLog_pt (by omega) hI.1.1.2 hrC.2)⟩
  have hw1 : zHWf (zPt (A 186) (15 + 6 * p + 5) v) := ⟨zHW0_stub g1 hv hw, zHWl_pt (by omega) hI.1.1.2⟩
  have s : ∀ c, c = 185 ∨ c = 186 → (zU C 3 3 (zSb1 (C 3 3) p v)) c = A c := fun c hx => by
    rw [zU_r (by omega)]
    exact f2.2.2.2 c (by omega) (by omega) (by omega) (by unfold zSc; omega)
  have c2 : mGd ar (d + 11) 86 0 [.ref 3, .int (zI p), .int (zI v)] [] (zW K C O t) = some (.inl none, zW K (zU C 3 3 (zSb1 (C 3 3) p v)) O t) := by
    unfold zSb1
    rcases hv with rfl | rfl
    · rw [if_pos rfl]; simp (disch := first | assumption | omega | exact zr_and | exact zr_or | exact zr_xor | exact zr_shl | exact zr_shr | exact zr_ushr | exact zr_byte | exact isHall3 | exact isLaw12) only [i86_0 isHall3, i86_16 isHall3, i86_26 isHall3, mB1_i, mB0_i, mB1n_i, mB0n_i, mB1_x, mB0_x, ↓if_pos, ↓if_neg, if_true, if_false, if_pos, if_neg]
    · rw [if_neg (show ¬ (1 : Int) = 0 by decide)]; simp (disch := first | assumption | omega | exact zr_and | exact zr_or | exact zr_xor | exact zr_shl | exact zr_shr | exact zr_ushr | exact zr_byte | exact isHall3 | exact isLaw12) only [i86_0 isHall3, i86_5 isHall3, i86_26 isHall3, mB1_i, mB0_i, mB1n_i, mB0n_i, mB1_x, mB0_x, ↓if_pos, ↓if_neg, if_true, if_false, if_pos, if_neg]
  generalize eW : A 186 (15 + 6 * p + 5) = y at c1 ws
  refine zQ_act (b := if y = v then 0 else 1) (A1 := zU C 3 3 (zSb1 (C 3 3) p v)) hI ?_ hc (by split <;> omega) (fun O' t' => ?_)
  · by_cases hy : y = v
    · rw [if_pos hy]; simp (disch := first | assumption | omega | exact zr_and | exact zr_or | exact zr_xor | exact zr_shl | exact zr_shr | exact zr_ushr | exact zr_byte | exact isHall3 | exact isLaw12) only [i125_0, i125_5, i125_16, i125_24, i125_34, i125_39, i125_43, i125_44, k1, f1, c1, c2, mB1_i, mB0_i, mB1n_i, mB0n_i, mB1_x, mB0_x, ↓if_pos, ↓if_neg, if_true, if_false, if_pos, if_neg]
    · rw [if_neg hy]; simp (disch := first | assumption | omega | exact zr_and | exact zr_or | exact zr_xor | exact zr_shl | exact zr_shr | exact zr_ushr | exact zr_byte | exact isHall3 | exact isLaw12) only [i125_0, i125_5, i125_16, i125_24, i125_34, i125_39, i125_43, i125_44, k1, f1, c1, c2, mB1_i, mB0_i, mB1n_i, mB0n_i, mB1_x, mB0_x, ↓if_pos, ↓if_neg, if_true, if_false, if_pos, if_neg]
  · have n1 := m1 (zU (zU C 3 3 (zSb1 (C 3 3) p v)) 185 0 0) O' t' (by rw [zU_r (by decide), s 186 (by omega)])
    obtain ⟨D, p1, p2, p3, p4⟩ := k_remembers (d := d + 11) (K := K) (O := O') (t := t') (ar := ar) (A1 := zU C 3 3 (zSb1 (C 3 3) p v)) (by rw [s 185 (by omega), a1]; exact a2)
    rw [s 186 (by omega)] at p4
    have ek : D 186 (15 + 6 * p + 5) = y := by rw [p4, eW]
    have c3 := c_of (d := d + 10) (K := K) (O := O') (t := t') (ar := ar) (A := D) (p := p) (k := 5) (by omega) (by omega)
    rw [ek] at c3
    have e6 : (zU D 186 (15 + 6 * p + 5) v) 186 = zPt (A 186) (15 + 6 * p + 5) v := by rw [zPt_u, p4]
    have hm : zRm (zU C 3 3 (zSb1 (C 3 3) p v)) (zU D 186 (15 + 6 * p + 5) v) := zRm_u p2 (by omega)
    refine ⟨zU D 186 (15 + 6 * p + 5) v, ?_, by rw [zU_c (by decide)]; exact p3, hm, by rw [e6]; exact hw1, ?_⟩
    · rcases hv with rfl | rfl <;> rcases ws with rfl | rfl <;> simp (disch := first | assumption | omega | exact zr_and | exact zr_or | exact zr_xor | exact zr_shl | exact zr_shr | exact zr_ushr | exact zr_byte | exact isHall3 | exact isLaw12) only [i281_0, i281_11, i281_15, i281_18, i281_20, i281_24, i281_30, i281_34, i281_38, i281_39, i281_49, i281_53, i281_57, i281_58, i281_64, i281_68, i281_69, n1, c_thr0, p1, c3, i234_0, mB1_i, mB0_i, mB1n_i, mB0n_i, mB1_x, mB0_x, ↓if_pos, ↓if_neg, if_true, if_false, if_pos, if_neg]
    · rw [e6]
      exact zHR_same (A := zU C 3 3 (zSb1 (C 3 3) p v)) (fun c h1 h2 => hm.2.2.2.1 c (by omega)) hw1 hr1
end STUB
