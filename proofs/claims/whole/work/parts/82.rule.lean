/-! CALLS THAT CHANGE, 3: seed, rule -/
def zPt (h : Int → Int) (j v i : Int) : Int := if i = j then v else h i
theorem zPt_at {h : Int → Int} {j v : Int} : zPt h j v j = v := if_pos rfl
theorem zPt_ne {h : Int → Int} {j v i : Int} (hi : i ≠ j) : zPt h j v i = h i := if_neg hi
theorem zPt_u {C : Nat → Int → Int} {j v : Int} : (zU C 186 j v) 186 = zPt (C 186) j v := by
  funext i; unfold zU zPt; simp
section RULE
variable {ar : Nat → Nat × (Nat → Int32)} {d t : Nat} {K : Nat → Nat → Option Nat} {A : Nat → Int → Int} {O : Nat → Int64}
theorem zHWl_pt {h : Int → Int} {j v : Int} (hj : j < 63 ∧ j ≠ 5) (hw : zHWl h) : zHWl (zPt h j v) := zHWl_congr (zPt_ne (by omega)) (fun i i1 _ => zPt_ne (by omega)) hw
theorem zLog_pt {a : Nat} {h : Int → Int} {j v : Int} (hj : j < 63 ∧ j ≠ 5) (hw : zHWl h) (hl : zLog A a h) : zLog A a (zPt h j v) := zLog_congr (zPt_ne (by omega)) (fun i i1 _ => zPt_ne (by omega)) hw hl
theorem zLog_same {a : Nat} {h : Int → Int} {A' : Nat → Int → Int} (e : ∀ c, a + 5 ≤ c → c ≤ a + 8 → A' c = A c) (hl : zLog A a h) : zLog A' a h := by
  unfold zLog
  rw [e (a + 5) (by omega) (by omega), e (a + 6) (by omega) (by omega), e (a + 7) (by omega) (by omega), e (a + 8) (by omega) (by omega)]
  exact hl
theorem q_seed {n : Int} (hI : zInv A) : zQ ar K O t (d + 12) 55 [.ref 0, .int (zI n), .double 0] 343 [.ref 185, .int (zI n), .double 0] (fun _ => 0) A := by
  have e8 := hI.1.2.1.2.2.2.2.1
  refine ⟨zU A 3 8 n, Or.inl ⟨(zI (A 186 6)).toInt, ?_, (by
    have q1 := Int32.le_toInt (zI (A 186 6))
    have q2 := Int32.toInt_lt (zI (A 186 6))
    omega), fun O' t' => ⟨zU (zU (zU A 3 8 n) 185 0 0) 186 6 n, ?_, ?_, ?_⟩⟩⟩
  · rw [zI_toInt, ← e8]
    simp (disch := first | assumption | omega | exact zr_and | exact zr_or | exact zr_xor | exact zr_shl | exact zr_shr | exact zr_ushr | exact zr_byte | exact isHall3 | exact isLaw12) only [i55_0, mB1_i, mB0_i, mB1n_i, mB0n_i, mB1_x, mB0_x, ↓if_pos, ↓if_neg, if_true, if_false, if_pos, if_neg]
  · rw [zI_toInt, i343_0, zU_r (by decide), zU_r (by decide)]
  · rw [zU_c (by decide), zU_at]
  · have e6 : (zU (zU (zU A 3 8 n) 185 0 0) 186 6 n) 186 = zSd (A 186) n := by
      rw [zPt_u, zU_r (by decide), zU_r (by decide)]
      rfl
    have hr := zHR0_sd (s := n) hI.1.1.1 hI.1.2.1
    refine zInv_hall hI (by rw [e6]; exact zSd_wf hI.1.1) ?_ (by rw [e6]; exact if_neg (by decide)) (fun i hi => by rw [e6]; exact if_neg (by omega)) ?_ (fun c hc => by rw [zU_r (by omega), zU_r (by omega), zU_r (by omega)]) (fun j hj => by rw [zU_c (by decide), zU_s (by omega), zU_r (by decide)])
    · rw [e6]
      refine ⟨zHR0_same5 (A := zU A 3 8 n) (fun c h1 h2 => by rw [zU_r (by omega), zU_r (by omega)]) hr, ?_⟩
      exact zLog_same (A := A) (fun c h1 h2 => by rw [zU_r (by omega), zU_r (by omega), zU_r (by omega)]) (zLog_congr (h := A 186) (if_neg (by decide)) (fun i i1 _ => if_neg (by omega)) hI.1.1.2 hI.1.2.2)
    · exact zActs_same hI.2.2.2.1 (by rw [e6]; exact if_neg (by decide)) (fun c hc => by rw [zU_r (by omega), zU_r (by omega), zU_r (by omega)]) (by rw [zU_c (by decide), zU_s (by decide), zU_r (by decide)])
theorem zHR0_rule {h : Int → Int} {k r : Int} (hk : 0 ≤ k ∧ k < 4) (hw : zHW0 h) (hr : zHR0 A 3 h) : zHR0 (zU A 6 k r) 3 (zPt h (7 + k) r) := by
  have f : ∀ i, i < 7 ∨ 11 ≤ i → zPt h (7 + k) r i = h i := fun i hi => zPt_ne (by omega)
  obtain ⟨r0, r9, r7, r6, r8, rr, rm, rn, rw', ⟨s1, s2⟩⟩ := hr
  have hw0 := hw.1
  unfold zHR0 zStub
  rw [f 0 (by omega), f 1 (by omega), f 3 (by omega), f 4 (by omega), f 6 (by omega), zU_r (show (3 : Nat) ≠ 6 by decide), zU_r (show (3 + 4 : Nat) ≠ 6 by decide), zU_r (show (3 + 1 : Nat) ≠ 6 by decide), zU_r (show (3 + 2 : Nat) ≠ 6 by decide)]
  refine ⟨r0, r9, r7, r6, r8, fun j h1 h2 => ?_, fun j h1 h2 => ?_, fun p j h1 h2 h3 h4 => ?_, fun p h1 h2 => ?_, ⟨s1, fun p h1 h2 => ?_⟩⟩
  · by_cases hj : j = k
    · rw [hj, zPt_at]; exact zU_at
    · rw [zPt_ne (by omega), ← rr j h1 h2]; exact zU_s hj
  · rw [f _ (by omega)]; exact rm j h1 h2
  · rw [f _ (by omega)]; exact rn p j h1 h2 h3 h4
  · rw [f _ (by omega)]; exact rw' p h1 h2
  · rw [f _ (by omega)]; exact s2 p h1 h2
theorem zHW0_rule {h : Int → Int} {k r : Int} (hk : 0 ≤ k ∧ k < 4) (hr : 0 ≤ r ∧ r ≤ 5) (hw : zHW0 h) : zHW0 (zPt h (7 + k) r) := by
  have f : ∀ i, i < 7 ∨ 11 ≤ i → zPt h (7 + k) r i = h i := fun i hi => zPt_ne (by omega)
  obtain ⟨w0, w1, w2, w3, w4, wr, wm, wn, ww, ws⟩ := hw
  unfold zHW0
  rw [f 0 (by omega), f 1 (by omega), f 2 (by omega), f 3 (by omega), f 4 (by omega)]
  refine ⟨w0, w1, w2, w3, w4, fun j h1 h2 => ?_, fun j h1 h2 => ?_, fun p j h1 h2 h3 h4 => ?_, fun p h1 h2 => ?_, fun p h1 h2 => ?_⟩
  · by_cases hj : j = k
    · rw [hj, zPt_at]; exact hr
    · rw [zPt_ne (by omega)]; exact wr j h1 h2
  · rw [f _ (by omega)]; exact wm j h1 h2
  · rw [f _ (by omega)]; exact wn p j h1 h2 h3 h4
  · rw [f _ (by omega)]; exact ww p h1 h2
  · rw [f _ (by omega)]; exact ws p h1 h2
theorem zRc_hall {C A1 : Nat → Int → Int} (hc : zRc A C) (hn : 0 ≤ A 19 1 ∧ A 19 1 < 12) (hw : zHWf (A 186)) (e : ∀ c, ¬ (3 ≤ c ∧ c ≤ 11) → ¬ zSc c → A1 c = C c) : zRc A A1 := by
  obtain ⟨c1, c2, c3, c4⟩ := hc
  have e19 := e 19 (by omega) (by unfold zSc; omega)
  exact ⟨by rw [e19]; exact c1, by rw [e19]; exact c2, zHR_same (fun c h1 h2 => e c (by omega) (by unfold zSc; omega)) hw c3, fun c h1 h2 h3 h4 => by rw [e c h1 h4, c4 c h1 h2 h3 h4]⟩
theorem q_rule {k r : Int} (hK : mKok K) (hI : zInv A) (h_k : -2147483648 ≤ k ∧ k < 2147483648) (h_r : -2147483648 ≤ r ∧ r < 2147483648) : zQ ar K O t (d + 12) 123 [.ref 0, .int (zI k), .int (zI r), .double 0] 279 [.ref 185, .int (zI k), .int (zI r), .double 0] (fun E => if E = 2 then 1 else 0) A := by
  obtain ⟨hw, hr, e0, w0⟩ := zInv_f hI
  have u6 : ∀ v, zU A 185 0 v 186 = A 186 := fun v => zU_r (by decide)
  have M1 : ∀ (B : Nat → Int → Int) (O' : Nat → Int64) (t' : Nat), B 186 = A 186 → mGd ar (d + 11) 257 0 [.int (zI k)] [] (zW K B O' t') = some (.inl (some (.int (zI (if 0 ≤ k ∧ k < 4 then 0 else 1)))), zW K B O' t') := fun B O' t' e => c_noKind (d := (d + 10)) h_k
  have M2 : ∀ (B : Nat → Int → Int) (O' : Nat → Int64) (t' : Nat), B 186 = A 186 → mGd ar (d + 11) 256 0 [.int (zI r), .int (zI 0), .int (zI 5)] [] (zW K B O' t') = some (.inl (some (.int (zI (if 0 ≤ r ∧ r ≤ 5 then 1 else 0)))), zW K B O' t') := fun B O' t' e => c_in (d := (d + 11)) h_r (by decide) (by decide)
  by_cases g1 : 0 ≤ k ∧ k < 4
  case neg =>
    have k1 := c_nKindX (d := (d + 11)) (K := K) (O := O) (t := t) (ar := ar) (A := A) (p := k) h_k g1
    refine zQ_ex (E := 2) hI ?_ (by decide) (fun O' t' => ⟨0, zU A 185 0 1, ?_, zU_at, zFm_u⟩)
    · simp (disch := first | assumption | omega | exact zr_and | exact zr_or | exact zr_xor | exact zr_shl | exact zr_shr | exact zr_ushr | exact zr_byte | exact isHall3 | exact isLaw12) only [i123_0, i123_5, i123_10, i123_21, k1, mB1_i, mB0_i, mB1n_i, mB0n_i, mB1_x, mB0_x, ↓if_pos, ↓if_neg, if_true, if_false, if_pos, if_neg]
    · have n1 := M1 (zU A 185 0 0) O' t' (u6 0)
      rw [if_neg (by omega)] at n1
      simp (disch := first | assumption | omega | exact zr_and | exact zr_or | exact zr_xor | exact zr_shl | exact zr_shr | exact zr_ushr | exact zr_byte | exact isHall3 | exact isLaw12) only [i279_0, i279_10, i279_13, i279_19, i279_22, i279_26, i279_27, i279_31, i279_34, i279_36, i279_40, i279_45, n1, c_thr0, c_thr1, zU_uu, i233_0, zU_c, mB1_i, mB0_i, mB1n_i, mB0n_i, mB1_x, mB0_x, ↓if_pos, ↓if_neg, if_true, if_false, if_pos, if_neg]
  have k1 := c_nKind (d := (d + 11)) (K := K) (O := O) (t := t) (ar := ar) (A := A) (p := k) g1
  have m1 : ∀ (B : Nat → Int → Int) (O' : Nat → Int64) (t' : Nat), B 186 = A 186 → mGd ar (d + 11) 257 0 [.int (zI k)] [] (zW K B O' t') = some (.inl (some (.int (zI 0))), zW K B O' t') := fun B O' t' e => by have q := M1 B O' t' e; rwa [if_pos (by omega)] at q
  by_cases g2 : 0 ≤ r ∧ r < 6
  case neg =>
    have k2 := c_nRuleX (d := (d + 11)) (K := K) (O := O) (t := t) (ar := ar) (A := A) (p := r) h_r g2
    refine zQ_ex (E := 2) hI ?_ (by decide) (fun O' t' => ⟨0, zU A 185 0 1, ?_, zU_at, zFm_u⟩)
    · simp (disch := first | assumption | omega | exact zr_and | exact zr_or | exact zr_xor | exact zr_shl | exact zr_shr | exact zr_ushr | exact zr_byte | exact isHall3 | exact isLaw12) only [i123_0, i123_5, i123_10, i123_21, k1, k2, mB1_i, mB0_i, mB1n_i, mB0n_i, mB1_x, mB0_x, ↓if_pos, ↓if_neg, if_true, if_false, if_pos, if_neg]
    · have n1 := M1 (zU A 185 0 0) O' t' (u6 0)
      rw [if_pos (by omega)] at n1
      have n2 := M2 (zU A 185 0 0) O' t' (u6 0)
      rw [if_neg (by omega)] at n2
      simp (disch := first | assumption | omega | exact zr_and | exact zr_or | exact zr_xor | exact zr_shl | exact zr_shr | exact zr_ushr | exact zr_byte | exact isHall3 | exact isLaw12) only [i279_0, i279_10, i279_13, i279_19, i279_22, i279_26, i279_27, i279_31, i279_34, i279_36, i279_40, i279_45, n1, n2, c_thr0, c_thr1, zU_uu, i233_0, zU_c, mB1_i, mB0_i, mB1n_i, mB0n_i, mB1_x, mB0_x, ↓if_pos, ↓if_neg, if_true, if_false, if_pos, if_neg]
  have k2 := c_nRule (d := (d + 11)) (K := K) (O := O) (t := t) (ar := ar) (A := A) (p := r) g2
  have m2 : ∀ (B : Nat → Int → Int) (O' : Nat → Int64) (t' : Nat), B 186 = A 186 → mGd ar (d + 11) 256 0 [.int (zI r), .int (zI 0), .int (zI 5)] [] (zW K B O' t') = some (.inl (some (.int (zI 1))), zW K B O' t') := fun B O' t' e => by have q := M2 B O' t' e; rwa [if_pos (by omega)] at q
  obtain ⟨a1, a2, a3, -⟩ := hI.2.2.2.1
  obtain ⟨C, f1, f2, f3⟩ := k_remember (d := d + 9) (K := K) (O := O) (t := t) (ar := ar) hK hI
  have rk : C 6 k = A 186 (7 + k) := by
    rw [f3 6 (by omega) (by omega)]
    exact hr.2.2.2.2.2.1 k g1.1 g1.2
  have wk := hw.2.2.2.2.2.1 k g1.1 g1.2
  have hc : zRc A (zU C 6 k r) := zRc_hall f2 a3 hI.1.1 (fun c h1 _ => zU_r (by omega))
  have hrC : zHR C 3 (A 186) := zHR_same (fun c h1 h2 => f3 c h1 h2) hI.1.1 hI.1.2
  have hr1 : zHR (zU C 6 k r) 3 (zPt (A 186) (7 + k) r) := ⟨zHR0_rule g1 hw hrC.1, zLog_same (A := C) (fun c h1 h2 => zU_r (by omega)) (zLog_pt (by omega) hI.1.1.2 hrC.2)⟩
  have hw1 : zHWf (zPt (A 186) (7 + k) r) := ⟨zHW0_rule g1 (by omega) hw, zHWl_pt (by omega) hI.1.1.2⟩
  have s : ∀ c, c = 185 ∨ c = 186 → (zU C 6 k r) c = A c := fun c hx => by
    rw [zU_r (by omega)]
    exact f2.2.2.2 c (by omega) (by omega) (by omega) (by unfold zSc; omega)
  refine zQ_act (b := A 186 (7 + k)) (A1 := zU C 6 k r) hI ?_ hc (by omega) (fun O' t' => ?_)
  · simp (disch := first | assumption | omega | exact zr_and | exact zr_or | exact zr_xor | exact zr_shl | exact zr_shr | exact zr_ushr | exact zr_byte | exact isHall3 | exact isLaw12) only [i123_0, i123_5, i123_10, i123_21, k1, k2, f1, rk, mB1_i, mB0_i, mB1n_i, mB0n_i, mB1_x, mB0_x, ↓if_pos, ↓if_neg, if_true, if_false, if_pos, if_neg]
  · have n1 := m1 (zU (zU C 6 k r) 185 0 0) O' t' (by rw [zU_r (by decide), s 186 (by omega)])
    have n2 := m2 (zU (zU C 6 k r) 185 0 0) O' t' (by rw [zU_r (by decide), s 186 (by omega)])
    obtain ⟨D, p1, p2, p3, p4⟩ := k_remembers (d := d + 11) (K := K) (O := O') (t := t') (ar := ar) (A1 := zU C 6 k r) (by rw [s 185 (by omega), a1]; exact a2)
    rw [s 186 (by omega)] at p4
    have ek : D 186 (7 + k) = A 186 (7 + k) := by rw [p4]
    have e6 : (zU D 186 (7 + k) r) 186 = zPt (A 186) (7 + k) r := by rw [zPt_u, p4]
    have hm : zRm (zU C 6 k r) (zU D 186 (7 + k) r) := zRm_u p2 (by omega)
    refine ⟨zU D 186 (7 + k) r, ?_, by rw [zU_c (by decide)]; exact p3, hm, by rw [e6]; exact hw1, ?_⟩
    · simp (disch := first | assumption | omega | exact zr_and | exact zr_or | exact zr_xor | exact zr_shl | exact zr_shr | exact zr_ushr | exact zr_byte | exact isHall3 | exact isLaw12) only [i279_0, i279_10, i279_13, i279_19, i279_22, i279_26, i279_27, i279_31, i279_34, i279_36, i279_40, i279_45, n1, n2, c_thr0, p1, i280_0, ek, mB1_i, mB0_i, mB1n_i, mB0n_i, mB1_x, mB0_x, ↓if_pos, ↓if_neg, if_true, if_false, if_pos, if_neg]
    · rw [e6]
      exact zHR_same (A := zU C 6 k r) (fun c h1 h2 => hm.2.2.2.1 c (by omega)) hw1 hr1
end RULE
