/-! CALLS, 21: led, steady, log, fault -/
section LOGS
variable {ar : Nat → Nat × (Nat → Int32)} {d t : Nat} {K : Nat → Nat → Option Nat} {A : Nat → Int → Int} {O : Nat → Int64}
theorem c_manAt {h : Int → Int} (hw : zHWl h) (hl : zLog A 3 h) {i k : Int} (hi : 0 ≤ i ∧ i < h 5) (hk : 0 ≤ k ∧ k < 4) : mGd ar (d + 2) 210 0 [.ref 8, .int (zI i), .int (zI k)] [] (zW K A O t) = some (.inl (some (.int (zI (h (63 + 6 * i + (1 + k)))))), zW K A O t) := by
  obtain ⟨w5, wl⟩ := hw
  obtain ⟨-, l1, l2⟩ := hl
  have c1 : mGd ar (d + 1) 53 0 [.ref 8, .int (zI i)] [] (zW K A O t) = some (.inl (some (.int (zI ((A 8 1 - i) % 60)))), zW K A O t) := c_slot (d := d) (K := K) (O := O) (t := t) (ar := ar) (A := A) isHall3 l1 (by omega)
  have l1' : 0 ≤ A 8 1 ∧ A 8 1 < 60 := l1
  have e : A 10 ((A 8 1 - i) % 60) = zPack (h (63 + 6 * i + 1)) (h (63 + 6 * i + 2)) (h (63 + 6 * i + 3)) (h (63 + 6 * i + 4)) := (l2 i hi.1 hi.2).2.1
  have w := (wl i hi.1 hi.2).2.1
  have u := zf_unpack (k := k) (w 1 (by omega) (by omega)) (w 2 (by omega) (by omega)) (w 3 (by omega) (by omega)) (w 4 (by omega) (by omega)) hk
  have u2 : zAnd (zUshr (zPack (h (63 + 6 * i + 1)) (h (63 + 6 * i + 2)) (h (63 + 6 * i + 3)) (h (63 + 6 * i + 4))) (7 * k)) 127 = h (63 + 6 * i + (1 + k)) := by
    rw [u]
    have : k = 0 ∨ k = 1 ∨ k = 2 ∨ k = 3 := by omega
    rcases this with rfl | rfl | rfl | rfl <;> rfl
  rw [← u2, ← e]
  simp (disch := first | assumption | omega | exact zr_and | exact zr_or | exact zr_xor | exact zr_shl | exact zr_shr | exact zr_ushr | exact zr_byte | exact isHall3 | exact isLaw12) only [i210_0 (isHall_log isHall3), c1, i210_9 (isHall_log isHall3), mB1_i, mB0_i, mB1n_i, mB0n_i, mB1_x, mB0_x, ↓if_pos, ↓if_neg, if_true, if_false, if_pos, if_neg]
theorem c_dayAt {h : Int → Int} (hw : zHWl h) (hl : zLog A 3 h) {i : Int} (hi : 0 ≤ i ∧ i < h 5) : mGd ar (d + 2) 211 0 [.ref 8, .int (zI i)] [] (zW K A O t) = some (.inl (some (.int (zI (h (63 + 6 * i))))), zW K A O t) := by
  obtain ⟨w5, wl⟩ := hw
  obtain ⟨-, l1, l2⟩ := hl
  have c1 : mGd ar (d + 1) 53 0 [.ref 8, .int (zI i)] [] (zW K A O t) = some (.inl (some (.int (zI ((A 8 1 - i) % 60)))), zW K A O t) := c_slot (d := d) (K := K) (O := O) (t := t) (ar := ar) (A := A) isHall3 l1 (by omega)
  have l1' : 0 ≤ A 8 1 ∧ A 8 1 < 60 := l1
  have e : A 9 ((A 8 1 - i) % 60) = h (63 + 6 * i) := (l2 i hi.1 hi.2).1
  rw [← e]
  simp (disch := first | assumption | omega | exact zr_and | exact zr_or | exact zr_xor | exact zr_shl | exact zr_shr | exact zr_ushr | exact zr_byte | exact isHall3 | exact isLaw12) only [i211_0 (isHall_log isHall3), c1, i211_9 (isHall_log isHall3), mB1_i, mB0_i, mB1n_i, mB0n_i, mB1_x, mB0_x, ↓if_pos, ↓if_neg, if_true, if_false, if_pos, if_neg]
theorem c_changedAt {h : Int → Int} (hw : zHWl h) (hl : zLog A 3 h) {i : Int} (hi : 0 ≤ i ∧ i < h 5) : mGd ar (d + 2) 214 0 [.ref 8, .int (zI i)] [] (zW K A O t) = some (.inl (some (.int (zI (h (63 + 6 * i + 5))))), zW K A O t) := by
  obtain ⟨w5, wl⟩ := hw
  obtain ⟨-, l1, l2⟩ := hl
  have c1 : mGd ar (d + 1) 53 0 [.ref 8, .int (zI i)] [] (zW K A O t) = some (.inl (some (.int (zI ((A 8 1 - i) % 60)))), zW K A O t) := c_slot (d := d) (K := K) (O := O) (t := t) (ar := ar) (A := A) isHall3 l1 (by omega)
  have l1' : 0 ≤ A 8 1 ∧ A 8 1 < 60 := l1
  have e : A 11 ((A 8 1 - i) % 60) = h (63 + 6 * i + 5) := (l2 i hi.1 hi.2).2.2
  rw [← e]
  simp (disch := first | assumption | omega | exact zr_and | exact zr_or | exact zr_xor | exact zr_shl | exact zr_shr | exact zr_ushr | exact zr_byte | exact isHall3 | exact isLaw12) only [i214_0 (isHall_log isHall3), c1, i214_9 (isHall_log isHall3), mB1_i, mB0_i, mB1n_i, mB0n_i, mB1_x, mB0_x, ↓if_pos, ↓if_neg, if_true, if_false, if_pos, if_neg]
theorem q_fault (hI : zInv A) : zQ ar K O t (d + 12) 17 [.ref 0] 222 [.ref 185] (fun _ => 0) A := by
  obtain ⟨-, -, -, -, -, ⟨f1, f2, f3⟩, -⟩ := id hI
  refine zQ_ok (b := A 0 15) (A1 := A) hI (by simp (disch := first | assumption | omega | exact zr_and | exact zr_or | exact zr_xor | exact zr_shl | exact zr_shr | exact zr_ushr | exact zr_byte | exact isHall3 | exact isLaw12) only [i17_0, mB1_i, mB0_i, mB1n_i, mB0n_i, mB1_x, mB0_x, ↓if_pos, ↓if_neg, if_true, if_false, if_pos, if_neg]) zFc_refl (by omega) (fun O' t' => ⟨zU A 185 0 0, ?_, zU_at, zFm_u⟩)
  rw [← f1, i222_0, zU_s (by decide)]
def zLed (h : Int → Int) (k v : Int) : Nat → Int → Int
  | 0, _ => -1
  | m + 1, i => if h (63 + 6 * i + (1 + k)) = v then h (63 + 6 * i) else zLed h k v m (i + 1)
theorem zLed_rng {h : Int → Int} (hw : zHWl h) {k v : Int} : ∀ {m : Nat} {i : Int}, 0 ≤ i → i + m ≤ h 5 → -1 ≤ zLed h k v m i ∧ zLed h k v m i ≤ 9999
  | 0, _, _, _ => by show (-1 : Int) ≤ -1 ∧ (-1 : Int) ≤ 9999; decide
  | m + 1, i, i0, i1 => by
    have := (hw.2 i i0 (by omega)).1
    unfold zLed
    split
    · omega
    · exact zLed_rng hw (by omega) (by omega)
theorem q_led {k v : Int} (hI : zInv A) (h_k : -2147483648 ≤ k ∧ k < 2147483648) (h_v : -2147483648 ≤ v ∧ v < 2147483648) : zQ ar K O t (d + 12) 209 [.ref 0, .int (zI k), .int (zI v), .double 0, .double 0] 338 [.ref 185, .int (zI k), .int (zI v), .double 0] (fun E => if E = 2 then 1 else 0) A := by
  obtain ⟨hw, hr, e0, w0⟩ := zInv_f hI
  have u6 : ∀ v, zU A 185 0 v 186 = A 186 := fun v => zU_r (by decide)
  have M1 : ∀ (B : Nat → Int → Int) (O' : Nat → Int64) (t' : Nat), B 186 = A 186 → mGd ar (d + 11) 257 0 [.int (zI k)] [] (zW K B O' t') = some (.inl (some (.int (zI (if 0 ≤ k ∧ k < 4 then 0 else 1)))), zW K B O' t') := fun B O' t' e => c_noKind (d := (d + 10)) h_k
  by_cases g1 : 0 ≤ k ∧ k < 4
  case neg =>
    have k1 := c_nKindX (d := (d + 11)) (K := K) (O := O) (t := t) (ar := ar) (A := A) (p := k) h_k g1
    refine zQ_ex (E := 2) hI ?_ (by decide) (fun O' t' => ⟨0, zU A 185 0 1, ?_, zU_at, zFm_u⟩)
    · simp (disch := first | assumption | omega | exact zr_and | exact zr_or | exact zr_xor | exact zr_shl | exact zr_shr | exact zr_ushr | exact zr_byte | exact isHall3 | exact isLaw12) only [i209_0, i209_5, i209_16, i209_25, i209_32, i209_36, i209_42, i209_43, i209_49, k1, mB1_i, mB0_i, mB1n_i, mB0n_i, mB1_x, mB0_x, ↓if_pos, ↓if_neg, if_true, if_false, if_pos, if_neg]
    · have n1 := M1 (zU A 185 0 0) O' t' (u6 0)
      rw [if_neg (by omega)] at n1
      simp (disch := first | assumption | omega | exact zr_and | exact zr_or | exact zr_xor | exact zr_shl | exact zr_shr | exact zr_ushr | exact zr_byte | exact isHall3 | exact isLaw12) only [i338_0, i338_10, i338_14, i338_17, i338_19, i338_21, i338_31, i338_39, i338_43, i338_49, i338_50, i338_56, n1, c_thr0, c_thr1, zU_uu, i233_0, zU_c, mB1_i, mB0_i, mB1n_i, mB0n_i, mB1_x, mB0_x, ↓if_pos, ↓if_neg, if_true, if_false, if_pos, if_neg]
  have k1 := c_nKind (d := (d + 11)) (K := K) (O := O) (t := t) (ar := ar) (A := A) (p := k) g1
  have m1 : ∀ (B : Nat → Int → Int) (O' : Nat → Int64) (t' : Nat), B 186 = A 186 → mGd ar (d + 11) 257 0 [.int (zI k)] [] (zW K B O' t') = some (.inl (some (.int (zI 0))), zW K B O' t') := fun B O' t' e => by have q := M1 B O' t' e; rwa [if_pos (by omega)] at q
  have wl := hI.1.1.2
  have hl := hI.1.2.2
  have w5 := wl.1
  have e5 : A 8 0 = A 186 5 := hl.1
  have cl : ∀ (m : Nat) (i : Int), i + m = A 186 5 → 0 ≤ i → mGd ar (d + 12) 209 16 [.ref 0, .int (zI k), .int (zI v), .ref 8, .int (zI i)] [] (zW K A O t) = some (.inl (some (.int (zI (zLed (A 186) k v m i)))), zW K A O t) := by
    intro m
    induction m with
    | zero =>
      intro i hi i0
      simp (disch := first | assumption | omega | exact zr_and | exact zr_or | exact zr_xor | exact zr_shl | exact zr_shr | exact zr_ushr | exact zr_byte | exact isHall3 | exact isLaw12) only [i209_16, i209_49, mB1_i, mB0_i, mB1n_i, mB0n_i, mB1_x, mB0_x, ↓if_pos, ↓if_neg, if_true, if_false, if_pos, if_neg]
      rfl
    | succ m ih =>
      intro i hi i0
      have c1 := c_manAt (d := d + 9) (K := K) (O := O) (t := t) (ar := ar) (A := A) wl hl (i := i) (k := k) (by omega) g1
      have c2 := c_dayAt (d := d + 9) (K := K) (O := O) (t := t) (ar := ar) (A := A) wl hl (i := i) (by omega)
      have rm := (wl.2 i i0 (by omega)).2.1 (1 + k) (by omega) (by omega)
      have q := ih (i + 1) (by omega) (by omega)
      rw [show zLed (A 186) k v (m + 1) i = if A 186 (63 + 6 * i + (1 + k)) = v then A 186 (63 + 6 * i) else zLed (A 186) k v m (i + 1) from rfl, i209_16 (by omega) (by omega)]
      by_cases hc : A 186 (63 + 6 * i + (1 + k)) = v
      · rw [if_pos hc]
        rw [hc] at c1
        simp (disch := first | assumption | omega | exact zr_and | exact zr_or | exact zr_xor | exact zr_shl | exact zr_shr | exact zr_ushr | exact zr_byte | exact isHall3 | exact isLaw12) only [i209_5, i209_25, i209_32, i209_36, i209_42, i209_43, i209_49, c1, c2, mB1_i, mB0_i, mB1n_i, mB0n_i, mB1_x, mB0_x, ↓if_pos, ↓if_neg, if_true, if_false, if_pos, if_neg]
      · rw [if_neg hc, ← q]
        simp (disch := first | assumption | omega | exact zr_and | exact zr_or | exact zr_xor | exact zr_shl | exact zr_shr | exact zr_ushr | exact zr_byte | exact isHall3 | exact isLaw12) only [i209_5, i209_25, i209_32, i209_36, i209_42, i209_43, i209_49, c1, mB1_i, mB0_i, mB1n_i, mB0n_i, mB1_x, mB0_x, ↓if_pos, ↓if_neg, if_true, if_false, if_pos, if_neg]
  have q := cl (A 186 5).toNat 0 (by omega) (by omega)
  have rr := zLed_rng wl (k := k) (v := v) (m := (A 186 5).toNat) (i := 0) (by omega) (by omega)
  refine zQ_ok (b := zLed (A 186) k v (A 186 5).toNat 0) (A1 := A) hI ?_ zFc_refl (by omega) (fun O' t' => ⟨zU A 185 0 0, ?_, zU_at, zFm_u⟩)
  · simp (disch := first | assumption | omega | exact zr_and | exact zr_or | exact zr_xor | exact zr_shl | exact zr_shr | exact zr_ushr | exact zr_byte | exact isHall3 | exact isLaw12) only [i209_0, i209_5, i209_25, i209_32, i209_36, i209_42, i209_43, i209_49, k1, q, mB1_i, mB0_i, mB1n_i, mB0n_i, mB1_x, mB0_x, ↓if_pos, ↓if_neg, if_true, if_false, if_pos, if_neg]
  · have n1 := m1 (zU A 185 0 0) O' t' (u6 0)
    have e6 : ∀ i, zU A 185 0 0 186 i = A 186 i := fun i => by rw [zU_r (by decide)]
    have l1 : ∀ (m : Nat) (i : Int), i + m = A 186 5 → 0 ≤ i → mGd ar (d + 12) 338 21 [.ref 185, .int (zI k), .int (zI v), .int (zI i)] [] (zW K (zU A 185 0 0) O' t') = some (.inl (some (.int (zI (zLed (A 186) k v m i)))), zW K (zU A 185 0 0) O' t') := by
      intro m
      induction m with
      | zero =>
        intro i hi i0
        rw [i338_21 (by omega) (by rw [e6]; omega), e6, if_pos (by omega), i338_56]
        rfl
      | succ m ih =>
        intro i hi i0
        have rm := (wl.2 i i0 (by omega)).2.1 (1 + k) (by omega) (by omega)
        have q := ih (i + 1) (by omega) (by omega)
        rw [show zLed (A 186) k v (m + 1) i = if A 186 (63 + 6 * i + (1 + k)) = v then A 186 (63 + 6 * i) else zLed (A 186) k v m (i + 1) from rfl, i338_21 (by omega) (by rw [e6]; omega)]
        by_cases hc : A 186 (63 + 6 * i + (1 + k)) = v
        · rw [if_pos hc]
          simp (disch := first | assumption | omega | exact zr_and | exact zr_or | exact zr_xor | exact zr_shl | exact zr_shr | exact zr_ushr | exact zr_byte | exact isHall3 | exact isLaw12) only [i338_10, i338_14, i338_17, i338_19, i338_31, i338_39, i338_43, i338_49, i338_50, i338_56, i339_0, e6, hc, Int.add_zero, mB1_i, mB0_i, mB1n_i, mB0n_i, mB1_x, mB0_x, ↓if_pos, ↓if_neg, if_true, if_false, if_pos, if_neg]
        · rw [if_neg hc, ← q]
          simp (disch := first | assumption | omega | exact zr_and | exact zr_or | exact zr_xor | exact zr_shl | exact zr_shr | exact zr_ushr | exact zr_byte | exact isHall3 | exact isLaw12) only [i338_10, i338_14, i338_17, i338_19, i338_31, i338_39, i338_43, i338_49, i338_50, i338_56, i339_0, e6, hc, mB1_i, mB0_i, mB1n_i, mB0n_i, mB1_x, mB0_x, ↓if_pos, ↓if_neg, if_true, if_false, if_pos, if_neg]
    have q2 := l1 (A 186 5).toNat 0 (by omega) (by omega)
    simp (disch := first | assumption | omega | exact zr_and | exact zr_or | exact zr_xor | exact zr_shl | exact zr_shr | exact zr_ushr | exact zr_byte | exact isHall3 | exact isLaw12) only [i338_0, i338_10, i338_14, i338_17, i338_19, i338_31, i338_39, i338_43, i338_49, i338_50, i338_56, n1, c_thr0, q2, mB1_i, mB0_i, mB1n_i, mB0n_i, mB1_x, mB0_x, ↓if_pos, ↓if_neg, if_true, if_false, if_pos, if_neg]
/-! steady -/
def zMs4 (h : Int → Int) (i : Int) : Prop := ∀ k, 1 ≤ k → k ≤ 4 → h (63 + 6 * i + k) = h (63 + 6 * 0 + k)
noncomputable def zStd (c : Int → Prop) : Nat → Int → Int
  | 0, i => i
  | m + 1, i => @ite Int (c i) (Classical.propDecidable _) (zStd c m (i + 1)) i
theorem zStd_rng {c : Int → Prop} : ∀ {m : Nat} {i : Int}, 0 ≤ i → i + m ≤ 60 → 0 ≤ zStd c m i ∧ zStd c m i ≤ 60
  | 0, _, h0, h1 => ⟨h0, by unfold zStd; omega⟩
  | m + 1, i, h0, h1 => by
    unfold zStd
    split
    · exact zStd_rng (by omega) (by omega)
    · omega
theorem zMs4_iff {h : Int → Int} (hw : zHWl h) {i : Int} (hi : 0 ≤ i ∧ i < h 5) : zMs4 h i ↔ zPack (h (63 + 6 * i + 1)) (h (63 + 6 * i + 2)) (h (63 + 6 * i + 3)) (h (63 + 6 * i + 4)) = zPack (h (63 + 6 * 0 + 1)) (h (63 + 6 * 0 + 2)) (h (63 + 6 * 0 + 3)) (h (63 + 6 * 0 + 4)) := by
  have a := (hw.2 i hi.1 hi.2).2.1
  have b := (hw.2 0 (by omega) (by omega)).2.1
  rw [zPack_inj (b 1 (by omega) (by omega)) (b 2 (by omega) (by omega)) (b 3 (by omega) (by omega)) (b 4 (by omega) (by omega)) (a 1 (by omega) (by omega)) (a 2 (by omega) (by omega)) (a 3 (by omega) (by omega)) (a 4 (by omega) (by omega))]
  constructor
  · intro hk
    exact ⟨(hk 1 (by decide) (by decide)).symm, (hk 2 (by decide) (by decide)).symm, (hk 3 (by decide) (by decide)).symm, (hk 4 (by decide) (by decide)).symm⟩
  · intro ⟨e1, e2, e3, e4⟩ k k0 k1
    have : k = 1 ∨ k = 2 ∨ k = 3 ∨ k = 4 := by omega
    rcases this with rfl | rfl | rfl | rfl
    · exact e1.symm
    · exact e2.symm
    · exact e3.symm
    · exact e4.symm
theorem c_same {i : Int} (hw : zHWl (A 186)) (hi : 0 ≤ i ∧ i < A 186 5) : ∃ r, mGd ar (d + 1) 341 0 [.ref 185, .int (zI i), .double 0, .double 0] [] (zW K A O t) = some (.inl (some (.int (zI r))), zW K A O t) ∧ (r = 0 ∨ r = 1) ∧ (r = 1 ↔ zMs4 (A 186) i) := by
  have w5 := hw.1
  have l1 : ∀ (m : Nat) (k s : Int), k + m = 5 → 1 ≤ k → (s = 0 ∨ s = 1) → ∃ r, mGd ar (d + 1) 341 4 [.ref 185, .int (zI i), .int (zI s), .int (zI k)] [] (zW K A O t) = some (.inl (some (.int (zI r))), zW K A O t) ∧ (r = 0 ∨ r = 1) ∧ (r = 1 ↔ s = 1 ∧ ∀ j, k ≤ j → j ≤ 4 → A 186 (63 + 6 * i + j) = A 186 (63 + 6 * 0 + j)) := by
    intro m
    induction m with
    | zero =>
      intro k s hk k0 hs
      exact ⟨s, by simp (disch := first | assumption | omega | exact zr_and | exact zr_or | exact zr_xor | exact zr_shl | exact zr_shr | exact zr_ushr | exact zr_byte | exact isHall3 | exact isLaw12) only [i341_4, i341_40, mB1_i, mB0_i, mB1n_i, mB0n_i, mB1_x, mB0_x, ↓if_pos, ↓if_neg, if_true, if_false, if_pos, if_neg], hs, ⟨fun h => ⟨h, fun j j0 j1 => by omega⟩, fun h => h.1⟩⟩
    | succ m ih =>
      intro k s hk k0 hs
      have r1 := (hw.2 i hi.1 hi.2).2.1 k (by omega) (by omega)
      have r2 := (hw.2 0 (by omega) (by omega)).2.1 k (by omega) (by omega)
      by_cases h0 : s = 0
      · obtain ⟨r, q1, q2, q3⟩ := ih (k + 1) 0 (by omega) (by omega) (Or.inl rfl)
        refine ⟨r, ?_, q2, ⟨fun h => absurd (q3.1 h).1 (by decide), fun h => by omega⟩⟩
        rw [← q1, i341_4 (by omega)]
        simp (disch := first | assumption | omega | exact zr_and | exact zr_or | exact zr_xor | exact zr_shl | exact zr_shr | exact zr_ushr | exact zr_byte | exact isHall3 | exact isLaw12) only [i341_9, i341_32, i341_33, mB1_i, mB0_i, mB1n_i, mB0n_i, mB1_x, mB0_x, ↓if_pos, ↓if_neg, if_true, if_false, if_pos, if_neg]
      · have c1 : mGd ar (d) 339 0 [.ref 185, .int (zI i), .int (zI k)] [] (zW K A O t) = some (.inl (some (.int (zI (A 186 (63 + 6 * i + k))))), zW K A O t) := i339_0 (by omega)
        have c2 : mGd ar (d) 339 0 [.ref 185, .int (zI 0), .int (zI k)] [] (zW K A O t) = some (.inl (some (.int (zI (A 186 (63 + 6 * 0 + k))))), zW K A O t) := i339_0 (by omega)
        by_cases he : A 186 (63 + 6 * i + k) = A 186 (63 + 6 * 0 + k)
        · obtain ⟨r, q1, q2, q3⟩ := ih (k + 1) 1 (by omega) (by omega) (Or.inr rfl)
          refine ⟨r, ?_, q2, ⟨fun h => ⟨by omega, fun j j0 j1 => ?_⟩, fun h => q3.2 ⟨rfl, fun j j0 j1 => h.2 j (by omega) j1⟩⟩⟩
          · rw [← q1, i341_4 (by omega)]
            rw [he] at c1
            simp (disch := first | assumption | omega | exact zr_and | exact zr_or | exact zr_xor | exact zr_shl | exact zr_shr | exact zr_ushr | exact zr_byte | exact isHall3 | exact isLaw12) only [i341_9, i341_13, c1, i341_19, c2, i341_25, i341_28, i341_33, mB1_i, mB0_i, mB1n_i, mB0n_i, mB1_x, mB0_x, ↓if_pos, ↓if_neg, if_true, if_false, if_pos, if_neg]
          · by_cases hj : j = k
            · rw [hj]; exact he
            · exact (q3.1 h).2 j (by omega) j1
        · obtain ⟨r, q1, q2, q3⟩ := ih (k + 1) 0 (by omega) (by omega) (Or.inl rfl)
          refine ⟨r, ?_, q2, ⟨fun h => absurd (q3.1 h).1 (by decide), fun h => absurd (h.2 k (by omega) (by omega)) he⟩⟩
          rw [← q1, i341_4 (by omega)]
          generalize A 186 (63 + 6 * i + k) = y at c1 r1 he
          generalize A 186 (63 + 6 * 0 + k) = z at c2 r2 he
          simp (disch := first | assumption | omega | exact zr_and | exact zr_or | exact zr_xor | exact zr_shl | exact zr_shr | exact zr_ushr | exact zr_byte | exact isHall3 | exact isLaw12) only [i341_9, i341_13, c1, i341_19, c2, i341_25, i341_32, i341_33, mB1_i, mB0_i, mB1n_i, mB0n_i, mB1_x, mB0_x, ↓if_pos, ↓if_neg, if_true, if_false, if_pos, if_neg]
  obtain ⟨r, q1, q2, q3⟩ := l1 4 1 1 (by omega) (by omega) (Or.inr rfl)
  exact ⟨r, by rw [i341_0]; exact q1, q2, ⟨fun h => (q3.1 h).2, fun h => q3.2 ⟨rfl, h⟩⟩⟩
theorem q_steady (hI : zInv A) : zQ ar K O t (d + 12) 51 [.ref 0] 340 [.ref 185, .double 0] (fun _ => 0) A := by
  have wl := hI.1.1.2
  obtain ⟨l0, l1, l2⟩ := hI.1.2.2
  have w5 := wl.1
  have e5 : A 8 0 = A 186 5 := l0
  have l1' : 0 ≤ A 8 1 ∧ A 8 1 < 60 := l1
  have lg := isHall_log isHall3
  have rp : ∀ i, 0 ≤ i → i < A 186 5 → -2147483648 ≤ A 10 ((A 8 1 - i) % 60) ∧ A 10 ((A 8 1 - i) % 60) < 2147483648 := fun i i0 i1 => by
    have a := (wl.2 i i0 i1).2.1
    have e : A 10 ((A 8 1 - i) % 60) = _ := (l2 i i0 i1).2.1
    have := zPk_rng (a 1 (by omega) (by omega)) (a 2 (by omega) (by omega)) (a 3 (by omega) (by omega)) (a 4 (by omega) (by omega))
    rw [e]; omega
  have ex : ∀ i, 0 ≤ i → i < A 186 5 → (zMs4 (A 186) i ↔ A 10 ((A 8 1 - i) % 60) = A 10 (A 8 1)) := fun i i0 i1 => by
    rw [zMs4_iff wl ⟨i0, i1⟩]
    have e : A 10 ((A 8 1 - i) % 60) = _ := (l2 i i0 i1).2.1
    have e' : A 10 ((A 8 1 - 0) % 60) = _ := (l2 0 (by omega) (by omega)).2.1
    rw [show (A 8 1 - 0) % 60 = A 8 1 by omega] at e'
    rw [e, e']
  have cl : ∀ (m : Nat) (i : Int), i + m = A 186 5 → 0 ≤ i → mGd ar (d + 11) 52 2 [.ref 8, .int (zI i)] [] (zW K A O t) = some (.inl (some (.int (zI (zStd (zMs4 (A 186)) m i)))), zW K A O t) := by
    intro m
    induction m with
    | zero =>
      intro i hi i0
      rw [i52_2 lg (by omega) (show -2147483648 ≤ A 8 0 ∧ A 8 0 < 2147483648 by omega), if_pos (show A 8 0 ≤ i by omega), i52_38 lg]
      rfl
    | succ m ih =>
      intro i hi i0
      have c1 : mGd ar (d + 10) 53 0 [.ref 8, .int (zI i)] [] (zW K A O t) = some (.inl (some (.int (zI ((A 8 1 - i) % 60)))), zW K A O t) := c_slot (d := d + 9) (K := K) (O := O) (t := t) (ar := ar) (A := A) isHall3 l1 (by omega)
      have q := ih (i + 1) (by omega) (by omega)
      have r1 := rp i i0 (by omega)
      have r2 := rp 0 (by omega) (by omega)
      rw [show (A 8 1 - 0) % 60 = A 8 1 by omega] at r2
      have x1 := ex i i0 (by omega)
      unfold zStd
      rw [i52_2 lg (by omega) (show -2147483648 ≤ A 8 0 ∧ A 8 0 < 2147483648 by omega), if_neg (show ¬ A 8 0 ≤ i by omega)]
      by_cases hs : zMs4 (A 186) i
      · have he := x1.1 hs
        rw [if_pos hs, ← q]
        simp (disch := first | assumption | omega | exact zr_and | exact zr_or | exact zr_xor | exact zr_shl | exact zr_shr | exact zr_ushr | exact zr_byte | exact isHall3 | exact isLaw12) only [i52_10 lg, c1, i52_19 lg, he, i52_32 lg, mB1_i, mB0_i, mB1n_i, mB0n_i, mB1_x, mB0_x, ↓if_pos, ↓if_neg, if_true, if_false, if_pos, if_neg]
      · have he : ¬ A 10 ((A 8 1 - i) % 60) = A 10 (A 8 1) := fun hh => hs (x1.2 hh)
        rw [if_neg hs]
        simp (disch := first | assumption | omega | exact zr_and | exact zr_or | exact zr_xor | exact zr_shl | exact zr_shr | exact zr_ushr | exact zr_byte | exact isHall3 | exact isLaw12) only [i52_10 lg, c1, i52_19 lg, he, i52_38 lg, mB1_i, mB0_i, mB1n_i, mB0n_i, mB1_x, mB0_x, ↓if_pos, ↓if_neg, if_true, if_false, if_pos, if_neg]
  have q := cl (A 186 5).toNat 0 (by omega) (by omega)
  have rr := zStd_rng (c := zMs4 (A 186)) (m := (A 186 5).toNat) (i := 0) (by omega) (by omega)
  refine zQ_ok (b := zStd (zMs4 (A 186)) (A 186 5).toNat 0) (A1 := A) hI ?_ zFc_refl (by omega) (fun O' t' => ⟨zU A 185 0 0, ?_, zU_at, zFm_u⟩)
  · simp (disch := first | assumption | omega | exact zr_and | exact zr_or | exact zr_xor | exact zr_shl | exact zr_shr | exact zr_ushr | exact zr_byte | exact isHall3 | exact isLaw12) only [i51_0, i51_10, i52_0 lg, q, mB1_i, mB0_i, mB1n_i, mB0n_i, mB1_x, mB0_x, ↓if_pos, ↓if_neg, if_true, if_false, if_pos, if_neg]
  · have e6 : zU A 185 0 0 186 = A 186 := zU_r (by decide)
    have e6' : zU A 185 0 0 186 5 = A 186 5 := by rw [e6]
    have l3 : ∀ (m : Nat) (i : Int), i + m = A 186 5 → 0 ≤ i → mGd ar (d + 12) 340 7 [.ref 185, .int (zI i)] [] (zW K (zU A 185 0 0) O' t') = some (.inl (some (.int (zI (zStd (zMs4 (A 186)) m i)))), zW K (zU A 185 0 0) O' t') := by
      intro m
      induction m with
      | zero =>
        intro i hi i0
        rw [i340_7 (by omega) (by rw [e6']; omega), e6', if_pos (by omega), i340_31]
        rfl
      | succ m ih =>
        intro i hi i0
        have q := ih (i + 1) (by omega) (by omega)
        obtain ⟨r, d1, d2, d3⟩ := c_same (d := d + 10) (K := K) (O := O') (t := t') (ar := ar) (A := zU A 185 0 0) (i := i) (by rw [e6]; exact wl) (by rw [e6]; omega)
        rw [e6] at d3
        unfold zStd
        rw [i340_7 (by omega) (by rw [e6']; omega), e6', if_neg (by omega)]
        by_cases hs : zMs4 (A 186) i
        · have hr1 := d3.2 hs
          subst hr1
          rw [if_pos hs, ← q]
          simp (disch := first | assumption | omega | exact zr_and | exact zr_or | exact zr_xor | exact zr_shl | exact zr_shr | exact zr_ushr | exact zr_byte | exact isHall3 | exact isLaw12) only [i340_17, d1, i340_22, i340_25, mB1_i, mB0_i, mB1n_i, mB0n_i, mB1_x, mB0_x, ↓if_pos, ↓if_neg, if_true, if_false, if_pos, if_neg]
        · have hr0 : r = 0 := by
            rcases d2 with h | h
            · exact h
            · exact absurd (d3.1 h) hs
          subst hr0
          rw [if_neg hs]
          simp (disch := first | assumption | omega | exact zr_and | exact zr_or | exact zr_xor | exact zr_shl | exact zr_shr | exact zr_ushr | exact zr_byte | exact isHall3 | exact isLaw12) only [i340_17, d1, i340_22, i340_31, mB1_i, mB0_i, mB1n_i, mB0n_i, mB1_x, mB0_x, ↓if_pos, ↓if_neg, if_true, if_false, if_pos, if_neg]
    have q2 := l3 (A 186 5).toNat 0 (by omega) (by omega)
    simp (disch := first | assumption | omega | exact zr_and | exact zr_or | exact zr_xor | exact zr_shl | exact zr_shr | exact zr_ushr | exact zr_byte | exact isHall3 | exact isLaw12) only [i340_0, q2, mB1_i, mB0_i, mB1n_i, mB0n_i, mB1_x, mB0_x, ↓if_pos, ↓if_neg, if_true, if_false, if_pos, if_neg]
end LOGS
