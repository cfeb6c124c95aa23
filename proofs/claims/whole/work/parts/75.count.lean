/-! CALLS, 23: count -/
theorem zS2_all {s : Int} {f : Int → Int × Int} : ∀ {m : Nat} {p : Int}, (∀ i, p ≤ i → i < p + m → zB s i = true) → zS2 (zSel s f p m) = zSm (fun i => (f i).2) p m
  | 0, _, _ => rfl
  | m + 1, p, h => by
    rw [zSel_cons, if_pos (h p (by omega) (by omega))]
    show (f p).2 + zS2 (zSel s f (p + 1) m) = (f p).2 + zSm _ (p + 1) m
    rw [zS2_all (fun i h1 h2 => h i (by omega) (by omega))]
theorem zBf_id {s n : Int} (hn : 0 ≤ n ∧ n ≤ 8) (hs : 0 ≤ s ∧ s ≤ zAll n) : zBf (zB s) 0 n.toNat 0 = s := by
  have h : ∀ n : Fin 9, ∀ s : Fin 256, (s.val : Int) ≤ zAll (n.val : Int) → zBf (zB (s.val : Int)) 0 n.val 0 = (s.val : Int) := by decide +kernel
  have hl := zAll_lt hn
  have := h ⟨n.toNat, by omega⟩ ⟨s.toNat, by omega⟩
  simp only [Int.toNat_of_nonneg hs.1, Int.toNat_of_nonneg hn.1] at this
  exact this hs.2
theorem zShl_0 {p : Int} (hp : 0 ≤ p ∧ p < 8) : zShl 0 p = 0 := by
  have h : ∀ p : Fin 8, zShl 0 (p.val : Int) = 0 := by decide +kernel
  have := h ⟨p.toNat, by omega⟩
  simpa only [Int.toNat_of_nonneg hp.1] using this
section COUNT
variable {ar : Nat → Nat × (Nat → Int32)} {d t : Nat} {K : Nat → Nat → Option Nat} {A : Nat → Int → Int} {O : Nat → Int64}
theorem c_allWeights (hI : zInv A) : mGd ar (d) 63 0 [.ref 3, .double 0, .double 0] [] (zW K A O t) = some (.inl (some (.int (zI (zSm (fun p => A 186 (15 + 6 * p + 4)) 0 (A 186 0).toNat)))), zW K A O t) := by
  obtain ⟨hw, hr, e0, w0⟩ := zInv_f hI
  have l1 : ∀ (m : Nat) (p s : Int), p + m = A 186 0 → 0 ≤ p → mGd ar (d) 63 4 [.ref 3, .int (zI s), .int (zI p)] [] (zW K A O t) = some (.inl (some (.int (zI (s + zSm (fun p => A 186 (15 + 6 * p + 4)) p m)))), zW K A O t) := by
    intro m
    induction m with
    | zero =>
      intro p s hp p0
      rw [show s + zSm (fun p => A 186 (15 + 6 * p + 4)) p 0 = s from Int.add_zero _]
      simp (disch := first | assumption | omega | exact zr_and | exact zr_or | exact zr_xor | exact zr_shl | exact zr_shr | exact zr_ushr | exact zr_byte | exact isHall3 | exact isLaw12) only [i63_4 isHall3, i63_27 isHall3, mB1_i, mB0_i, mB1n_i, mB0n_i, mB1_x, mB0_x, ↓if_pos, ↓if_neg, if_true, if_false, if_pos, if_neg]
    | succ m ih =>
      intro p s hp p0
      have rw' : A 5 p = A 186 (15 + 6 * p + 4) := hr.2.2.2.2.2.2.2.2.1 p p0 (by omega)
      have q := ih (p + 1) (s + A 186 (15 + 6 * p + 4)) (by omega) (by omega)
      rw [show s + zSm (fun p => A 186 (15 + 6 * p + 4)) p (m + 1) = s + A 186 (15 + 6 * p + 4) + zSm (fun p => A 186 (15 + 6 * p + 4)) (p + 1) m from (Int.add_assoc _ _ _).symm, ← q, i63_4 isHall3 (by omega) (by omega), if_neg (by omega)]
      simp (disch := first | assumption | omega | exact zr_and | exact zr_or | exact zr_xor | exact zr_shl | exact zr_shr | exact zr_ushr | exact zr_byte | exact isHall3 | exact isLaw12) only [i63_12 isHall3, rw', mB1_i, mB0_i, mB1n_i, mB0n_i, mB1_x, mB0_x, ↓if_pos, ↓if_neg, if_true, if_false, if_pos, if_neg]
  have q := l1 (A 186 0).toNat 0 0 (by omega) (by omega)
  rw [Int.zero_add] at q
  rw [i63_0 isHall3, q]
theorem c_stubs {h : Int → Int} (hw : zHW0 h) (hA : A 186 = h) : mGd ar (d + 2) 345 0 [.ref 185, .double 0, .double 0] [] (zW K A O t) = some (.inl (some (.int (zI (zBf (fun p => decide (h (15 + 6 * p + 5) = 1)) 0 (h 0).toNat 0)))), zW K A O t) := by
  have w0 := hw.1
  have eA : ∀ i, A 186 i = h i := fun i => by rw [hA]
  have l1 : ∀ (m : Nat) (p b : Int), p + m = h 0 → 0 ≤ p → (0 ≤ b ∧ b < 256) → mGd ar (d + 2) 345 4 [.ref 185, .int (zI b), .int (zI p)] [] (zW K A O t) = some (.inl (some (.int (zI (zBf (fun p => decide (h (15 + 6 * p + 5) = 1)) p m b)))), zW K A O t) := by
    intro m
    induction m with
    | zero =>
      intro p b hp p0 hb
      simp (disch := first | assumption | omega | exact zr_and | exact zr_or | exact zr_xor | exact zr_shl | exact zr_shr | exact zr_ushr | exact zr_byte | exact isHall3 | exact isLaw12) only [i345_4, i233_0, eA, i345_9, i345_29, mB1_i, mB0_i, mB1n_i, mB0n_i, mB1_x, mB0_x, ↓if_pos, ↓if_neg, if_true, if_false, if_pos, if_neg]
      rfl
    | succ m ih =>
      intro p b hp p0 hb
      have c1 := c_of (d := d) (K := K) (O := O) (t := t) (ar := ar) (A := A) (p := p) (k := 5) (by omega) (by omega)
      rw [eA] at c1
      have ws := hw.2.2.2.2.2.2.2.2.2 p p0 (by omega)
      rw [show zBf (fun p => decide (h (15 + 6 * p + 5) = 1)) p (m + 1) b = zBf (fun p => decide (h (15 + 6 * p + 5) = 1)) (p + 1) m (if decide (h (15 + 6 * p + 5) = 1) = true then zOr b (zShl 1 p) else b) from rfl]
      rcases ws with hs | hs
      · rw [hs] at c1
        have q := ih (p + 1) b (by omega) (by omega) hb
        have o0 := zOr_0 (b := b) (by omega)
        have s0 := zShl_0 (p := p) (by omega)
        rw [if_neg (by rw [hs]; decide), ← q]
        simp (disch := first | assumption | omega | exact zr_and | exact zr_or | exact zr_xor | exact zr_shl | exact zr_shr | exact zr_ushr | exact zr_byte | exact isHall3 | exact isLaw12) only [i345_4, i233_0, eA, i345_9, i345_12, c1, i345_19, s0, o0, mB1_i, mB0_i, mB1n_i, mB0n_i, mB1_x, mB0_x, ↓if_pos, ↓if_neg, if_true, if_false, if_pos, if_neg]
      · rw [hs] at c1
        have q := ih (p + 1) (zOr b (zShl 1 p)) (by omega) (by omega) (zf_more hb (by omega)).1
        rw [if_pos (by rw [hs]; decide), ← q]
        simp (disch := first | assumption | omega | exact zr_and | exact zr_or | exact zr_xor | exact zr_shl | exact zr_shr | exact zr_ushr | exact zr_byte | exact isHall3 | exact isLaw12) only [i345_4, i233_0, eA, i345_9, i345_12, c1, i345_19, mB1_i, mB0_i, mB1n_i, mB0n_i, mB1_x, mB0_x, ↓if_pos, ↓if_neg, if_true, if_false, if_pos, if_neg]
  rw [i345_0]
  exact l1 (h 0).toNat 0 0 (by omega) (by omega) (by decide)
theorem q_count {x : Int} (hI : zInv A) (h_x : -2147483648 ≤ x ∧ x < 2147483648) : zQ ar K O t (d + 12) 62 [.ref 0, .int (zI x)] 344 [.ref 185, .int (zI x)] (fun _ => 0) A := by
  obtain ⟨hw, hr, e0, w0⟩ := zInv_f hI
  have hw' := hw
  obtain ⟨-, w1, w2, w3, w4, wr, -, -, ww, -⟩ := hw'
  have hr' := hr
  obtain ⟨-, r9, r7, r6, -, rr, -, -, -, ⟨rs1, rs2⟩⟩ := hr'
  have u6 : zU A 185 0 0 186 = A 186 := zU_r (by decide)
  have e6 : ∀ j, zU A 185 0 0 186 j = A 186 j := fun j => by rw [u6]
  by_cases h0 : x = 0
  · subst h0
    refine zQ_ok (b := A 186 0) (A1 := A) hI ?_ zFc_refl (by omega) (fun O' t' => ⟨zU A 185 0 0, ?_, zU_at, zFm_u⟩)
    · simp (disch := first | assumption | omega | exact zr_and | exact zr_or | exact zr_xor | exact zr_shl | exact zr_shr | exact zr_ushr | exact zr_byte | exact isHall3 | exact isLaw12) only [i62_0, i62_68, e0, mB1_i, mB0_i, mB1n_i, mB0n_i, mB1_x, mB0_x, ↓if_pos, ↓if_neg, if_true, if_false, if_pos, if_neg]
    · simp (disch := first | assumption | omega | exact zr_and | exact zr_or | exact zr_xor | exact zr_shl | exact zr_shr | exact zr_ushr | exact zr_byte | exact isHall3 | exact isLaw12) only [i344_0, i344_72, i233_0, e6, i344_76, mB1_i, mB0_i, mB1n_i, mB0n_i, mB1_x, mB0_x, ↓if_pos, ↓if_neg, if_true, if_false, if_pos, if_neg]
  by_cases h1 : x = 1
  · subst h1
    refine zQ_ok (b := A 186 1) (A1 := A) hI ?_ zFc_refl (by omega) (fun O' t' => ⟨zU A 185 0 0, ?_, zU_at, zFm_u⟩)
    · simp (disch := first | assumption | omega | exact zr_and | exact zr_or | exact zr_xor | exact zr_shl | exact zr_shr | exact zr_ushr | exact zr_byte | exact isHall3 | exact isLaw12) only [i62_0, i62_76, r9, mB1_i, mB0_i, mB1n_i, mB0n_i, mB1_x, mB0_x, ↓if_pos, ↓if_neg, if_true, if_false, if_pos, if_neg]
    · simp (disch := first | assumption | omega | exact zr_and | exact zr_or | exact zr_xor | exact zr_shl | exact zr_shr | exact zr_ushr | exact zr_byte | exact isHall3 | exact isLaw12) only [i344_0, i344_77, e6, mB1_i, mB0_i, mB1n_i, mB0n_i, mB1_x, mB0_x, ↓if_pos, ↓if_neg, if_true, if_false, if_pos, if_neg]
  by_cases h2 : x = 2
  · subst h2
    obtain ⟨-, ⟨L, lc, lr, l0⟩, -⟩ := id hI
    rcases lr with ⟨a1, a2⟩ | ⟨a1, a2, a3, -⟩
    · rw [a1] at l0
      refine zQ_ok (b := -1) (A1 := A) hI ?_ zFc_refl (by omega) (fun O' t' => ⟨zU A 185 0 0, ?_, zU_at, zFm_u⟩)
      · simp (disch := first | assumption | omega | exact zr_and | exact zr_or | exact zr_xor | exact zr_shl | exact zr_shr | exact zr_ushr | exact zr_byte | exact isHall3 | exact isLaw12) only [i62_0, i62_84, i62_104, i62_105, l0, mB1_i, mB0_i, mB1n_i, mB0n_i, mB1_x, mB0_x, ↓if_pos, ↓if_neg, if_true, if_false, if_pos, if_neg]
      · have a1' : zU A 185 0 0 186 2 = 0 := by rw [e6]; exact a1
        simp (disch := first | assumption | omega | exact zr_and | exact zr_or | exact zr_xor | exact zr_shl | exact zr_shr | exact zr_ushr | exact zr_byte | exact isHall3 | exact isLaw12) only [i344_0, i344_84, a1', i344_105, i344_106, mB1_i, mB0_i, mB1n_i, mB0n_i, mB1_x, mB0_x, ↓if_pos, ↓if_neg, if_true, if_false, if_pos, if_neg]
    · rw [a1] at l0
      have lcl := lc.1
      refine zQ_ok (b := L.length) (A1 := A) hI ?_ zFc_refl (by omega) (fun O' t' => ⟨zU A 185 0 0, ?_, zU_at, zFm_u⟩)
      · simp (disch := first | assumption | omega | exact zr_and | exact zr_or | exact zr_xor | exact zr_shl | exact zr_shr | exact zr_ushr | exact zr_byte | exact isHall3 | exact isLaw12) only [i62_0, i62_84, i62_94, i62_105, l0, lcl, mB1_i, mB0_i, mB1n_i, mB0n_i, mB1_x, mB0_x, ↓if_pos, ↓if_neg, if_true, if_false, if_pos, if_neg]
      · have a1' : zU A 185 0 0 186 2 = 1 := by rw [e6]; exact a1
        have a2' : zU A 185 0 0 186 423 = L.length := by rw [e6]; exact a2
        simp (disch := first | assumption | omega | exact zr_and | exact zr_or | exact zr_xor | exact zr_shl | exact zr_shr | exact zr_ushr | exact zr_byte | exact isHall3 | exact isLaw12) only [i344_0, i344_84, a1', i344_94, i344_106, a2', mB1_i, mB0_i, mB1n_i, mB0n_i, mB1_x, mB0_x, ↓if_pos, ↓if_neg, if_true, if_false, if_pos, if_neg]
  by_cases h3 : x = 3
  · subst h3
    refine zQ_ok (b := A 186 3) (A1 := A) hI ?_ zFc_refl (by omega) (fun O' t' => ⟨zU A 185 0 0, ?_, zU_at, zFm_u⟩)
    · simp (disch := first | assumption | omega | exact zr_and | exact zr_or | exact zr_xor | exact zr_shl | exact zr_shr | exact zr_ushr | exact zr_byte | exact isHall3 | exact isLaw12) only [i62_0, i62_106, r7, mB1_i, mB0_i, mB1n_i, mB0n_i, mB1_x, mB0_x, ↓if_pos, ↓if_neg, if_true, if_false, if_pos, if_neg]
    · simp (disch := first | assumption | omega | exact zr_and | exact zr_or | exact zr_xor | exact zr_shl | exact zr_shr | exact zr_ushr | exact zr_byte | exact isHall3 | exact isLaw12) only [i344_0, i344_107, e6, mB1_i, mB0_i, mB1n_i, mB0n_i, mB1_x, mB0_x, ↓if_pos, ↓if_neg, if_true, if_false, if_pos, if_neg]
  by_cases h4 : x = 4
  · subst h4
    refine zQ_ok (b := A 186 4) (A1 := A) hI ?_ zFc_refl (by omega) (fun O' t' => ⟨zU A 185 0 0, ?_, zU_at, zFm_u⟩)
    · simp (disch := first | assumption | omega | exact zr_and | exact zr_or | exact zr_xor | exact zr_shl | exact zr_shr | exact zr_ushr | exact zr_byte | exact isHall3 | exact isLaw12) only [i62_0, i62_114, r6, mB1_i, mB0_i, mB1n_i, mB0n_i, mB1_x, mB0_x, ↓if_pos, ↓if_neg, if_true, if_false, if_pos, if_neg]
    · simp (disch := first | assumption | omega | exact zr_and | exact zr_or | exact zr_xor | exact zr_shl | exact zr_shr | exact zr_ushr | exact zr_byte | exact isHall3 | exact isLaw12) only [i344_0, i344_114, e6, mB1_i, mB0_i, mB1n_i, mB0n_i, mB1_x, mB0_x, ↓if_pos, ↓if_neg, if_true, if_false, if_pos, if_neg]
  by_cases h5 : 5 ≤ x ∧ x ≤ 8
  · have r := rr (x - 5) (by omega) (by omega)
    have wk := wr (x - 5) (by omega) (by omega)
    have r' : A 6 (x - 5) = A 186 (7 + (x - 5)) := r
    refine zQ_ok (b := A 186 (7 + (x - 5))) (A1 := A) hI ?_ zFc_refl (by omega) (fun O' t' => ⟨zU A 185 0 0, ?_, zU_at, zFm_u⟩)
    · have : x = 5 ∨ x = 6 ∨ x = 7 ∨ x = 8 := by omega
      rw [← r']
      rcases this with rfl | rfl | rfl | rfl <;> simp (disch := first | assumption | omega | exact zr_and | exact zr_or | exact zr_xor | exact zr_shl | exact zr_shr | exact zr_ushr | exact zr_byte | exact isHall3 | exact isLaw12) only [i62_0, i62_122, mB1_i, mB0_i, mB1n_i, mB0n_i, mB1_x, mB0_x, ↓if_pos, ↓if_neg, if_true, if_false, if_pos, if_neg]
    · have n1 := c_in (d := d + 11) (K := K) (O := O') (t := t') (ar := ar) (A := zU A 185 0 0) (x := x) (a := 5) (b := 8) h_x (by omega) (by omega)
      rw [if_pos h5] at n1
      rw [show 7 + (x - 5) = 7 + x - 5 by omega]
      simp (disch := first | assumption | omega | exact zr_and | exact zr_or | exact zr_xor | exact zr_shl | exact zr_shr | exact zr_ushr | exact zr_byte | exact isHall3 | exact isLaw12) only [i344_0, i344_147, n1, i344_154, i344_157, e6, i344_172, mB1_i, mB0_i, mB1n_i, mB0n_i, mB1_x, mB0_x, ↓if_pos, ↓if_neg, if_true, if_false, if_pos, if_neg]
  by_cases h9 : x = 9
  · subst h9
    have hl := zAll_lt w0
    have es : zBf (fun p => decide (A 186 (15 + 6 * p + 5) = 1)) 0 (A 186 0).toNat 0 = A 3 3 := by
      rw [zBf_congr (g := zB (A 3 3)) (fun i i0 i1 => by
        have := rs2 i i0 (by omega)
        rw [Bool.eq_iff_iff, this, decide_eq_true_iff])]
      exact zBf_id w0 rs1
    refine zQ_ok (b := A 3 3) (A1 := A) hI ?_ zFc_refl (by omega) (fun O' t' => ⟨zU A 185 0 0, ?_, zU_at, zFm_u⟩)
    · simp (disch := first | assumption | omega | exact zr_and | exact zr_or | exact zr_xor | exact zr_shl | exact zr_shr | exact zr_ushr | exact zr_byte | exact isHall3 | exact isLaw12) only [i62_0, i62_134, mB1_i, mB0_i, mB1n_i, mB0n_i, mB1_x, mB0_x, ↓if_pos, ↓if_neg, if_true, if_false, if_pos, if_neg]
    · have c1 := c_stubs (d := d + 9) (K := K) (O := O') (t := t') (ar := ar) (A := zU A 185 0 0) hw u6
      rw [es] at c1
      simp (disch := first | assumption | omega | exact zr_and | exact zr_or | exact zr_xor | exact zr_shl | exact zr_shr | exact zr_ushr | exact zr_byte | exact isHall3 | exact isLaw12) only [i344_0, i344_121, c1, i344_125, mB1_i, mB0_i, mB1n_i, mB0n_i, mB1_x, mB0_x, ↓if_pos, ↓if_neg, if_true, if_false, if_pos, if_neg]
  by_cases h10 : x = 10
  · subst h10
    have c1 := c_allWeights (d := d + 11) (K := K) (O := O) (t := t) (ar := ar) hI
    have rg := zSm_rng (f := fun p => A 186 (15 + 6 * p + 4)) (c := 9) (m := (A 186 0).toNat) (p := 0) (fun i i0 i1 => by
      have := ww i i0 (by omega)
      omega)
    have hl := zAll_lt w0
    refine zQ_ok (b := zSm (fun p => A 186 (15 + 6 * p + 4)) 0 (A 186 0).toNat) (A1 := A) hI ?_ zFc_refl (by omega) (fun O' t' => ⟨zU A 185 0 0, ?_, zU_at, zFm_u⟩)
    · simp (disch := first | assumption | omega | exact zr_and | exact zr_or | exact zr_xor | exact zr_shl | exact zr_shr | exact zr_ushr | exact zr_byte | exact isHall3 | exact isLaw12) only [i62_0, i62_142, c1, i62_149, mB1_i, mB0_i, mB1n_i, mB0n_i, mB1_x, mB0_x, ↓if_pos, ↓if_neg, if_true, if_false, if_pos, if_neg]
    · have c2 := c_all (d := d + 10) (K := K) (O := O') (t := t') (ar := ar) (A := zU A 185 0 0) (by rw [u6]; exact w0)
      have c3 := c_weightsOf (d := d + 9) (K := K) (O := O') (t := t') (ar := ar) (A := zU A 185 0 0) (s := zAll (A 186 0)) (by rw [u6]; exact w0) hl
      rw [zS2_all (fun i i0 i1 => by
        rw [u6] at i1
        rw [zB_all w0 (by omega)]
        exact decide_eq_true (by omega)), u6] at c3
      have c4 : zSm (fun i => (zRP (zU A 185 0 0) i).2) 0 (A 186 0).toNat = zSm (fun p => A 186 (15 + 6 * p + 4)) 0 (A 186 0).toNat := by
        unfold zRP
        rw [u6]
      rw [c4] at c3
      rw [u6] at c2
      simp (disch := first | assumption | omega | exact zr_and | exact zr_or | exact zr_xor | exact zr_shl | exact zr_shr | exact zr_ushr | exact zr_byte | exact isHall3 | exact isLaw12) only [i344_0, i344_126, c2, i344_131, c3, i344_134, mB1_i, mB0_i, mB1n_i, mB0n_i, mB1_x, mB0_x, ↓if_pos, ↓if_neg, if_true, if_false, if_pos, if_neg]
  by_cases h11 : x = 11
  · subst h11
    have e5 : A 8 0 = A 186 5 := hI.1.2.2.1
    have w5 := hI.1.1.2.1
    refine zQ_ok (b := A 186 5) (A1 := A) hI ?_ zFc_refl (by omega) (fun O' t' => ⟨zU A 185 0 0, ?_, zU_at, zFm_u⟩)
    · simp (disch := first | assumption | omega | exact zr_and | exact zr_or | exact zr_xor | exact zr_shl | exact zr_shr | exact zr_ushr | exact zr_byte | exact isHall3 | exact isLaw12) only [i62_0, i62_150, e5, mB1_i, mB0_i, mB1n_i, mB0n_i, mB1_x, mB0_x, ↓if_pos, ↓if_neg, if_true, if_false, if_pos, if_neg]
    · simp (disch := first | assumption | omega | exact zr_and | exact zr_or | exact zr_xor | exact zr_shl | exact zr_shr | exact zr_ushr | exact zr_byte | exact isHall3 | exact isLaw12) only [i344_0, i344_135, e6, mB1_i, mB0_i, mB1n_i, mB0n_i, mB1_x, mB0_x, ↓if_pos, ↓if_neg, if_true, if_false, if_pos, if_neg]
  by_cases h12 : x = 12
  · subst h12
    obtain ⟨-, -, -, ⟨a1, a2, -⟩, -⟩ := id hI
    refine zQ_ok (b := A 19 0) (A1 := A) hI ?_ zFc_refl (by omega) (fun O' t' => ⟨zU A 185 0 0, ?_, zU_at, zFm_u⟩)
    · simp (disch := first | assumption | omega | exact zr_and | exact zr_or | exact zr_xor | exact zr_shl | exact zr_shr | exact zr_ushr | exact zr_byte | exact isHall3 | exact isLaw12) only [i62_0, i62_161, mB1_i, mB0_i, mB1n_i, mB0n_i, mB1_x, mB0_x, ↓if_pos, ↓if_neg, if_true, if_false, if_pos, if_neg]
    · have a3 : zU A 185 0 0 185 7 = A 19 0 := by rw [zU_s (by decide)]; exact a1
      simp (disch := first | assumption | omega | exact zr_and | exact zr_or | exact zr_xor | exact zr_shl | exact zr_shr | exact zr_ushr | exact zr_byte | exact isHall3 | exact isLaw12) only [i344_0, i344_142, a3, mB1_i, mB0_i, mB1n_i, mB0n_i, mB1_x, mB0_x, ↓if_pos, ↓if_neg, if_true, if_false, if_pos, if_neg]
  refine zQ_ok (b := -1) (A1 := A) hI ?_ zFc_refl (by omega) (fun O' t' => ⟨zU A 185 0 0, ?_, zU_at, zFm_u⟩)
  · have h5' : x ≠ 5 := by omega
    have h6' : x ≠ 6 := by omega
    have h7' : x ≠ 7 := by omega
    have h8' : x ≠ 8 := by omega
    simp (disch := first | assumption | omega | exact zr_and | exact zr_or | exact zr_xor | exact zr_shl | exact zr_shr | exact zr_ushr | exact zr_byte | exact isHall3 | exact isLaw12) only [i62_0, i62_169, mB1_i, mB0_i, mB1n_i, mB0n_i, mB1_x, mB0_x, ↓if_pos, ↓if_neg, if_true, if_false, if_pos, if_neg]
  · have n1 := c_in (d := d + 11) (K := K) (O := O') (t := t') (ar := ar) (A := zU A 185 0 0) (x := x) (a := 5) (b := 8) h_x (by omega) (by omega)
    rw [if_neg h5] at n1
    simp (disch := first | assumption | omega | exact zr_and | exact zr_or | exact zr_xor | exact zr_shl | exact zr_shr | exact zr_ushr | exact zr_byte | exact isHall3 | exact isLaw12) only [i344_0, i344_147, n1, i344_154, i344_171, i344_172, mB1_i, mB0_i, mB1n_i, mB0n_i, mB1_x, mB0_x, ↓if_pos, ↓if_neg, if_true, if_false, if_pos, if_neg]
end COUNT
