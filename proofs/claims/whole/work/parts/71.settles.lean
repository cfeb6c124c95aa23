/-! CALLS, 19: settles -/
theorem zSm_0 {f : Int → Int} (hf : ∀ i, 0 ≤ f i) : ∀ {m : Nat} {p : Int}, zSm f p m = 0 ↔ ∀ i, p ≤ i → i < p + m → f i = 0
  | 0, p => ⟨fun _ i i0 i1 => by omega, fun _ => rfl⟩
  | m + 1, p => by
    have ih := zSm_0 (f := f) hf (m := m) (p := p + 1)
    have nn : ∀ (m : Nat) (p : Int), 0 ≤ zSm f p m := by
      intro m
      induction m with
      | zero => intro p; exact Int.le_refl 0
      | succ m ih => intro p; exact Int.add_nonneg (hf p) (ih (p + 1))
    have h1 := hf p
    have h2 := nn m (p + 1)
    rw [show zSm f p (m + 1) = f p + zSm f (p + 1) m from rfl]
    constructor
    · intro h i i0 i1
      by_cases hi : i = p
      · rw [hi]; omega
      · exact ih.1 (by omega) i (by omega) (by omega)
    · intro h
      rw [h p (by omega) (by omega), ih.2 (fun i i0 i1 => h i (by omega) (by omega))]
      rfl
theorem zD0_0 {L : zLines} {h : Int → Int} : zD0 L h 0 = h 0 := by
  unfold zD0 zEnd; rw [if_neg (by omega), zGo1_lo (by omega)]
theorem zD0_man {L : zLines} {h : Int → Int} {k : Int} (hk : 0 ≤ k ∧ k < 4) : zD0 L h (11 + k) = zMan h k := by
  unfold zD0 zEnd; rw [if_neg (by omega), zGo1_man hk]
theorem zD0_num {L : zLines} {h : Int → Int} {p k : Int} (hp : 0 ≤ p ∧ p < h 0) (hk : 0 ≤ k ∧ k < 4) : zD0 L h (15 + 6 * p + k) = zNum h L p k := by
  unfold zD0 zEnd; rw [if_neg (by omega), zGo1_num hp hk]
theorem zChg_0 {L : zLines} {h : Int → Int} (hw : zHW0 h) : zChg h L = 0 ↔ ∀ p k, 0 ≤ p → p < h 0 → 0 ≤ k → k < 4 → h (15 + 6 * p + k) = zD0 L h (15 + 6 * p + k) := by
  have w0 := hw.1
  have c1 : ∀ p k, 0 ≤ zCh1 h L p k := fun p k => by unfold zCh1; split <;> decide
  have c2 : ∀ p, 0 ≤ zSm (zCh1 h L p) 0 4 := fun p => (zSm_rng (f := zCh1 h L p) (c := 1) (m := 4) (p := 0) (fun j _ _ => zCh1_rng)).1
  unfold zChg
  rw [zSm_0 c2]
  constructor
  · intro hz p k p0 p1 k0 k1
    have h1 := (zSm_0 (c1 p)).1 (hz p p0 (by omega)) k k0 (by omega)
    rw [zD0_num ⟨p0, p1⟩ ⟨k0, k1⟩]
    by_cases hq : zNum h L p k = h (15 + 6 * p + k)
    · exact hq.symm
    · unfold zCh1 at h1
      rw [if_neg hq] at h1
      exact absurd h1 (by decide)
  · intro hz p p0 p1
    refine (zSm_0 (c1 p)).2 (fun k k0 k1 => ?_)
    have h1 := hz p k p0 (by omega) k0 (by omega)
    rw [zD0_num ⟨p0, by omega⟩ ⟨k0, by omega⟩] at h1
    exact if_pos h1.symm
theorem zSame_iff {h h' : Int → Int} (w8 : 0 ≤ h 0 ∧ h 0 ≤ 8) (e0 : h' 0 = h 0) : zSame h h' ↔ (∀ k, 0 ≤ k → k < 4 → h (11 + k) = h' (11 + k)) ∧ ∀ p k, 0 ≤ p → p < h 0 → 0 ≤ k → k < 4 → h (15 + 6 * p + k) = h' (15 + 6 * p + k) := by
  unfold zSame zSg
  rw [e0]
  constructor
  · intro hs
    refine ⟨fun k k0 k1 => ?_, fun p k p0 p1 k0 k1 => ?_⟩
    · have := hs k k0 (by omega)
      rwa [if_pos k1, if_pos k1] at this
    · have := hs (4 + 4 * p + k) (by omega) (by omega)
      rwa [if_neg (show ¬ 4 + 4 * p + k < 4 by omega), if_neg (show ¬ 4 + 4 * p + k < 4 by omega), show (4 + 4 * p + k - 4) / 4 = p by omega, show (4 + 4 * p + k - 4) % 4 = k by omega, if_pos p1, if_pos p1] at this
  · intro ⟨h1, h2⟩ i i0 i1
    by_cases hi : i < 4
    · rw [if_pos hi, if_pos hi]; exact h1 i i0 hi
    · rw [if_neg hi, if_neg hi]
      by_cases hp : (i - 4) / 4 < h 0
      · rw [if_pos hp, if_pos hp]; exact h2 _ _ (by omega) hp (by omega) (by omega)
      · rw [if_neg hp, if_neg hp]
theorem zPack_inj {w x y z w' x' y' z' : Int} (h1 : 0 ≤ w ∧ w ≤ 99) (h2 : 0 ≤ x ∧ x ≤ 99) (h3 : 0 ≤ y ∧ y ≤ 99) (h4 : 0 ≤ z ∧ z ≤ 99) (g1 : 0 ≤ w' ∧ w' ≤ 99) (g2 : 0 ≤ x' ∧ x' ≤ 99) (g3 : 0 ≤ y' ∧ y' ≤ 99) (g4 : 0 ≤ z' ∧ z' ≤ 99) : zPack w' x' y' z' = zPack w x y z ↔ (w = w' ∧ x = x' ∧ y = y' ∧ z = z') := by
  unfold zPack; omega
theorem zPk_rng {w x y z : Int} (h1 : 0 ≤ w ∧ w ≤ 99) (h2 : 0 ≤ x ∧ x ≤ 99) (h3 : 0 ≤ y ∧ y ≤ 99) (h4 : 0 ≤ z ∧ z ≤ 99) : 0 ≤ zPack w x y z ∧ zPack w x y z ≤ 300000000 := by
  unfold zPack; omega
def zPm (h : Int → Int) : Int := zPack (h 11) (h 12) (h 13) (h 14)
theorem zMan_r {h : Int → Int} (hw : zHW0 h) : (0 ≤ h 11 ∧ h 11 ≤ 99) ∧ (0 ≤ h 12 ∧ h 12 ≤ 99) ∧ (0 ≤ h 13 ∧ h 13 ≤ 99) ∧ 0 ≤ h 14 ∧ h 14 ≤ 99 := by
  have wm := hw.2.2.2.2.2.2.1
  exact ⟨wm 0 (by decide) (by decide), wm 1 (by decide) (by decide), wm 2 (by decide) (by decide), wm 3 (by decide) (by decide)⟩
theorem zPm_iff {h h' : Int → Int} (hw : zHW0 h) (hw' : zHW0 h') : zPm h' = zPm h ↔ ∀ k, 0 ≤ k → k < 4 → h (11 + k) = h' (11 + k) := by
  obtain ⟨a1, a2, a3, a4⟩ := zMan_r hw
  obtain ⟨b1, b2, b3, b4⟩ := zMan_r hw'
  unfold zPm
  rw [zPack_inj a1 a2 a3 a4 b1 b2 b3 b4]
  constructor
  · intro ⟨e1, e2, e3, e4⟩ k k0 k1
    have : k = 0 ∨ k = 1 ∨ k = 2 ∨ k = 3 := by omega
    rcases this with rfl | rfl | rfl | rfl
    · exact e1
    · exact e2
    · exact e3
    · exact e4
  · intro hk
    exact ⟨hk 0 (by decide) (by decide), hk 1 (by decide) (by decide), hk 2 (by decide) (by decide), hk 3 (by decide) (by decide)⟩
theorem zSame_day {L : zLines} {h : Int → Int} (hw : zHW0 h) : zSame h (zD0 L h) ↔ (zChg h L = 0 ∧ zPm (zD0 L h) = zPm h) := by
  rw [zSame_iff hw.1 zD0_0, zPm_iff hw (zD0_wf hw), zChg_0 hw]
  exact And.comm
noncomputable def zSet (L : zLines) : Nat → Int → (Int → Int) → Int
  | 0, _, _ => -1
  | m + 1, n, h => @ite Int (zSame h (zD0 L h)) (Classical.propDecidable _) n (zSet L m (n + 1) (zD0 L h))
theorem zSet_rng {L : zLines} : ∀ {m : Nat} {n : Int} {h : Int → Int}, 0 ≤ n → n + m ≤ 61 → -1 ≤ zSet L m n h ∧ zSet L m n h ≤ 61
  | 0, _, _, _, _ => by show (-1 : Int) ≤ -1 ∧ (-1 : Int) ≤ 61; decide
  | m + 1, n, h, h0, h1 => by
    unfold zSet
    split
    · omega
    · exact zSet_rng (by omega) (by omega)
section SETTLES
variable {ar : Nat → Nat × (Nat → Int32)} {d t : Nat} {K : Nat → Nat → Option Nat} {A : Nat → Int → Int} {O : Nat → Int64}
theorem c_pm {a : Nat} (ha : isHall a) {h : Int → Int} (hw : zHW0 h) (hr : zHR0 A a h) : mGd ar (d) 21 0 [.ref a, .double 0, .double 0] [] (zW K A O t) = some (.inl (some (.int (zI (zPm h)))), zW K A O t) := by
  have rm := hr.2.2.2.2.2.2.1
  have wm := hw.2.2.2.2.2.2.1
  rw [c_packed ha (fun k k0 k1 => by rw [rm k k0 k1]; exact wm k k0 k1), rm 0 (by decide) (by decide), rm 1 (by decide) (by decide), rm 2 (by decide) (by decide), rm 3 (by decide) (by decide)]
  rfl
theorem zT_196 {L : zLines} {C C' : Nat → Int → Int} (h : zT L A C) (e : ∀ c, c ≠ 196 → C' c = C c) : zT L A C' := by
  obtain ⟨h1, h2, h3, h4, h5, h6⟩ := h
  refine ⟨fun j hj => by rw [e 185 (by decide), h1 j hj], fun c c1 c2 c3 c4 c5 c6 c7 => by rw [e c c7, h2 c c1 c2 c3 c4 c5 c6 c7], fun i hi => by rw [e 186 (by decide), h3 i hi], fun i i0 i1 => by rw [e 189 (by decide), h4 i i0 i1], by rw [e 186 (by decide)]; exact h5, by rw [e 186 (by decide)]; exact h6⟩
theorem q_settles (hI : zInv A) : zQ ar K O t (d + 12) 18 [.ref 0, .double 0, .double 0, .double 0] 294 [.ref 185, .double 0, .double 0] (fun _ => 0) A := by
  obtain ⟨hw, hr, e0, w0⟩ := zInv_f hI
  obtain ⟨-, ⟨L, lc, lr, -⟩, -⟩ := id hI
  have cl : ∀ (m : Nat) (n : Int) (h : Int → Int) (B : Nat → Int → Int) (u2 u3 : Value), n + m = 61 → 0 ≤ n → zHWf h → zHR0 B 145 h → zFc A B → ∃ C, mGd ar (d + 12) 18 13 [.ref 0, .int (zI n), u2, u3] [] (zW K B O t) = some (.inl (some (.int (zI (zSet L m n h)))), zW K C O t) ∧ zFc A C := by
    intro m
    induction m with
    | zero =>
      intro n h B u2 u3 hn n0 hw hr hB
      refine ⟨B, ?_, hB⟩
      simp (disch := first | assumption | omega | exact zr_and | exact zr_or | exact zr_xor | exact zr_shl | exact zr_shr | exact zr_ushr | exact zr_byte | exact isHall3 | exact isLaw12) only [i18_13, i18_67, mB1_i, mB0_i, mB1n_i, mB0n_i, mB1_x, mB0_x, ↓if_pos, ↓if_neg, if_true, if_false, if_pos, if_neg]
      rfl
    | succ m ih =>
      intro n h B u2 u3 hn n0 hw hr hB
      have p1 := c_pm (d := d + 11) (K := K) (O := O) (t := t) (ar := ar) isHall145 hw.1 hr
      obtain ⟨C1, f1, f2, f3⟩ := c_passDay (d := d + 7) (K := K) (O := O) (t := t) (ar := ar) isHall145 isLaw12 (by omega) hw.1 hr (zLawC_same lc (fun c c1 c2 => hB c (by unfold zSc; omega))) (dr := 0) (Or.inl rfl)
      rw [if_neg (show ¬ (0 : Int) = 1 by decide)] at f2
      have f4 := zFc_pf hB f3
      have w' := zD0_wff (L := L) hw
      have p2 := c_pm (d := d + 11) (K := K) (O := O) (t := t) (ar := ar) isHall145 w'.1 f2
      have rc := zChg_rng (L := L) hw.1
      have r1 : 0 ≤ zPm h ∧ zPm h ≤ 300000000 := by
        obtain ⟨a1, a2, a3, a4⟩ := zMan_r hw.1
        exact zPk_rng a1 a2 a3 a4
      have r2 : 0 ≤ zPm (zD0 L h) ∧ zPm (zD0 L h) ≤ 300000000 := by
        obtain ⟨a1, a2, a3, a4⟩ := zMan_r w'.1
        exact zPk_rng a1 a2 a3 a4
      have sd := zSame_day (L := L) hw.1
      unfold zSet
      rw [i18_13 (by omega)]
      by_cases hs : zSame h (zD0 L h)
      · obtain ⟨s1, s2⟩ := sd.1 hs
        refine ⟨C1, ?_, f4⟩
        rw [if_pos hs]
        simp (disch := first | assumption | omega | exact zr_and | exact zr_or | exact zr_xor | exact zr_shl | exact zr_shr | exact zr_ushr | exact zr_byte | exact isHall3 | exact isLaw12) only [i18_11, i18_19, i18_26, i18_43, i18_48, i18_55, i18_59, i18_61, i18_67, p1, f1, s1, p2, s2, mB1_i, mB0_i, mB1n_i, mB0n_i, mB1_x, mB0_x, ↓if_pos, ↓if_neg, if_true, if_false, if_pos, if_neg]
      · obtain ⟨C', q1, q2⟩ := ih (n + 1) (zD0 L h) C1 (.int (zI (zPm h))) (.int (zI (zChg h L))) (by omega) (by omega) w' f2 f4
        refine ⟨C', ?_, q2⟩
        rw [if_neg hs, ← q1]
        by_cases hc : zChg h L = 0
        · have hp : ¬ zPm (zD0 L h) = zPm h := fun hp => hs (sd.2 ⟨hc, hp⟩)
          simp (disch := first | assumption | omega | exact zr_and | exact zr_or | exact zr_xor | exact zr_shl | exact zr_shr | exact zr_ushr | exact zr_byte | exact isHall3 | exact isLaw12) only [i18_11, i18_19, i18_26, i18_43, i18_48, i18_55, i18_59, i18_61, i18_67, p1, f1, hc, p2, mB1_i, mB0_i, mB1n_i, mB0n_i, mB1_x, mB0_x, ↓if_pos, ↓if_neg, if_true, if_false, if_pos, if_neg]
        · simp (disch := first | assumption | omega | exact zr_and | exact zr_or | exact zr_xor | exact zr_shl | exact zr_shr | exact zr_ushr | exact zr_byte | exact isHall3 | exact isLaw12) only [i18_11, i18_19, i18_26, i18_43, i18_48, i18_55, i18_59, i18_61, i18_67, p1, f1, mB1_i, mB0_i, mB1n_i, mB0n_i, mB1_x, mB0_x, ↓if_pos, ↓if_neg, if_true, if_false, if_pos, if_neg]
  obtain ⟨B0, f1, f2, f3⟩ := c_draft (d := d + 10) (K := K) (O := O) (t := t) (ar := ar) hI zFc_refl
  obtain ⟨A1, f4, f5⟩ := cl 61 0 (A 186) B0 (.double 0) (.double 0) (by omega) (by omega) hI.1.1 f2.1 f3
  have rr := zSet_rng (L := L) (m := 61) (n := 0) (h := A 186) (by omega) (by omega)
  refine zQ_ok (b := zSet L 61 0 (A 186)) (A1 := A1) hI ?_ f5 (by omega) (fun O' t' => ?_)
  · simp (disch := first | assumption | omega | exact zr_and | exact zr_or | exact zr_xor | exact zr_shl | exact zr_shr | exact zr_ushr | exact zr_byte | exact isHall3 | exact isLaw12) only [i18_0, i18_11, f1, f4, mB1_i, mB0_i, mB1n_i, mB0n_i, mB1_x, mB0_x, ↓if_pos, ↓if_neg, if_true, if_false, if_pos, if_neg]
  · have e6 : A1 186 = A 186 := f5 186 (by unfold zSc; omega)
    have u6' : (zU A1 185 0 0) 186 = A 186 := by rw [zU_r (by decide), e6]
    obtain ⟨C0, p1, p2, p3⟩ := t_keeps (d := d + 11) (K := K) (O := O') (t := t') (ar := ar) (A := zU A1 185 0 0) (L := L) (by rw [u6']; exact hI.1.1) (by rw [u6']; exact lr)
    rw [u6'] at p3
    have l1 : ∀ (m : Nat) (n : Int) (C : Nat → Int → Int), n + m = 61 → 0 ≤ n → zT L (zU A1 185 0 0) C → ∃ x C', mGd ar (d + 12) 294 13 [.ref 185, .int (zI (-1)), .int (zI n)] [] (zW K C O' t') = mGd ar (d + 12) 294 58 [.ref 185, .int (zI (zSet L m n (C 186))), .int (zI x)] [] (zW K C' O' t') ∧ zT L (zU A1 185 0 0) C' := by
      intro m
      induction m with
      | zero =>
        intro n C hn n0 hC
        refine ⟨n, C, ?_, hC⟩
        simp (disch := first | assumption | omega | exact zr_and | exact zr_or | exact zr_xor | exact zr_shl | exact zr_shr | exact zr_ushr | exact zr_byte | exact isHall3 | exact isLaw12) only [i294_13, mB1_i, mB0_i, mB1n_i, mB0n_i, mB1_x, mB0_x, ↓if_pos, ↓if_neg, if_true, if_false, if_pos, if_neg]
        rfl
      | succ m ih =>
        intro n C hn n0 hC
        have wC := hC.2.2.2.2.1
        obtain ⟨C1, a1, a2, a3⟩ := c_notes (d := d + 8) (K := K) (O := O') (t := t') (ar := ar) (A := C) (x := 0) (by omega) wC.1.1
        have hC1 := zT_196 hC a2
        obtain ⟨C2, b1, b2, b3, b4⟩ := t_calm' (d := d + 4) (K := K) (O := O') (t := t') (ar := ar) hC1
        rw [a2 186 (by decide)] at b3
        have wC2 := b2.2.2.2.2.1
        obtain ⟨C3, c1, c2, c3⟩ := c_notes (d := d + 8) (K := K) (O := O') (t := t') (ar := ar) (A := C2) (x := 1) (by omega) wC2.1.1
        have hC3 := zT_196 b2 c2
        have v0 : ∀ i, 0 ≤ i → i < 36 → C3 196 (36 * 0 + i) = zSg (C 186) i := fun i i0 i1 => by
          rw [c3, if_neg (by omega), b4, a3, if_pos (by omega), show 36 * 0 + i - 36 * 0 = i by omega]
        have v1 : ∀ i, 0 ≤ i → i < 36 → C3 196 (36 * 1 + i) = zSg (zD0 L (C 186)) i := fun i i0 i1 => by
          rw [c3, if_pos (by omega), b3, show 36 * 1 + i - 36 * 1 = i by omega]
        obtain ⟨r, d1, d2, d3⟩ := c_alike (d := d + 11) (K := K) (O := O') (t := t') (ar := ar) (A := C3) (x := 0) (y := 1) (by omega) (by omega) (fun i i0 i1 => by
          rw [v0 i i0 i1, v1 i i0 i1]
          exact ⟨zSg_rng wC.1 ⟨i0, i1⟩, zSg_rng (zD0_wf wC.1) ⟨i0, i1⟩⟩)
        have d4 : r = 1 ↔ zSame (C 186) (zD0 L (C 186)) := by
          rw [d3]
          constructor
          · intro hh i i0 i1
            have := hh i i0 i1
            rwa [v0 i i0 i1, v1 i i0 i1] at this
          · intro hh i i0 i1
            rw [v0 i i0 i1, v1 i i0 i1]; exact hh i i0 i1
        unfold zSet
        rw [i294_13 (by omega)]
        by_cases hs : zSame (C 186) (zD0 L (C 186))
        · have hr1 := d4.2 hs
          subst hr1
          refine ⟨n + 1, C3, ?_, hC3⟩
          rw [if_pos hs]
          by_cases hn6 : 60 < n + 1
          · simp (disch := first | assumption | omega | exact zr_and | exact zr_or | exact zr_xor | exact zr_shl | exact zr_shr | exact zr_ushr | exact zr_byte | exact isHall3 | exact isLaw12) only [i294_9, i294_13, i294_19, i294_23, i294_28, i294_32, i294_37, i294_43, i294_46, i294_50, i294_51, i294_62, a1, b1, c1, d1, mB1_i, mB0_i, mB1n_i, mB0n_i, mB1_x, mB0_x, ↓if_pos, ↓if_neg, if_true, if_false, if_pos, if_neg]
          · simp (disch := first | assumption | omega | exact zr_and | exact zr_or | exact zr_xor | exact zr_shl | exact zr_shr | exact zr_ushr | exact zr_byte | exact isHall3 | exact isLaw12) only [i294_9, i294_13, i294_19, i294_23, i294_28, i294_32, i294_37, i294_43, i294_46, i294_50, i294_51, i294_62, a1, b1, c1, d1, mB1_i, mB0_i, mB1n_i, mB0n_i, mB1_x, mB0_x, ↓if_pos, ↓if_neg, if_true, if_false, if_pos, if_neg]
        · have hr0 : r = 0 := by
            rcases d2 with h | h
            · exact h
            · exact absurd (d4.1 h) hs
          subst hr0
          obtain ⟨x, C', q1, q2⟩ := ih (n + 1) C3 (by omega) (by omega) hC3
          rw [c2 186 (by decide), b3] at q1
          refine ⟨x, C', ?_, q2⟩
          rw [if_neg hs, ← q1]
          simp (disch := first | assumption | omega | exact zr_and | exact zr_or | exact zr_xor | exact zr_shl | exact zr_shr | exact zr_ushr | exact zr_byte | exact isHall3 | exact isLaw12) only [i294_9, i294_19, i294_23, i294_28, i294_32, i294_37, i294_43, i294_46, i294_50, i294_51, i294_62, a1, b1, c1, d1, mB1_i, mB0_i, mB1n_i, mB0n_i, mB1_x, mB0_x, ↓if_pos, ↓if_neg, if_true, if_false, if_pos, if_neg]
    obtain ⟨x, C1, q1, q2⟩ := l1 61 0 C0 (by omega) (by omega) p2
    rw [p3] at q1
    obtain ⟨C2, s1, s2, -, -⟩ := t_brings (d := d + 11) (K := K) (O := O') (t := t') (ar := ar) (A := zU A1 185 0 0) (L := L) (by rw [u6']; exact hI.1.1) (by rw [u6']; exact lr) q2
    refine ⟨C2, ?_, zFm_0 s2⟩
    simp (disch := first | assumption | omega | exact zr_and | exact zr_or | exact zr_xor | exact zr_shl | exact zr_shr | exact zr_ushr | exact zr_byte | exact isHall3 | exact isLaw12) only [i294_0, i294_9, i294_19, i294_23, i294_28, i294_32, i294_37, i294_43, i294_46, i294_50, i294_51, i294_58, i294_62, p1, q1, s1, mB1_i, mB0_i, mB1n_i, mB0n_i, mB1_x, mB0_x, ↓if_pos, ↓if_neg, if_true, if_false, if_pos, if_neg]
end SETTLES
