/-! CONTRACTS, 10: strikes, days one behind another, the log -/
def zEnd (h : Int → Int) (i : Int) : Int := if i = 3 then min 9999 (h 3 + 1) else h i
noncomputable def zD0 (L : zLines) (h : Int → Int) : Int → Int := zEnd (zGo1 h L)
noncomputable def zD1 (L : zLines) (h : Int → Int) : Int → Int := zEnd (zStr (zGo1 h L))
theorem zEnd_wf {h : Int → Int} (hw : zHW0 h) : zHW0 (zEnd h) := by
  obtain ⟨w0, w1, w2, w3, w4, wr, wm, wn, ww, ws⟩ := hw
  have f : ∀ i, i ≠ 3 → zEnd h i = h i := fun i hi => if_neg hi
  unfold zHW0
  rw [f 0 (by omega), f 1 (by omega), f 2 (by omega), f 4 (by omega)]
  refine ⟨w0, w1, w2, ?_, w4, fun k h1 h2 => ?_, fun k h1 h2 => ?_, fun p k h1 h2 h3 h4 => ?_, fun p h1 h2 => ?_, fun p h1 h2 => ?_⟩
  · show 0 ≤ min 9999 (h 3 + 1) ∧ min 9999 (h 3 + 1) ≤ 9999; omega
  · rw [f _ (by omega)]; exact wr k h1 h2
  · rw [f _ (by omega)]; exact wm k h1 h2
  · rw [f _ (by omega)]; exact wn p k h1 h2 h3 h4
  · rw [f _ (by omega)]; exact ww p h1 h2
  · rw [f _ (by omega)]; exact ws p h1 h2
/-- where a strike may write -/
theorem zStr_at {h : Int → Int} (hw : zHW0 h) {i : Int} (hi : i ≠ 6) (hp : i < 15 ∨ 63 ≤ i ∨ ∃ q, i = 15 + 6 * q + 4 ∨ i = 15 + 6 * q + 5) : zStr h i = h i := by
  have w0 := hw.1
  unfold zStr
  by_cases hc : zDr (zNx (h 6)) % 100 < h 4 ∧ 0 < h 0
  · rw [if_pos hc, if_neg hi]
    have m1 := Int.emod_nonneg (zDr (zNx (zNx (h 6)))) (show h 0 ≠ 0 by omega)
    have m2 := Int.emod_lt_of_pos (zDr (zNx (zNx (h 6)))) hc.2
    rw [if_neg]
    generalize zDr (zNx (zNx (h 6))) % h 0 = p at *
    generalize zDr (zNx (zNx (zNx (h 6)))) = q at *
    rcases hp with hp | hp | ⟨r, hp | hp⟩ <;> omega
  · rw [if_neg hc, if_neg hi]
theorem zStr_num {h : Int → Int} {i : Int} (hi : i ≠ 6) : zStr h i = h i ∨ (0 ≤ zStr h i ∧ zStr h i ≤ 99) := by
  unfold zStr
  by_cases hc : zDr (zNx (h 6)) % 100 < h 4 ∧ 0 < h 0
  · rw [if_pos hc, if_neg hi]
    split
    · right; omega
    · left; rfl
  · left; rw [if_neg hc, if_neg hi]
theorem zStr_wf {h : Int → Int} (hw : zHW0 h) : zHW0 (zStr h) := by
  have hw' := hw
  obtain ⟨w0, w1, w2, w3, w4, wr, wm, wn, ww, ws⟩ := hw
  unfold zHW0
  rw [zStr_at hw' (by omega) (by omega), zStr_at hw' (by omega) (by omega), zStr_at hw' (by omega) (by omega), zStr_at hw' (by omega) (by omega), zStr_at hw' (by omega) (by omega)]
  refine ⟨w0, w1, w2, w3, w4, fun k h1 h2 => ?_, fun k h1 h2 => ?_, fun p k h1 h2 h3 h4 => ?_, fun p h1 h2 => ?_, fun p h1 h2 => ?_⟩
  · rw [zStr_at hw' (by omega) (by omega)]; exact wr k h1 h2
  · rw [zStr_at hw' (by omega) (by omega)]; exact wm k h1 h2
  · rcases zStr_num (h := h) (i := 15 + 6 * p + k) (by omega) with e | e
    · rw [e]; exact wn p k h1 h2 h3 h4
    · exact e
  · rw [zStr_at hw' (by omega) (Or.inr (Or.inr ⟨p, Or.inl rfl⟩))]; exact ww p h1 h2
  · rw [zStr_at hw' (by omega) (Or.inr (Or.inr ⟨p, Or.inr rfl⟩))]; exact ws p h1 h2
theorem zD0_wf {L : zLines} {h : Int → Int} (hw : zHW0 h) : zHW0 (zD0 L h) := zEnd_wf (zGo1_wf hw)
theorem zD1_wf {L : zLines} {h : Int → Int} (hw : zHW0 h) : zHW0 (zD1 L h) := zEnd_wf (zStr_wf (zGo1_wf hw))
def zIt (f : (Int → Int) → Int → Int) : Nat → (Int → Int) → Int → Int
  | 0, h => h
  | n + 1, h => zIt f n (f h)
section DAYS
variable {ar : Nat → Nat × (Nat → Int32)} {d t : Nat} {K : Nat → Nat → Option Nat} {A A' : Nat → Int → Int} {O : Nat → Int64}
theorem zHR0_end {a : Nat} {h : Int → Int} (hr : zHR0 A a h) : zHR0 (zU A a 7 (min 9999 (h 3 + 1))) a (zEnd h) := by
  obtain ⟨r0, r9, r7, r6, r8, rr, rm, rn, rw', ⟨s1, s2⟩⟩ := hr
  have f : ∀ i, i ≠ 3 → zEnd h i = h i := fun i hi => if_neg hi
  unfold zHR0 zStub
  rw [f 0 (by omega), f 1 (by omega), f 4 (by omega), f 6 (by omega)]
  refine ⟨?_, ?_, ?_, ?_, ?_, fun k h1 h2 => ?_, fun k h1 h2 => ?_, fun p k h1 h2 h3 h4 => ?_, fun p h1 h2 => ?_, ?_, fun p h1 h2 => ?_⟩
  · rw [zU_s (by decide)]; exact r0
  · rw [zU_s (by decide)]; exact r9
  · rw [zU_at]; rfl
  · rw [zU_s (by decide)]; exact r6
  · rw [zU_s (by decide)]; exact r8
  · rw [zU_c (by omega), f _ (by omega)]; exact rr k h1 h2
  · rw [zU_c (by omega), f _ (by omega)]; exact rm k h1 h2
  · rw [zU_c (by omega), f _ (by omega)]; exact rn p k h1 h2 h3 h4
  · rw [zU_c (by omega), f _ (by omega)]; exact rw' p h1 h2
  · rw [zU_s (by decide)]; exact s1
  · rw [zU_s (by decide), f _ (by omega)]; exact s2 p h1 h2
theorem c_strike {a : Nat} (ha : isHall a) {h : Int → Int} (hw : zHW0 h) (hr : zHR0 A a h) : ∃ A', mGd ar (d + 1) 42 0 [.ref a, .double 0, .double 0] [] (zW K A O t) = some (.inl none, zW K A' O t) ∧ zHR0 A' a (zStr h) ∧ ∀ c, c ≠ a → c ≠ a + 1 → A' c = A c := by
  have w0 := hw.1
  have w4 := hw.2.2.2.2.1
  have r0 := hr.1
  have r6 := hr.2.2.2.1
  have r8 := hr.2.2.2.2.1
  have d1 := c_draw (d := d) (K := K) (O := O) (t := t) (ar := ar) (A := A) ha
  rw [r8] at d1
  have g1 := zDr_rng (s := zNx (h 6))
  have t1 : Int.tmod (zDr (zNx (h 6))) 100 = zDr (zNx (h 6)) % 100 := Int.tmod_eq_emod_of_nonneg g1.1
  have k0 : zU A a 8 (zNx (h 6)) a 0 = h 0 := by rw [zU_s (by decide)]; exact r0
  have k6 : zU A a 8 (zNx (h 6)) a 6 = h 4 := by rw [zU_s (by decide)]; exact r6
  by_cases hc : zDr (zNx (h 6)) % 100 < h 4 ∧ 0 < h 0
  · have d2 := c_draw (d := d) (K := K) (O := O) (t := t) (ar := ar) (A := zU A a 8 (zNx (h 6))) ha
    rw [zU_at] at d2
    have e2 : zU (zU A a 8 (zNx (h 6))) a 8 (zNx (zNx (h 6))) = zU A a 8 (zNx (zNx (h 6))) := by
      funext c j; unfold zU; split <;> simp_all
    rw [e2] at d2
    have d3 := c_draw (d := d) (K := K) (O := O) (t := t) (ar := ar) (A := zU A a 8 (zNx (zNx (h 6)))) ha
    rw [zU_at] at d3
    have e3 : zU (zU A a 8 (zNx (zNx (h 6)))) a 8 (zNx (zNx (zNx (h 6)))) = zU A a 8 (zNx (zNx (zNx (h 6)))) := by
      funext c j; unfold zU; split <;> simp_all
    rw [e3] at d3
    have d4 := c_draw (d := d) (K := K) (O := O) (t := t) (ar := ar) (A := zU A a 8 (zNx (zNx (zNx (h 6))))) ha
    rw [zU_at] at d4
    have e4 : zU (zU A a 8 (zNx (zNx (zNx (h 6))))) a 8 (zNx (zNx (zNx (zNx (h 6))))) = zU A a 8 (zNx (zNx (zNx (zNx (h 6))))) := by
      funext c j; unfold zU; split <;> simp_all
    rw [e4] at d4
    have g2 := zDr_rng (s := zNx (zNx (h 6)))
    have g3 := zDr_rng (s := zNx (zNx (zNx (h 6))))
    have g4 := zDr_rng (s := zNx (zNx (zNx (zNx (h 6)))))
    have k02 : zU A a 8 (zNx (zNx (h 6))) a 0 = h 0 := by rw [zU_s (by decide)]; exact r0
    have t2 : Int.tmod (zDr (zNx (zNx (h 6)))) (h 0) = zDr (zNx (zNx (h 6))) % h 0 := Int.tmod_eq_emod_of_nonneg g2.1
    have t3 : Int.tmod (zDr (zNx (zNx (zNx (h 6))))) 4 = zDr (zNx (zNx (zNx (h 6)))) % 4 := Int.tmod_eq_emod_of_nonneg g3.1
    have t4 : Int.tmod (zDr (zNx (zNx (zNx (zNx (h 6)))))) 100 = zDr (zNx (zNx (zNx (zNx (h 6))))) % 100 := Int.tmod_eq_emod_of_nonneg g4.1
    have m1 := Int.emod_nonneg (zDr (zNx (zNx (h 6)))) (show h 0 ≠ 0 by omega)
    have m2 := Int.emod_lt_of_pos (zDr (zNx (zNx (h 6)))) hc.2
    have hz := zHR0_put (zHR0_seed hr (v := zNx (zNx (zNx (zNx (h 6)))))) (p := zDr (zNx (zNx (h 6))) % h 0) (k := zDr (zNx (zNx (zNx (h 6)))) % 4) (v := zDr (zNx (zNx (zNx (zNx (h 6))))) % 100) ⟨m1, m2⟩ (by omega)
    refine ⟨zU (zU A a 8 (zNx (zNx (zNx (zNx (h 6)))))) (a + 1) (zDr (zNx (zNx (h 6))) % h 0 * 4 + zDr (zNx (zNx (zNx (h 6)))) % 4) (zDr (zNx (zNx (zNx (zNx (h 6))))) % 100), ?_, ?_, ?_⟩
    · generalize zDr (zNx (zNx (h 6))) % h 0 = p at *
      have q4 : 0 ≤ p * 4 + zDr (zNx (zNx (zNx (h 6)))) % 4 ∧ p * 4 + zDr (zNx (zNx (zNx (h 6)))) % 4 < 32 := by omega
      simp (disch := first | assumption | omega | exact zr_and | exact zr_or | exact zr_xor | exact zr_shl | exact zr_shr | exact zr_ushr | exact zr_byte) only [i42_0, i42_4, i42_14, i42_21, i42_22, i42_26, i42_36, i42_46, i42_52, d1, d2, d3, d4, t1, t2, t3, t4, k0, k6, k02, i41_0, mB1_i, mB0_i, mB1n_i, mB0n_i, mB1_x, mB0_x, if_true, if_false, if_pos, if_neg]
    · have e : zStr h = fun i => if i = 15 + 6 * (zDr (zNx (zNx (h 6))) % h 0) + zDr (zNx (zNx (zNx (h 6)))) % 4 then zDr (zNx (zNx (zNx (zNx (h 6))))) % 100 else (fun i => if i = 6 then zNx (zNx (zNx (zNx (h 6)))) else h i) i := by
        funext i
        unfold zStr
        rw [if_pos hc]
        by_cases h6 : i = 6
        · rw [if_pos h6, if_neg (by
            generalize zDr (zNx (zNx (h 6))) % h 0 = p at *
            omega)]
          show _ = if i = 6 then _ else _
          rw [if_pos h6]
        · rw [if_neg h6]
          show _ = if _ then _ else if i = 6 then _ else _
          rw [if_neg h6]
      rw [e]
      exact hz
    · intro c c1 c2
      rw [zU_r c2, zU_r c1]
  · refine ⟨zU A a 8 (zNx (h 6)), ?_, ?_, ?_⟩
    · by_cases h1 : zDr (zNx (h 6)) % 100 < h 4
      · simp (disch := first | assumption | omega | exact zr_and | exact zr_or | exact zr_xor | exact zr_shl | exact zr_shr | exact zr_ushr | exact zr_byte) only [i42_0, i42_4, i42_14, i42_21, i42_22, i42_26, i42_36, i42_46, i42_52, d1, t1, k0, k6, mB1_i, mB0_i, mB1n_i, mB0n_i, mB1_x, mB0_x, if_true, if_false, if_pos, if_neg]
      · simp (disch := first | assumption | omega | exact zr_and | exact zr_or | exact zr_xor | exact zr_shl | exact zr_shr | exact zr_ushr | exact zr_byte) only [i42_0, i42_4, i42_14, i42_21, i42_22, i42_26, i42_36, i42_46, i42_52, d1, t1, k0, k6, mB1_i, mB0_i, mB1n_i, mB0n_i, mB1_x, mB0_x, if_true, if_false, if_pos, if_neg]
    · have e : zStr h = fun i => if i = 6 then zNx (h 6) else h i := by
        funext i; unfold zStr; rw [if_neg hc]
      rw [e]
      exact zHR0_seed hr
    · intro c c1 c2
      rw [zU_r c1]
/-- what a day leaves as it was -/
def zPf (A A' : Nat → Int → Int) (a b : Nat) : Prop := ∀ x, x ≠ a → x ≠ a + 1 → x ≠ a + 4 → x ≠ 173 → x ≠ 174 → x ≠ b + 5 → x ≠ b + 6 → A' x = A x
theorem c_passDay {a b : Nat} (ha : isHall a) (hb : isLaw b) (hab : b + 6 < a ∨ a + 8 < b) {h : Int → Int} {L : zLines} (hw : zHW0 h) (hr : zHR0 A a h) (hL : zLawC A b L) {dr : Int} (hd : dr = 0 ∨ dr = 1) :
    ∃ A', mGd ar (d + 4) 22 0 [.ref a, .ref b, .ref 173, .int (zI dr), .double 0, .double 0, .double 0, .double 0] [] (zW K A O t) = some (.inl (some (.int (zI (zChg h L)))), zW K A' O t) ∧ zHR0 A' a (if dr = 1 then zD1 L h else zD0 L h) ∧ zPf A A' a b := by
  have hlt := isHall_lt ha
  have hlb := isLaw_lt hb
  obtain ⟨B1, k', g1, g2, g3⟩ := pd_man (d := d + 1) (K := K) (O := O) (t := t) (ar := ar) ha hb hw hr (dr := dr) (u5 := .double 0) (u6 := .double 0) (u7 := .double 0) 4 0 A (by omega) (by omega) (fun _ _ _ _ => rfl) (fun j j0 j1 => by omega) (fun j j0 j1 => hr.2.2.2.2.2.2.1 j j0 j1)
  obtain ⟨B2, v6, v7, f1, f2, f3, f4⟩ := pd_out (d := d) (K := K) (O := O) (t := t) (ar := ar) ha hb hab hw hr hL (dr := dr) (h 0).toNat 0 0 B1 (.double 0) (.double 0) (by have := hw.1; omega) (by omega) (fun x x1 x2 x3 x4 x5 x6 => g2 x x2 x3 x4) g3 (fun q j q0 q1 => by omega) (fun q j q0 q1 j0 j1 => by rw [g2 _ (by omega) (by omega) (by omega)]; exact hr.2.2.2.2.2.2.2.1 q j q0 q1 j0 j1)
  rw [Int.zero_add] at f1
  have hr2 : zHR0 B2 a (zGo1 h L) := zHR0_go hw hr (f2 _ (by omega) (by omega) (by omega) (by omega) (by omega) (by omega)) (f2 _ (by omega) (by omega) (by omega) (by omega) (by omega) (by omega)) (f2 _ (by omega) (by omega) (by omega) (by omega) (by omega) (by omega)) f3 f4
  have run : mGd ar (d + 4) 22 0 [.ref a, .ref b, .ref 173, .int (zI dr), .double 0, .double 0, .double 0, .double 0] [] (zW K A O t) = mGd ar (d + 4) 22 116 [.ref a, .ref b, .ref 173, .int (zI dr), .int (zI ((zChg h L))), .int (zI ((h 0))), v6, v7] [] (zW K B2 O t) := by
    rw [i22_0 ha hb]
    refine Eq.trans g1 ?_
    rw [i22_43 ha hb]
    exact f1
  rw [run]
  have wf := zGo1_wf (L := L) hw
  rcases hd with rfl | rfl
  · rw [if_neg (by decide)]
    have h7 := hr2.2.2.1
    have w3 := wf.2.2.2.1
    have m1 := c_min (d := d + 3) (K := K) (O := O) (t := t) (ar := ar) (A := B2) (x := 9999) (y := zGo1 h L 3 + 1) (by omega) (by omega)
    refine ⟨_, ?_, zHR0_end hr2, fun x x1 x2 x3 x4 x5 x6 x7 => by rw [zU_r x1, f2 x x2 x3 x4 x5 x6 x7]⟩
    simp (disch := first | assumption | omega | exact zr_and | exact zr_or | exact zr_xor | exact zr_shl | exact zr_shr | exact zr_ushr | exact zr_byte) only [i22_116, i22_124, i22_137, h7, m1, mB1_i, mB0_i, mB1n_i, mB0n_i, mB1_x, mB0_x, if_true, if_false, if_pos, if_neg]
  · rw [if_pos rfl]
    obtain ⟨B3, s1, s2, s3⟩ := c_strike (d := d + 2) (K := K) (O := O) (t := t) (ar := ar) ha wf hr2
    have h7 := s2.2.2.1
    have w3 := (zStr_wf wf).2.2.2.1
    have m1 := c_min (d := d + 3) (K := K) (O := O) (t := t) (ar := ar) (A := B3) (x := 9999) (y := zStr (zGo1 h L) 3 + 1) (by omega) (by omega)
    refine ⟨_, ?_, zHR0_end s2, fun x x1 x2 x3 x4 x5 x6 x7 => by rw [zU_r x1, s3 x x1 x2, f2 x x2 x3 x4 x5 x6 x7]⟩
    simp (disch := first | assumption | omega | exact zr_and | exact zr_or | exact zr_xor | exact zr_shl | exact zr_shr | exact zr_ushr | exact zr_byte) only [i22_116, i22_120, s1, i22_124, i22_137, h7, m1, mB1_i, mB0_i, mB1n_i, mB0n_i, mB1_x, mB0_x, if_true, if_false, if_pos, if_neg]
theorem zLawC_pf {a b : Nat} {L : zLines} (hL : zLawC A b L) (hab : b + 6 < a ∨ a + 8 < b) (hlb : b + 6 < 170) (h : zPf A A' a b) : zLawC A' b L :=
  zLawC_same hL (fun c h1 h2 => h c (by omega) (by omega) (by omega) (by omega) (by omega) (by omega) (by omega))
theorem pds_loop {a b : Nat} (ha : isHall a) (hb : isLaw b) (hab : b + 6 < a ∨ a + 8 < b) {L : zLines} {dr n : Int} (hd : dr = 0 ∨ dr = 1) (hn : 0 ≤ n ∧ n ≤ 60) :
    ∀ (m : Nat) (i : Int) (h : Int → Int) (B : Nat → Int → Int), i + m = n → 0 ≤ i → zHW0 h → zHR0 B a h → zLawC B b L → ∃ B', mGd ar (d + 5) 45 3 [.ref a, .ref b, .ref 173, .int (zI n), .int (zI dr), .int (zI i)] [] (zW K B O t) = some (.inl none, zW K B' O t) ∧ zHR0 B' a (zIt (if dr = 1 then zD1 L else zD0 L) m h) ∧ zPf B B' a b := by
  have hlb := isLaw_lt hb
  intro m
  induction m with
  | zero =>
    intro i h B hi i0 hw hr hL
    refine ⟨B, ?_, hr, fun _ _ _ _ _ _ _ _ => rfl⟩
    simp (disch := first | assumption | omega | exact zr_and | exact zr_or | exact zr_xor | exact zr_shl | exact zr_shr | exact zr_ushr | exact zr_byte) only [i45_3, i45_24, mB1_i, mB0_i, mB1n_i, mB0n_i, mB1_x, mB0_x, if_true, if_false, if_pos, if_neg]
  | succ m ih =>
    intro i h B hi i0 hw hr hL
    obtain ⟨B1, g1, g2, g3⟩ := c_passDay (d := d) (K := K) (O := O) (t := t) (ar := ar) ha hb hab hw hr hL hd
    have e : (if dr = 1 then zD1 L h else zD0 L h) = (if dr = 1 then zD1 L else zD0 L) h := by split <;> rfl
    rw [e] at g2
    have wf : zHW0 ((if dr = 1 then zD1 L else zD0 L) h) := by
      split
      · exact zD1_wf hw
      · exact zD0_wf hw
    obtain ⟨B', f1, f2, f3⟩ := ih (i + 1) _ B1 (by omega) (by omega) wf g2 (zLawC_pf hL hab (by omega) g3)
    refine ⟨B', ?_, f2, fun x x1 x2 x3 x4 x5 x6 x7 => by rw [f3 x x1 x2 x3 x4 x5 x6 x7, g3 x x1 x2 x3 x4 x5 x6 x7]⟩
    rw [← f1, i45_3 ha hb (by omega) (by omega)]
    simp (disch := first | assumption | omega | exact zr_and | exact zr_or | exact zr_xor | exact zr_shl | exact zr_shr | exact zr_ushr | exact zr_byte) only [i45_9, g1, i45_17, mB1_i, mB0_i, mB1n_i, mB0n_i, mB1_x, mB0_x, if_true, if_false, if_pos, if_neg]
theorem c_passDays {a b : Nat} (ha : isHall a) (hb : isLaw b) (hab : b + 6 < a ∨ a + 8 < b) {L : zLines} {dr n : Int} (hd : dr = 0 ∨ dr = 1) (hn : 0 ≤ n ∧ n ≤ 60) {h : Int → Int} (hw : zHW0 h) (hr : zHR0 A a h) (hL : zLawC A b L) : ∃ B', mGd ar (d + 5) 45 0 [.ref a, .ref b, .ref 173, .int (zI n), .int (zI dr), .double 0] [] (zW K A O t) = some (.inl none, zW K B' O t) ∧ zHR0 B' a (zIt (if dr = 1 then zD1 L else zD0 L) n.toNat h) ∧ zPf A B' a b := by
  rw [i45_0 ha hb]
  exact pds_loop ha hb hab hd hn n.toNat 0 h A (by omega) (by omega) hw hr hL
theorem zIt_wf {f : (Int → Int) → Int → Int} (hf : ∀ h, zHW0 h → zHW0 (f h)) : ∀ {n : Nat} {h : Int → Int}, zHW0 h → zHW0 (zIt f n h)
  | 0, _, hw => hw
  | n + 1, h, hw => zIt_wf (n := n) hf (hf h hw)
end DAYS
