/-! CONTRACTS, 13: days in the reference, what is kept and brought back -/
section RDAYS
variable {ar : Nat → Nat × (Nat → Int32)} {d t : Nat} {K : Nat → Nat → Option Nat} {A A' : Nat → Int → Int} {O : Nat → Int64}
theorem c_allGo' {L : zLines} (hw : zHW0 (A 186)) (hL : zLawR (A 186) L) : ∃ A', mGd ar (d + 6) 285 0 [.ref 185, .double 0, .double 0, .double 0, .double 0] [] (zW K A O t) = some (.inl (some (.int (zI (zChg (A 186) L)))), zW K A' O t) ∧ zRf A A' ∧ A' 186 = zGo1 (A 186) L := by
  obtain ⟨A', g1, g2, g3⟩ := c_allGo (d := d) (K := K) (O := O) (t := t) (ar := ar) hw hL
  refine ⟨A', g1, g2, ?_⟩
  funext i
  by_cases hi : 0 ≤ i
  · exact g3 i hi
  · rw [zGo1_lo (by omega), g2.2.2 i (by omega)]
theorem c_ends (h : 0 ≤ A 186 3 ∧ A 186 3 ≤ 9999) : mGd ar (d + 1) 289 0 [.ref 185] [] (zW K A O t) = some (.inl none, zW K (zU A 186 3 (min 9999 (A 186 3 + 1))) O t) := by
  have m1 := c_min (d := d) (K := K) (O := O) (t := t) (ar := ar) (A := A) (x := 9999) (y := A 186 3 + 1) (by omega) (by omega)
  simp (disch := first | assumption | omega | exact zr_and | exact zr_or | exact zr_xor | exact zr_shl | exact zr_shr | exact zr_ushr | exact zr_byte) only [i289_0, i289_19, m1, mB1_i, mB0_i, mB1n_i, mB0n_i, mB1_x, mB0_x, ↓if_pos, ↓if_neg, if_true, if_false, if_pos, if_neg]
theorem zEnd_u : (zU A 186 3 (min 9999 (A 186 3 + 1))) 186 = zEnd (A 186) := by
  funext i; unfold zU zEnd; simp
theorem c_calm {L : zLines} (hw : zHW0 (A 186)) (hL : zLawR (A 186) L) : ∃ A', mGd ar (d + 7) 292 0 [.ref 185] [] (zW K A O t) = some (.inl none, zW K A' O t) ∧ zRf A A' ∧ A' 186 = zD0 L (A 186) := by
  obtain ⟨B, g1, g2, g3⟩ := c_allGo' (d := d) (K := K) (O := O) (t := t) (ar := ar) hw hL
  have w3 := (zGo1_wf (L := L) hw).2.2.2.1
  rw [← g3] at w3
  have c1 := c_ends (d := d + 5) (K := K) (O := O) (t := t) (ar := ar) (A := B) w3
  refine ⟨_, ?_, zRf_trans g2 (zRf_u (i := 3) (v := min 9999 (B 186 3 + 1)) (by omega)), ?_⟩
  · simp (disch := first | assumption | omega | exact zr_and | exact zr_or | exact zr_xor | exact zr_shl | exact zr_shr | exact zr_ushr | exact zr_byte) only [i292_0, i292_4, i292_9, g1, c1, mB1_i, mB0_i, mB1n_i, mB0n_i, mB1_x, mB0_x, ↓if_pos, ↓if_neg, if_true, if_false, if_pos, if_neg]
  · rw [zEnd_u, g3]; rfl
theorem c_drawn {n : Int} (hn : 0 < n ∧ n ≤ 100) : mGd ar (d) 287 0 [.ref 185, .int (zI n)] [] (zW K A O t) = some (.inl (some (.int (zI (zDr (zNx (A 186 6)) % n)))), zW K (zU A 186 6 (zNx (A 186 6))) O t) := by
  have h := zDr_rng (s := zNx (A 186 6))
  have e : zAnd (zShr ((zU A 186 6 (1103515245 * A 186 6 + 12345)) 186 6) 16) 32767 = zDr (zNx (A 186 6)) := by rw [zU_at, zDr_s]; rfl
  rw [i287_0 (by rw [e]; omega) (by omega) hn.1, e, Int.tmod_eq_emod_of_nonneg h.1]
  rfl
theorem tells_loop {ch : Int} {h : Int → Int} :
    ∀ (m : Nat) (x : Int) (B : Nat → Int → Int), x = 5 + m → x ≤ 359 → (∀ c, c ≠ 186 → B c = A c) → (∀ i, B 186 i = if 63 + x < i ∧ i < 423 then h (i - 6) else h i) →
    ∃ B', mGd ar (d) 288 4 [.ref 185, .int (zI ch), .int (zI x)] [] (zW K B O t) = mGd ar (d) 288 37 [.ref 185, .int (zI ch), .int (zI 5)] [] (zW K B' O t) ∧ (∀ c, c ≠ 186 → B' c = A c) ∧ ∀ i, B' 186 i = if 69 ≤ i ∧ i < 423 then h (i - 6) else h i := by
  intro m
  induction m with
  | zero =>
    intro x B hx hx9 hB hh
    refine ⟨B, ?_, hB, fun i => ?_⟩
    · rw [i288_4 (by omega), if_pos (by omega), show x = 5 by omega]
    · rw [hh i]
      by_cases q : 69 ≤ i ∧ i < 423
      · rw [if_pos q, if_pos (by omega)]
      · rw [if_neg q, if_neg (by omega)]
  | succ m ih =>
    intro x B hx hx9 hB hh
    obtain ⟨B', g1, g2⟩ := ih (x + -1) (zU B 186 (63 + x) (B 186 (63 + x - 6))) (by omega) (by omega) (fun c hc => by rw [zU_r hc, hB c hc]) (fun i => by
      by_cases hi : i = 63 + x
      · rw [hi, zU_at, hh, if_neg (by omega), if_pos (by omega)]
      · rw [zU_s hi, hh]
        by_cases q : 63 + x < i ∧ i < 423
        · rw [if_pos q, if_pos (by omega)]
        · rw [if_neg q, if_neg (by omega)])
    refine ⟨B', ?_, g2⟩
    rw [← g1, i288_4 (by omega)]
    simp (disch := first | assumption | omega | exact zr_and | exact zr_or | exact zr_xor | exact zr_shl | exact zr_shr | exact zr_ushr | exact zr_byte) only [i288_10, mB1_i, mB0_i, mB1n_i, mB0n_i, mB1_x, mB0_x, ↓if_pos, ↓if_neg, if_true, if_false, if_pos, if_neg]
theorem c_tells {ch : Int} (h5 : 0 ≤ A 186 5 ∧ A 186 5 ≤ 60) : ∃ A', mGd ar (d + 1) 288 0 [.ref 185, .int (zI ch), .double 0] [] (zW K A O t) = some (.inl none, zW K A' O t) ∧ (∀ c, c ≠ 186 → A' c = A c) ∧ A' 186 = zTell (A 186) ch := by
  obtain ⟨B, g1, g2, g3⟩ := tells_loop (d := d + 1) (K := K) (O := O) (t := t) (ar := ar) (A := A) (ch := ch) (h := A 186) 354 359 A (by omega) (by omega) (fun _ _ => rfl) (fun i => by rw [if_neg (by omega)])
  have e5 : B 186 5 = A 186 5 := by rw [g3, if_neg (by omega)]
  have e3 : B 186 3 = A 186 3 := by rw [g3, if_neg (by omega)]
  have e11 : B 186 11 = A 186 11 := by rw [g3, if_neg (by omega)]
  have e12 : B 186 12 = A 186 12 := by rw [g3, if_neg (by omega)]
  have e13 : B 186 13 = A 186 13 := by rw [g3, if_neg (by omega)]
  have e14 : B 186 14 = A 186 14 := by rw [g3, if_neg (by omega)]
  have m1 : ∀ C : Nat → Int → Int, mGd ar (d) 39 0 [.int (zI 60), .int (zI ((A 186 5 + 1)))] [] (zW K C O t) = some (.inl (some (.int (zI (min 60 (A 186 5 + 1))))), zW K C O t) := fun C => c_min (by omega) (by omega)
  refine ⟨zU (zU (zU (zU (zU (zU (zU B 186 63 (A 186 3)) 186 64 (A 186 11)) 186 65 (A 186 12)) 186 66 (A 186 13)) 186 67 (A 186 14)) 186 68 ch) 186 5 (min 60 (A 186 5 + 1)), ?_, fun c hc => ?_, ?_⟩
  · rw [i288_0, g1, i288_37, e3]
    have st : ∀ (x : Int) (C : Nat → Int → Int), 0 ≤ x ∧ x < 4 → mGd ar (d + 1) 288 52 [.ref 185, .int (zI ch), .int (zI x)] [] (zW K C O t) = mGd ar (d + 1) 288 52 [.ref 185, .int (zI ch), .int (zI ((x + 1)))] [] (zW K (zU C 186 (64 + x) (C 186 (11 + x))) O t) := fun x C hx => by
      rw [i288_52 (by omega), if_neg (by omega), i288_57 (by omega) (by omega)]
    rw [st 0 _ (by omega), st (0 + 1) _ (by omega), st (0 + 1 + 1) _ (by omega), st (0 + 1 + 1 + 1) _ (by omega)]
    simp only [Int.reduceAdd]
    simp (disch := first | assumption | omega) only [e11, e12, e13, e14, zU_at, zU_c, zU_s, zU_r]
    rw [i288_52 (by omega), if_pos (by omega), i288_81]
    simp (disch := first | assumption | omega) only [e5, zU_at, zU_c, zU_s, zU_r]
    rw [m1]
    simp (disch := first | assumption | omega | exact zr_and | exact zr_or | exact zr_xor | exact zr_shl | exact zr_shr | exact zr_ushr | exact zr_byte) only [i288_107, mB1_i, mB0_i, mB1n_i, mB0n_i, mB1_x, mB0_x, ↓if_pos, ↓if_neg, if_true, if_false, if_pos, if_neg]
  · rw [zU_r hc, zU_r hc, zU_r hc, zU_r hc, zU_r hc, zU_r hc, zU_r hc, g2 c hc]
  · funext i
    unfold zTell
    by_cases q5 : i = 5
    · rw [if_pos q5, q5, zU_at]
    rw [if_neg q5, zU_s q5]
    by_cases q68 : i = 68
    · rw [if_neg (by omega), if_neg (by omega), if_neg (by omega), if_pos q68, q68, zU_at]
    rw [zU_s q68]
    by_cases q67 : i = 67
    · rw [if_neg (by omega), if_neg (by omega), if_pos (by omega), q67, zU_at]; rfl
    rw [zU_s q67]
    by_cases q66 : i = 66
    · rw [if_neg (by omega), if_neg (by omega), if_pos (by omega), q66, zU_at]; rfl
    rw [zU_s q66]
    by_cases q65 : i = 65
    · rw [if_neg (by omega), if_neg (by omega), if_pos (by omega), q65, zU_at]; rfl
    rw [zU_s q65]
    by_cases q64 : i = 64
    · rw [if_neg (by omega), if_neg (by omega), if_pos (by omega), q64, zU_at]; rfl
    rw [zU_s q64]
    by_cases q63 : i = 63
    · rw [if_neg (by omega), if_pos q63, q63, zU_at]
    rw [zU_s q63, g3]
    by_cases q : 69 ≤ i ∧ i < 423
    · rw [if_pos q, if_pos q]
    · rw [if_neg q, if_neg q, if_neg q63, if_neg (by omega), if_neg q68]
theorem c_oneDay {L : zLines} (hw : zHW0 (A 186)) (h5 : 0 ≤ A 186 5 ∧ A 186 5 ≤ 60) (hL : zLawR (A 186) L) : ∃ A', mGd ar (d + 7) 284 0 [.ref 185, .double 0, .double 0, .double 0] [] (zW K A O t) = some (.inl (some (.int (zI (zChg (A 186) L)))), zW K A' O t) ∧ zRf A A' ∧ A' 186 = zDL L (A 186) := by
  obtain ⟨B, g1, g2, g3⟩ := c_allGo' (d := d) (K := K) (O := O) (t := t) (ar := ar) hw hL
  have wg := zGo1_wf (L := L) hw
  rw [← g3] at wg
  have w0 := wg.1
  have w4 := wg.2.2.2.2.1
  have b5 : B 186 5 = A 186 5 := by rw [g3, zGo1_lo (by omega)]
  have d1 := c_drawn (d := d + 6) (K := K) (O := O) (t := t) (ar := ar) (A := B) (n := 100) (by omega)
  -- behind the strike
  have str : ∃ (C : Nat → Int → Int) (u2 u3 : Value), mGd ar (d + 7) 284 0 [.ref 185, .double 0, .double 0, .double 0] [] (zW K A O t) = mGd ar (d + 7) 284 58 [.ref 185, .int (zI ((zChg (A 186) L))), u2, u3] [] (zW K C O t) ∧ zRf B C ∧ C 186 = zStr (B 186) := by
    have k0 : zU B 186 6 (zNx (B 186 6)) 186 0 = B 186 0 := zU_s (by decide)
    have k4 : zU B 186 6 (zNx (B 186 6)) 186 4 = B 186 4 := zU_s (by decide)
    have g0 := zDr_rng (s := zNx (B 186 6))
    by_cases hc : zDr (zNx (B 186 6)) % 100 < B 186 4 ∧ 0 < B 186 0
    · have d2 := c_drawn (d := d + 6) (K := K) (O := O) (t := t) (ar := ar) (A := zU B 186 6 (zNx (B 186 6))) (n := B 186 0) (by omega)
      rw [zU_at] at d2
      have e2 : zU (zU B 186 6 (zNx (B 186 6))) 186 6 (zNx (zNx (B 186 6))) = zU B 186 6 (zNx (zNx (B 186 6))) := by
        funext c j; unfold zU; split <;> simp_all
      rw [e2] at d2
      have d3 := c_drawn (d := d + 6) (K := K) (O := O) (t := t) (ar := ar) (A := zU B 186 6 (zNx (zNx (B 186 6)))) (n := 4) (by omega)
      rw [zU_at] at d3
      have e3 : zU (zU B 186 6 (zNx (zNx (B 186 6)))) 186 6 (zNx (zNx (zNx (B 186 6)))) = zU B 186 6 (zNx (zNx (zNx (B 186 6)))) := by
        funext c j; unfold zU; split <;> simp_all
      rw [e3] at d3
      have d4 := c_drawn (d := d + 6) (K := K) (O := O) (t := t) (ar := ar) (A := zU B 186 6 (zNx (zNx (zNx (B 186 6))))) (n := 100) (by omega)
      rw [zU_at] at d4
      have e4 : zU (zU B 186 6 (zNx (zNx (zNx (B 186 6))))) 186 6 (zNx (zNx (zNx (zNx (B 186 6))))) = zU B 186 6 (zNx (zNx (zNx (zNx (B 186 6))))) := by
        funext c j; unfold zU; split <;> simp_all
      rw [e4] at d4
      have m1 := Int.emod_nonneg (zDr (zNx (zNx (B 186 6)))) (show B 186 0 ≠ 0 by omega)
      have m2 := Int.emod_lt_of_pos (zDr (zNx (zNx (B 186 6)))) hc.2
      have m3 := zDr_rng (s := zNx (zNx (zNx (B 186 6))))
      refine ⟨zU (zU B 186 6 (zNx (zNx (zNx (zNx (B 186 6)))))) 186 (15 + 6 * (zDr (zNx (zNx (B 186 6))) % B 186 0) + zDr (zNx (zNx (zNx (B 186 6)))) % 4) (zDr (zNx (zNx (zNx (zNx (B 186 6))))) % 100), .int (zI (zDr (zNx (zNx (B 186 6))) % B 186 0)), .int (zI (zDr (zNx (zNx (zNx (B 186 6)))) % 4)), ?_, ?_, ?_⟩
      · generalize zDr (zNx (zNx (B 186 6))) % B 186 0 = p at *
        generalize zDr (zNx (zNx (zNx (B 186 6)))) = q at *
        have q4 : 0 ≤ 15 + 6 * p + q % 4 ∧ 15 + 6 * p + q % 4 < 2121 := by omega
        simp (disch := first | assumption | omega | exact zr_and | exact zr_or | exact zr_xor | exact zr_shl | exact zr_shr | exact zr_ushr | exact zr_byte) only [i284_0, g1, i284_4, d1, i284_11, i284_20, i233_0, i284_24, i284_27, i284_32, d2, i284_35, d3, i284_41, i234_0, i284_51, d4, i284_57, k0, k4, mB1_i, mB0_i, mB1n_i, mB0n_i, mB1_x, mB0_x, ↓if_pos, ↓if_neg, if_true, if_false, if_pos, if_neg]
      · generalize zDr (zNx (zNx (B 186 6))) % B 186 0 = p at *
        exact zRf_trans (zRf_u (by omega)) (zRf_u (by omega))
      · funext i
        unfold zStr
        rw [if_pos hc]
        by_cases h6 : i = 6
        · rw [if_pos h6, zU_s (by
            generalize zDr (zNx (zNx (B 186 6))) % B 186 0 = p at *
            omega), h6, zU_at]
        · rw [if_neg h6]
          by_cases hi : i = 15 + 6 * (zDr (zNx (zNx (B 186 6))) % B 186 0) + zDr (zNx (zNx (zNx (B 186 6)))) % 4
          · rw [if_pos hi, hi, zU_at]
          · rw [if_neg hi, zU_s hi, zU_s h6]
    · refine ⟨zU B 186 6 (zNx (B 186 6)), .double 0, .double 0, ?_, zRf_u (by omega), ?_⟩
      · by_cases h1 : zDr (zNx (B 186 6)) % 100 < B 186 4
        · simp (disch := first | assumption | omega | exact zr_and | exact zr_or | exact zr_xor | exact zr_shl | exact zr_shr | exact zr_ushr | exact zr_byte) only [i284_0, g1, i284_4, d1, i284_11, i284_20, i233_0, i284_24, k0, k4, mB1_i, mB0_i, mB1n_i, mB0n_i, mB1_x, mB0_x, ↓if_pos, ↓if_neg, if_true, if_false, if_pos, if_neg]
        · simp (disch := first | assumption | omega | exact zr_and | exact zr_or | exact zr_xor | exact zr_shl | exact zr_shr | exact zr_ushr | exact zr_byte) only [i284_0, g1, i284_4, d1, i284_11, k4, mB1_i, mB0_i, mB1n_i, mB0n_i, mB1_x, mB0_x, ↓if_pos, ↓if_neg, if_true, if_false, if_pos, if_neg]
      · funext i
        unfold zStr
        rw [if_neg hc]
        by_cases h6 : i = 6
        · rw [if_pos h6, h6, zU_at]
        · rw [if_neg h6, zU_s h6]
  obtain ⟨C, u2, u3, s1, s2, s3⟩ := str
  have ws := zStr_wf wg
  have c5 : C 186 5 = A 186 5 := by rw [s3, zStr_at wg (by omega) (by omega), b5]
  obtain ⟨D, f1, f2, f3⟩ := c_tells (d := d + 5) (K := K) (O := O) (t := t) (ar := ar) (A := C) (ch := zChg (A 186) L) (by rw [c5]; exact h5)
  have d3 : D 186 3 = C 186 3 := by rw [f3]; unfold zTell; rw [if_neg (by decide), if_neg (by decide), if_neg (by decide), if_neg (by decide), if_neg (by decide)]
  have w3 : 0 ≤ D 186 3 ∧ D 186 3 ≤ 9999 := by rw [d3, s3]; exact ws.2.2.2.1
  have ce := c_ends (d := d + 5) (K := K) (O := O) (t := t) (ar := ar) (A := D) w3
  refine ⟨zU D 186 3 (min 9999 (D 186 3 + 1)), ?_, ?_, ?_⟩
  · rw [s1]
    simp (disch := first | assumption | omega | exact zr_and | exact zr_or | exact zr_xor | exact zr_shl | exact zr_shr | exact zr_ushr | exact zr_byte) only [i284_58, f1, i284_63, ce, i284_67, mB1_i, mB0_i, mB1n_i, mB0n_i, mB1_x, mB0_x, ↓if_pos, ↓if_neg, if_true, if_false, if_pos, if_neg]
  · refine zRf_trans (zRf_trans g2 s2) (zRf_trans ?_ (zRf_u (by omega)))
    refine ⟨fun j _ => by rw [f2 _ (by decide)], fun c _ h2 _ _ _ => f2 c h2, fun i hi => ?_⟩
    rw [f3]; unfold zTell; rw [if_neg (by omega), if_neg (by omega), if_neg (by omega), if_neg (by omega), if_neg (by omega)]
  · rw [zEnd_u, f3, s3, g3]; rfl
theorem keeps_loop : ∀ (m : Nat) (x : Int) (B : Nat → Int → Int), x + m = 423 → 0 ≤ x → (∀ c, c ≠ 189 → B c = A c) → (∀ i, B 189 i = if 0 ≤ i ∧ i < x then A 186 i else A 189 i) → ∃ B', mGd ar (d) 291 2 [.ref 185, .int (zI x)] [] (zW K B O t) = some (.inl none, zW K B' O t) ∧ (∀ c, c ≠ 189 → B' c = A c) ∧ ∀ i, B' 189 i = if 0 ≤ i ∧ i < 423 then A 186 i else A 189 i := by
  intro m
  induction m with
  | zero =>
    intro x B hx x0 hB hh
    refine ⟨B, ?_, hB, fun i => ?_⟩
    · simp (disch := first | assumption | omega | exact zr_and | exact zr_or | exact zr_xor | exact zr_shl | exact zr_shr | exact zr_ushr | exact zr_byte) only [i291_2, i291_27, mB1_i, mB0_i, mB1n_i, mB0n_i, mB1_x, mB0_x, ↓if_pos, ↓if_neg, if_true, if_false, if_pos, if_neg]
    · rw [hh i, show x = 423 by omega]
  | succ m ih =>
    intro x B hx x0 hB hh
    obtain ⟨B', g1, g2⟩ := ih (x + 1) (zU B 189 x (B 186 x)) (by omega) (by omega) (fun c hc => by rw [zU_r hc, hB c hc]) (fun i => by
      by_cases hi : i = x
      · rw [hi, zU_at, if_pos (by omega), hB 186 (by decide)]
      · rw [zU_s hi, hh i]
        by_cases q : 0 ≤ i ∧ i < x
        · rw [if_pos q, if_pos (by omega)]
        · rw [if_neg q, if_neg (by omega)])
    refine ⟨B', ?_, g2⟩
    rw [← g1, i291_2 (by omega)]
    simp (disch := first | assumption | omega | exact zr_and | exact zr_or | exact zr_xor | exact zr_shl | exact zr_shr | exact zr_ushr | exact zr_byte) only [i291_9, mB1_i, mB0_i, mB1n_i, mB0n_i, mB1_x, mB0_x, ↓if_pos, ↓if_neg, if_true, if_false, if_pos, if_neg]
theorem c_keeps : ∃ B', mGd ar (d) 291 0 [.ref 185, .double 0] [] (zW K A O t) = some (.inl none, zW K B' O t) ∧ (∀ c, c ≠ 189 → B' c = A c) ∧ ∀ i, 0 ≤ i → i < 423 → B' 189 i = A 186 i := by
  obtain ⟨B', g1, g2, g3⟩ := keeps_loop (d := d) (K := K) (O := O) (t := t) (ar := ar) (A := A) 423 0 A (by omega) (by omega) (fun _ _ => rfl) (fun i => by rw [if_neg (by omega)])
  exact ⟨B', by rw [i291_0]; exact g1, g2, fun i h1 h2 => by rw [g3 i, if_pos ⟨h1, h2⟩]⟩
theorem brings_loop : ∀ (m : Nat) (x : Int) (B : Nat → Int → Int), x + m = 423 → 0 ≤ x → (∀ c, c ≠ 186 → B c = A c) → (∀ i, B 186 i = if 0 ≤ i ∧ i < x then A 189 i else A 186 i) → ∃ B', mGd ar (d) 293 2 [.ref 185, .int (zI x)] [] (zW K B O t) = some (.inl none, zW K B' O t) ∧ (∀ c, c ≠ 186 → B' c = A c) ∧ ∀ i, B' 186 i = if 0 ≤ i ∧ i < 423 then A 189 i else A 186 i := by
  intro m
  induction m with
  | zero =>
    intro x B hx x0 hB hh
    refine ⟨B, ?_, hB, fun i => ?_⟩
    · simp (disch := first | assumption | omega | exact zr_and | exact zr_or | exact zr_xor | exact zr_shl | exact zr_shr | exact zr_ushr | exact zr_byte) only [i293_2, i293_27, mB1_i, mB0_i, mB1n_i, mB0n_i, mB1_x, mB0_x, ↓if_pos, ↓if_neg, if_true, if_false, if_pos, if_neg]
    · rw [hh i, show x = 423 by omega]
  | succ m ih =>
    intro x B hx x0 hB hh
    obtain ⟨B', g1, g2⟩ := ih (x + 1) (zU B 186 x (B 189 x)) (by omega) (by omega) (fun c hc => by rw [zU_r hc, hB c hc]) (fun i => by
      by_cases hi : i = x
      · rw [hi, zU_at, if_pos (by omega), hB 189 (by decide)]
      · rw [zU_s hi, hh i]
        by_cases q : 0 ≤ i ∧ i < x
        · rw [if_pos q, if_pos (by omega)]
        · rw [if_neg q, if_neg (by omega)])
    refine ⟨B', ?_, g2⟩
    rw [← g1, i293_2 (by omega)]
    simp (disch := first | assumption | omega | exact zr_and | exact zr_or | exact zr_xor | exact zr_shl | exact zr_shr | exact zr_ushr | exact zr_byte) only [i293_9, mB1_i, mB0_i, mB1n_i, mB0n_i, mB1_x, mB0_x, ↓if_pos, ↓if_neg, if_true, if_false, if_pos, if_neg]
/-- back to the row w that was kept -/
theorem c_brings {w : Int → Int} (h : ∀ i, 0 ≤ i → i < 423 → A 189 i = w i) (h2 : ∀ i, i < 0 ∨ 423 ≤ i → A 186 i = w i) : ∃ B', mGd ar (d) 293 0 [.ref 185, .double 0] [] (zW K A O t) = some (.inl none, zW K B' O t) ∧ (∀ c, c ≠ 186 → B' c = A c) ∧ B' 186 = w := by
  obtain ⟨B', g1, g2, g3⟩ := brings_loop (d := d) (K := K) (O := O) (t := t) (ar := ar) (A := A) 423 0 A (by omega) (by omega) (fun _ _ => rfl) (fun i => by rw [if_neg (by omega)])
  refine ⟨B', by rw [i293_0]; exact g1, g2, ?_⟩
  funext i
  rw [g3 i]
  by_cases q : 0 ≤ i ∧ i < 423
  · rw [if_pos q]; exact h i q.1 q.2
  · rw [if_neg q]; exact h2 i (by omega)
end RDAYS
