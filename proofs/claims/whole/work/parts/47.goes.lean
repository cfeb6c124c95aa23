/-! CONTRACTS, 8: what a number goes to, in the class -/
section GOES
variable {ar : Nat → Nat × (Nat → Int32)} {d t : Nat} {K : Nat → Nat → Option Nat} {A A' : Nat → Int → Int} {O : Nat → Int64}
def zLawC (A : Nat → Int → Int) (b : Nat) (L : zLines) : Prop := A b 1 = L.length ∧ (L.length : Int) ≤ 12 ∧ zLen L ≤ 400 ∧ zLok L ∧ zLwC A b 0 0 L
theorem step_loop {b : Nat} (hb : isLaw b) {E : Int → Int} (hE : zEok E) (hp : ∀ j, 0 ≤ j → j < 8 → A (b + 5) j = E j) {w1 w2 w3 w4 w5 w6 : Int} :
    ∀ (L : zLines) (n e tw mo : Int) (B : Nat → Int → Int), A b 1 = n + L.length → 0 ≤ n → n + L.length ≤ 12 → 0 ≤ e → e + zLen L ≤ 400 → (e = if n = 0 then 0 else A (b + 3) (n - 1)) → zLok L → zLwC A b n e L → (∀ c, c ≠ b + 6 → B c = A c) →
    ∃ B', mGd ar (d + 2) 35 99 [.ref b, .int (zI w1), .int (zI w2), .int (zI w3), .int (zI w4), .int (zI w5), .int (zI w6), .int (zI tw), .int (zI mo), .int (zI n)] [] (zW K B O t) = mGd ar (d + 2) 35 189 [.ref b, .int (zI w1), .int (zI w2), .int (zI w3), .int (zI w4), .int (zI w5), .int (zI w6), .int (zI ((tw + zLs E 2 L))), .int (zI ((mo + (zLs E 0 L - zLs E 1 L)))), .int (zI ((A b 1)))] [] (zW K B' O t) ∧ ∀ c, c ≠ b + 6 → B' c = A c := by
  have hlt := isLaw_lt hb
  intro L
  induction L with
  | nil =>
    intro n e tw mo B hn n0 n12 e0 e4 he hok hL hB
    have e3 : B b = A b := hB _ (by omega)
    simp only [List.length_nil, Int.natCast_zero, Int.add_zero] at hn
    refine ⟨B, ?_, hB⟩
    rw [show zLs E 2 [] = 0 from rfl, show zLs E 0 [] = 0 from rfl, show zLs E 1 [] = 0 from rfl, show mo + ((0 : Int) - 0) = mo by omega, Int.add_zero, i35_99 hb (by omega) (by rw [e3]; omega), e3, if_pos (by omega), hn]
  | cons q r ih =>
    intro n e tw mo B hn n0 n12 e0 e4 he hok hL hB
    have e3 : B b = A b := hB _ (by omega)
    obtain ⟨l1, l2, l3, l4, l5⟩ := hL
    have hlq : zLen (q :: r) = q.2.2.length + zLen r := rfl
    have hz := zLen_nn (L := r)
    rw [List.length_cons] at hn n12
    rw [i35_99 hb (by omega) (by rw [e3]; omega), e3, if_neg (by omega)]
    have hw := hok.1.1
    obtain ⟨B1, g1, g2⟩ := c_holds (d := d) (K := K) (O := O) (t := t) (ar := ar) (A := B) hb hE (n := n) (e := e) (cs := q.2.2) (by omega) (fun j h1 h2 => by rw [hB _ (by omega)]; exact hp j h1 h2) (by rw [hB _ (by omega)]; exact he) (by rw [hB _ (by omega)]; exact l4) (by rw [hB _ (by omega)]; exact l3) e0 (by omega) hok.1.2.2
    have hB1 : ∀ c, c ≠ b + 6 → B1 c = A c := fun c hc => by rw [g2 c hc, hB c hc]
    have q1 : B1 (b + 1) n = q.1 := by rw [hB1 _ (by omega)]; exact l1
    have q2 : B1 (b + 2) n = q.2.1 := by rw [hB1 _ (by omega)]; exact l2
    have f0 : ∀ w, zLs E w (q :: r) = (if q.1 = w ∧ zHolds E q.2.2 = true then q.2.1 else 0) + zLs E w r := fun w => rfl
    rw [f0 0, f0 1, f0 2]
    by_cases hz2 : zHolds E q.2.2 = true
    · rw [if_pos hz2] at g1
      rcases hw with hw | hw | hw
      · rw [if_pos (show q.1 = 0 ∧ _ from ⟨hw, hz2⟩), if_neg (fun h => by have := h.1; omega), if_neg (fun h => by have := h.1; omega)]
        obtain ⟨B', f1, f2⟩ := ih (n + 1) (e + q.2.2.length) tw (mo + q.2.1) B1 (by omega) (by omega) (by omega) (by omega) (by omega) (by rw [if_neg (by omega), show n + 1 - 1 = n by omega]; exact l3.symm) hok.2 l5 hB1
        refine ⟨B', ?_, f2⟩
        rw [show tw + (0 + zLs E 2 r) = tw + zLs E 2 r by omega, show mo + (q.2.1 + zLs E 0 r - (0 + zLs E 1 r)) = mo + q.2.1 + (zLs E 0 r - zLs E 1 r) by omega, ← f1]
        simp (disch := first | assumption | omega | exact zr_and | exact zr_or | exact zr_xor | exact zr_shl | exact zr_shr | exact zr_ushr | exact zr_byte) only [i35_108, g1, i35_114, i35_120, i35_130, i35_183, q1, q2, mB1_i, mB0_i, mB1n_i, mB0n_i, mB1_x, mB0_x, if_true, if_false, if_pos, if_neg]
      · rw [if_pos (show q.1 = 1 ∧ _ from ⟨hw, hz2⟩), if_neg (fun h => by have := h.1; omega), if_neg (fun h => by have := h.1; omega)]
        obtain ⟨B', f1, f2⟩ := ih (n + 1) (e + q.2.2.length) tw (mo - q.2.1) B1 (by omega) (by omega) (by omega) (by omega) (by omega) (by rw [if_neg (by omega), show n + 1 - 1 = n by omega]; exact l3.symm) hok.2 l5 hB1
        refine ⟨B', ?_, f2⟩
        rw [show tw + (0 + zLs E 2 r) = tw + zLs E 2 r by omega, show mo + (0 + zLs E 0 r - (q.2.1 + zLs E 1 r)) = mo - q.2.1 + (zLs E 0 r - zLs E 1 r) by omega, ← f1]
        simp (disch := first | assumption | omega | exact zr_and | exact zr_or | exact zr_xor | exact zr_shl | exact zr_shr | exact zr_ushr | exact zr_byte) only [i35_108, g1, i35_114, i35_120, i35_145, i35_156, i35_183, q1, q2, mB1_i, mB0_i, mB1n_i, mB0n_i, mB1_x, mB0_x, if_true, if_false, if_pos, if_neg]
      · rw [if_pos (show q.1 = 2 ∧ _ from ⟨hw, hz2⟩), if_neg (fun h => by have := h.1; omega), if_neg (fun h => by have := h.1; omega)]
        obtain ⟨B', f1, f2⟩ := ih (n + 1) (e + q.2.2.length) (tw + q.2.1) mo B1 (by omega) (by omega) (by omega) (by omega) (by omega) (by rw [if_neg (by omega), show n + 1 - 1 = n by omega]; exact l3.symm) hok.2 l5 hB1
        refine ⟨B', ?_, f2⟩
        rw [show tw + (q.2.1 + zLs E 2 r) = tw + q.2.1 + zLs E 2 r by omega, show mo + (0 + zLs E 0 r - (0 + zLs E 1 r)) = mo + (zLs E 0 r - zLs E 1 r) by omega, ← f1]
        simp (disch := first | assumption | omega | exact zr_and | exact zr_or | exact zr_xor | exact zr_shl | exact zr_shr | exact zr_ushr | exact zr_byte) only [i35_108, g1, i35_114, i35_120, i35_145, i35_171, i35_183, q1, q2, mB1_i, mB0_i, mB1n_i, mB0n_i, mB1_x, mB0_x, if_true, if_false, if_pos, if_neg]
    · rw [if_neg hz2] at g1
      rw [if_neg (fun h => hz2 h.2), if_neg (fun h => hz2 h.2), if_neg (fun h => hz2 h.2)]
      obtain ⟨B', f1, f2⟩ := ih (n + 1) (e + q.2.2.length) tw mo B1 (by omega) (by omega) (by omega) (by omega) (by omega) (by rw [if_neg (by omega), show n + 1 - 1 = n by omega]; exact l3.symm) hok.2 l5 hB1
      refine ⟨B', ?_, f2⟩
      rw [show tw + (0 + zLs E 2 r) = tw + zLs E 2 r by omega, show mo + (0 + zLs E 0 r - (0 + zLs E 1 r)) = mo + (zLs E 0 r - zLs E 1 r) by omega, ← f1]
      simp (disch := first | assumption | omega | exact zr_and | exact zr_or | exact zr_xor | exact zr_shl | exact zr_shr | exact zr_ushr | exact zr_byte) only [i35_108, g1, i35_114, i35_117, i35_183, mB1_i, mB0_i, mB1n_i, mB0n_i, mB1_x, mB0_x, if_true, if_false, if_pos, if_neg]
theorem zLwC_of {B : Nat → Int → Int} {b b' : Nat} (h1 : ∀ i, 0 ≤ i → i < 12 → B (b' + 1) i = A (b + 1) i) (h2 : ∀ i, 0 ≤ i → i < 12 → B (b' + 2) i = A (b + 2) i) (h3 : ∀ i, 0 ≤ i → i < 12 → B (b' + 3) i = A (b + 3) i) (h4 : ∀ i, 0 ≤ i → i < 400 → B (b' + 4) i = A (b + 4) i) :
    ∀ (L : zLines) (n e : Int), 0 ≤ n → n + L.length ≤ 12 → 0 ≤ e → e + zLen L ≤ 400 → zLwC A b n e L → zLwC B b' n e L
  | [], _, _, _, _, _, _, _ => trivial
  | q :: r, n, e, n0, n12, e0, e4, ⟨l1, l2, l3, l4, l5⟩ => by
    have hlq : zLen (q :: r) = q.2.2.length + zLen r := rfl
    have hz := zLen_nn (L := r)
    rw [List.length_cons] at n12
    refine ⟨by rw [h1 n n0 (by omega)]; exact l1, by rw [h2 n n0 (by omega)]; exact l2, by rw [h3 n n0 (by omega)]; exact l3, ?_, zLwC_of h1 h2 h3 h4 r (n + 1) (e + q.2.2.length) (by omega) (by omega) (by omega) (by omega) l5⟩
    refine Eq.trans ?_ l4
    exact zLst_ext (fun j hj => h4 _ (by omega) (by omega))
theorem c_step {b : Nat} (hb : isLaw b) {p k m h y : Int} (hp : 0 ≤ p ∧ p < 8) (hk : 0 ≤ k ∧ k < 4) (hm : 0 ≤ m ∧ m ≤ 99) (hh : 0 ≤ h ∧ h ≤ 99) (hy : 0 ≤ y ∧ y ≤ 9999) {L : zLines} (hL : zLawC A b L) :
    ∃ A', mGd ar (d + 2) 35 0 [.ref b, .int (zI p), .int (zI k), .int (zI m), .int (zI h), .int (zI y), .double 0, .double 0, .double 0, .double 0] [] (zW K A O t) = some (.inl (some (.int (zI (zGoes p k m h y L)))), zW K A' O t) ∧ ∀ c, c ≠ b + 5 → c ≠ b + 6 → A' c = A c := by
  have hlt := isLaw_lt hb
  obtain ⟨L1, L2, L3, L4, L5⟩ := hL
  have ha := c_abs (d := d + 1) (K := K) (O := O) (t := t) (ar := ar) (A := A) (x := m - h) (by omega)
  have hE := zEnv_ok hp hk hm hh hy
  have pre : ∃ B, mGd ar (d + 2) 35 0 [.ref b, .int (zI p), .int (zI k), .int (zI m), .int (zI h), .int (zI y), .double 0, .double 0, .double 0, .double 0] [] (zW K A O t) = mGd ar (d + 2) 35 99 [.ref b, .int (zI p), .int (zI k), .int (zI m), .int (zI h), .int (zI y), .int (zI ((zAbs (m - h)))), .int (zI 0), .int (zI 0), .int (zI 0)] [] (zW K B O t) ∧ (∀ c, c ≠ b + 5 → B c = A c) ∧ ∀ j, 0 ≤ j → j < 8 → B (b + 5) j = zEnv p k m h y j := by
    have ev : ∀ (B : Nat → Int → Int) (v6 v7 : Int), v6 = (if h < m then 1 else 0) → v7 = (if m < h then 1 else 0) → ∀ j, 0 ≤ j → j < 8 → (zU (zU (zU (zU (zU (zU (zU (zU A (b + 5) 0 p) (b + 5) 1 k) (b + 5) 2 m) (b + 5) 3 h) (b + 5) 4 (zAbs (m - h))) (b + 5) 5 y) (b + 5) 6 v6) (b + 5) 7 v7) (b + 5) j = zEnv p k m h y j := by
      intro B v6 v7 h6 h7 j j0 j8
      unfold zEnv
      by_cases q0 : j = 0
      · subst q0; simp (disch := first | assumption | omega) only [zU_at, zU_c, zU_s, zU_r]; rfl
      by_cases q1 : j = 1
      · subst q1; simp (disch := first | assumption | omega) only [zU_at, zU_c, zU_s, zU_r]; rfl
      by_cases q2 : j = 2
      · subst q2; simp (disch := first | assumption | omega) only [zU_at, zU_c, zU_s, zU_r]; rfl
      by_cases q3 : j = 3
      · subst q3; simp (disch := first | assumption | omega) only [zU_at, zU_c, zU_s, zU_r]; rfl
      by_cases q4 : j = 4
      · subst q4; simp (disch := first | assumption | omega) only [zU_at, zU_c, zU_s, zU_r]; rfl
      by_cases q5 : j = 5
      · subst q5; simp (disch := first | assumption | omega) only [zU_at, zU_c, zU_s, zU_r]; rfl
      by_cases q6 : j = 6
      · subst q6; simp (disch := first | assumption | omega) only [zU_at, zU_c, zU_s, zU_r]; exact h6
      · have q7 : j = 7 := by omega
        subst q7; simp (disch := first | assumption | omega) only [zU_at, zU_c, zU_s, zU_r]; exact h7
    by_cases h1 : h < m
    · refine ⟨_, ?_, ?_, ev A 1 0 (by rw [if_pos h1]) (by rw [if_neg (by omega)])⟩
      · simp (disch := first | assumption | omega | exact zr_and | exact zr_or | exact zr_xor | exact zr_shl | exact zr_shr | exact zr_ushr | exact zr_byte) only [i35_0, i35_7, i35_66, i35_70, i35_71, i35_84, i35_88, i35_89, i35_108, i35_114, i35_117, i35_120, i35_130, i35_145, i35_156, i35_171, i35_183, i35_196, i35_205, i35_210, i35_213, i35_227, i35_230, ha, mB1_i, mB0_i, mB1n_i, mB0n_i, mB1_x, mB0_x, if_true, if_false, if_pos, if_neg]
      · intro c hc; simp (disch := first | assumption | omega) only [zU_at, zU_c, zU_s, zU_r]
    · by_cases h2 : m < h
      · refine ⟨_, ?_, ?_, ev A 0 1 (by rw [if_neg h1]) (by rw [if_pos h2])⟩
        · simp (disch := first | assumption | omega | exact zr_and | exact zr_or | exact zr_xor | exact zr_shl | exact zr_shr | exact zr_ushr | exact zr_byte) only [i35_0, i35_7, i35_66, i35_70, i35_71, i35_84, i35_88, i35_89, i35_108, i35_114, i35_117, i35_120, i35_130, i35_145, i35_156, i35_171, i35_183, i35_196, i35_205, i35_210, i35_213, i35_227, i35_230, ha, mB1_i, mB0_i, mB1n_i, mB0n_i, mB1_x, mB0_x, if_true, if_false, if_pos, if_neg]
        · intro c hc; simp (disch := first | assumption | omega) only [zU_at, zU_c, zU_s, zU_r]
      · refine ⟨_, ?_, ?_, ev A 0 0 (by rw [if_neg h1]) (by rw [if_neg h2])⟩
        · simp (disch := first | assumption | omega | exact zr_and | exact zr_or | exact zr_xor | exact zr_shl | exact zr_shr | exact zr_ushr | exact zr_byte) only [i35_0, i35_7, i35_66, i35_70, i35_71, i35_84, i35_88, i35_89, i35_108, i35_114, i35_117, i35_120, i35_130, i35_145, i35_156, i35_171, i35_183, i35_196, i35_205, i35_210, i35_213, i35_227, i35_230, ha, mB1_i, mB0_i, mB1n_i, mB0n_i, mB1_x, mB0_x, if_true, if_false, if_pos, if_neg]
        · intro c hc; simp (disch := first | assumption | omega) only [zU_at, zU_c, zU_s, zU_r]
  obtain ⟨B, g1, g2, g3⟩ := pre
  obtain ⟨B2, f1, f2⟩ := step_loop (d := d) (K := K) (O := O) (t := t) (ar := ar) (A := B) hb hE g3 (w1 := p) (w2 := k) (w3 := m) (w4 := h) (w5 := y) (w6 := zAbs (m - h)) L 0 0 0 0 B (by rw [g2 b (by omega)]; omega) (by omega) (by omega) (by omega) (by omega) rfl L4 (zLwC_of (fun i _ _ => by rw [g2 _ (by omega)]) (fun i _ _ => by rw [g2 _ (by omega)]) (fun i _ _ => by rw [g2 _ (by omega)]) (fun i _ _ => by rw [g2 _ (by omega)]) L 0 0 (by omega) (by omega) (by omega) (by omega) L5) (fun _ _ => rfl)
  rw [Int.zero_add, Int.zero_add] at f1
  refine ⟨B2, ?_, fun c h1 h2 => by rw [f2 c h2, g2 c h1]⟩
  rw [g1, f1]
  unfold zGoes
  have q0 := zLs_le (E := zEnv p k m h y) (w := 0) L4
  have q1 := zLs_le (E := zEnv p k m h y) (w := 1) L4
  have q2 := zLs_le (E := zEnv p k m h y) (w := 2) L4
  generalize zLs (zEnv p k m h y) 0 L = up at *
  generalize zLs (zEnv p k m h y) 1 L = dn at *
  generalize zLs (zEnv p k m h y) 2 L = tw at *
  have hab : 0 ≤ zAbs (m - h) ∧ zAbs (m - h) ≤ 99 := by
    unfold zAbs; split <;> omega
  have m1 := c_min (d := d + 1) (K := K) (O := O) (t := t) (ar := ar) (A := B2) (x := tw) (y := zAbs (m - h)) (by omega) (by omega)
  by_cases hmh : m < h
  · rw [if_pos hmh]
    have m2 := c_min (d := d + 1) (K := K) (O := O) (t := t) (ar := ar) (A := B2) (x := 99) (y := m + min tw (zAbs (m - h)) + (up - dn)) (by omega) (by omega)
    have m3 := c_max (d := d + 1) (K := K) (O := O) (t := t) (ar := ar) (A := B2) (x := 0) (y := min 99 (m + min tw (zAbs (m - h)) + (up - dn))) (by omega) (by omega)
    simp (disch := first | assumption | omega | exact zr_and | exact zr_or | exact zr_xor | exact zr_shl | exact zr_shr | exact zr_ushr | exact zr_byte) only [i35_0, i35_7, i35_66, i35_70, i35_71, i35_84, i35_88, i35_89, i35_108, i35_114, i35_117, i35_120, i35_130, i35_145, i35_156, i35_171, i35_183, i35_189, i35_196, i35_205, i35_210, i35_213, i35_227, i35_230, m1, m2, m3, mB1_i, mB0_i, mB1n_i, mB0n_i, mB1_x, mB0_x, if_true, if_false, if_pos, if_neg]
  · rw [if_neg hmh]
    have m2 := c_min (d := d + 1) (K := K) (O := O) (t := t) (ar := ar) (A := B2) (x := 99) (y := m + -min tw (zAbs (m - h)) + (up - dn)) (by omega) (by omega)
    have m3 := c_max (d := d + 1) (K := K) (O := O) (t := t) (ar := ar) (A := B2) (x := 0) (y := min 99 (m + -min tw (zAbs (m - h)) + (up - dn))) (by omega) (by omega)
    simp (disch := first | assumption | omega | exact zr_and | exact zr_or | exact zr_xor | exact zr_shl | exact zr_shr | exact zr_ushr | exact zr_byte) only [i35_0, i35_7, i35_66, i35_70, i35_71, i35_84, i35_88, i35_89, i35_108, i35_114, i35_117, i35_120, i35_130, i35_145, i35_156, i35_171, i35_183, i35_189, i35_196, i35_205, i35_210, i35_213, i35_227, i35_230, m1, m2, m3, mB1_i, mB0_i, mB1n_i, mB0n_i, mB1_x, mB0_x, if_true, if_false, if_pos, if_neg]
theorem c_stub {a : Nat} (ha : isHall a) {p : Int} (hb : 0 ≤ A a 3 ∧ A a 3 < 256) (hp : 0 ≤ p ∧ p < 8) : mGd ar (d) 34 0 [.ref a, .int (zI p)] [] (zW K A O t) = some (.inl (some (.int (zI (if zB (A a 3) p = true then 1 else 0)))), zW K A O t) := by
  have h := zf_ushr hb hp
  by_cases hz : zB (A a 3) p = true
  · rw [if_pos hz] at h ⊢
    simp (disch := first | assumption | omega | exact zr_and | exact zr_or | exact zr_xor | exact zr_shl | exact zr_shr | exact zr_ushr | exact zr_byte) only [i34_0, i34_12, i34_16, i34_17, h, mB1_i, mB0_i, mB1n_i, mB0n_i, mB1_x, mB0_x, if_true, if_false, if_pos, if_neg]
  · rw [if_neg hz] at h ⊢
    simp (disch := first | assumption | omega | exact zr_and | exact zr_or | exact zr_xor | exact zr_shl | exact zr_shr | exact zr_ushr | exact zr_byte) only [i34_0, i34_12, i34_16, i34_17, h, mB1_i, mB0_i, mB1n_i, mB0n_i, mB1_x, mB0_x, if_true, if_false, if_pos, if_neg]
theorem c_goesTo {a b : Nat} (ha : isHall a) (hb : isLaw b) {p k : Int} (hs : 0 ≤ A a 3 ∧ A a 3 < 256) (hp : 0 ≤ p ∧ p < 8) (hk : 0 ≤ k ∧ k < 4) (hm : 0 ≤ A (a + 1) (p * 4 + k) ∧ A (a + 1) (p * 4 + k) ≤ 99) (hh : 0 ≤ A (a + 4) k ∧ A (a + 4) k ≤ 99) (hy : 0 ≤ A a 7 ∧ A a 7 ≤ 9999) {L : zLines} (hL : zLawC A b L) :
    ∃ A', mGd ar (d + 3) 33 0 [.ref a, .ref b, .int (zI p), .int (zI k), .double 0] [] (zW K A O t) = some (.inl (some (.int (zI (if zB (A a 3) p = true then A (a + 1) (p * 4 + k) else zGoes p k (A (a + 1) (p * 4 + k)) (A (a + 4) k) (A a 7) L)))), zW K A' O t) ∧ ∀ c, c ≠ b + 5 → c ≠ b + 6 → A' c = A c := by
  have h1 := c_stub (d := d + 2) (K := K) (O := O) (t := t) (ar := ar) ha hs hp
  by_cases hz : zB (A a 3) p = true
  · rw [if_pos hz] at h1 ⊢
    refine ⟨A, ?_, fun _ _ _ => rfl⟩
    simp (disch := first | assumption | omega | exact zr_and | exact zr_or | exact zr_xor | exact zr_shl | exact zr_shr | exact zr_ushr | exact zr_byte) only [i33_0, i33_6, i33_13, i33_16, i33_21, i33_39, i27_0, h1, mB1_i, mB0_i, mB1n_i, mB0n_i, mB1_x, mB0_x, if_true, if_false, if_pos, if_neg]
  · rw [if_neg hz] at h1 ⊢
    obtain ⟨A', g1, g2⟩ := c_step (d := d) (K := K) (O := O) (t := t) (ar := ar) hb hp hk hm hh hy hL
    refine ⟨A', ?_, g2⟩
    simp (disch := first | assumption | omega | exact zr_and | exact zr_or | exact zr_xor | exact zr_shl | exact zr_shr | exact zr_ushr | exact zr_byte) only [i33_0, i33_6, i33_13, i33_16, i33_21, i33_39, i27_0, h1, g1, mB1_i, mB0_i, mB1n_i, mB0n_i, mB1_x, mB0_x, if_true, if_false, if_pos, if_neg]
end GOES
