/-! CONTRACTS, 7: the law in the reference; what a number goes to -/
/-- a sign of the class and a step of the reference -/
def zCd (s n c : Int) : Prop := (s = 8 ∧ c = n ∧ 0 ≤ n ∧ n ≤ 999) ∨ (0 ≤ s ∧ s ≤ 7 ∧ c = 1000 + s) ∨ (s = 12 ∧ c = 1008) ∨ (9 ≤ s ∧ s ≤ 11 ∧ c = 1000 + s) ∨ (13 ≤ s ∧ s ≤ 14 ∧ c = 999 + s)
def zCds (w : Int → Int) : Int → List Int → Prop
  | _, [] => True
  | e, c :: cs => zCd (w (472 + 2 * e)) (w (472 + 2 * e + 1)) c ∧ zCds w (e + 1) cs
section RLAW
variable {ar : Nat → Nat × (Nat → Int32)} {d t : Nat} {K : Nat → Nat → Option Nat} {A A' : Nat → Int → Int} {O : Nat → Int64}
theorem c_fact {s n p k : Int} (hs : 0 ≤ s ∧ s ≤ 8) (hp : 0 ≤ p ∧ p < 8) (hk : 0 ≤ k ∧ k < 4) (hm : 0 ≤ A 186 (15 + 6 * p + k) ∧ A 186 (15 + 6 * p + k) ≤ 99) (hh : 0 ≤ A 186 (11 + k) ∧ A 186 (11 + k) ≤ 99) : mGd ar (d + 2) 275 0 [.ref 185, .int (zI s), .int (zI n), .int (zI p), .int (zI k), .double 0, .double 0] [] (zW K A O t) = some (.inl (some (.int (zI (if s = 8 then n else zEnv p k (A 186 (15 + 6 * p + k)) (A 186 (11 + k)) (A 186 3) s)))), zW K A O t) := by
  have ho := c_of (d := d) (K := K) (O := O) (t := t) (ar := ar) (A := A) (p := p) (k := k) (by omega) (by omega)
  have ha := c_abs (d := d + 1) (K := K) (O := O) (t := t) (ar := ar) (A := A) (x := A 186 (15 + 6 * p + k) - A 186 (11 + k)) (by omega)
  unfold zEnv
  by_cases s0 : s = 0
  · simp (disch := first | assumption | omega | exact zr_and | exact zr_or | exact zr_xor | exact zr_shl | exact zr_shr | exact zr_ushr | exact zr_byte) only [i275_0, i275_7, i275_68, i275_70, i275_73, i275_76, i275_79, i275_87, i275_88, i275_95, i275_102, i275_106, i275_107, i275_108, i275_115, i275_119, i275_120, i275_121, ho, mB1_i, mB0_i, mB1n_i, mB0n_i, mB1_x, mB0_x, if_true, if_false, if_pos, if_neg]
  by_cases s1 : s = 1
  · simp (disch := first | assumption | omega | exact zr_and | exact zr_or | exact zr_xor | exact zr_shl | exact zr_shr | exact zr_ushr | exact zr_byte) only [i275_0, i275_7, i275_68, i275_70, i275_73, i275_76, i275_79, i275_87, i275_88, i275_95, i275_102, i275_106, i275_107, i275_108, i275_115, i275_119, i275_120, i275_121, ho, mB1_i, mB0_i, mB1n_i, mB0n_i, mB1_x, mB0_x, if_true, if_false, if_pos, if_neg]
  by_cases s2 : s = 2
  · simp (disch := first | assumption | omega | exact zr_and | exact zr_or | exact zr_xor | exact zr_shl | exact zr_shr | exact zr_ushr | exact zr_byte) only [i275_0, i275_7, i275_68, i275_70, i275_73, i275_76, i275_79, i275_87, i275_88, i275_95, i275_102, i275_106, i275_107, i275_108, i275_115, i275_119, i275_120, i275_121, ho, mB1_i, mB0_i, mB1n_i, mB0n_i, mB1_x, mB0_x, if_true, if_false, if_pos, if_neg]
  by_cases s3 : s = 3
  · simp (disch := first | assumption | omega | exact zr_and | exact zr_or | exact zr_xor | exact zr_shl | exact zr_shr | exact zr_ushr | exact zr_byte) only [i275_0, i275_7, i275_68, i275_70, i275_73, i275_76, i275_79, i275_87, i275_88, i275_95, i275_102, i275_106, i275_107, i275_108, i275_115, i275_119, i275_120, i275_121, ho, mB1_i, mB0_i, mB1n_i, mB0n_i, mB1_x, mB0_x, if_true, if_false, if_pos, if_neg]
  by_cases s4 : s = 4
  · simp (disch := first | assumption | omega | exact zr_and | exact zr_or | exact zr_xor | exact zr_shl | exact zr_shr | exact zr_ushr | exact zr_byte) only [i275_0, i275_7, i275_68, i275_70, i275_73, i275_76, i275_79, i275_87, i275_88, i275_95, i275_102, i275_106, i275_107, i275_108, i275_115, i275_119, i275_120, i275_121, ho, ha, mB1_i, mB0_i, mB1n_i, mB0n_i, mB1_x, mB0_x, if_true, if_false, if_pos, if_neg]
  by_cases s5 : s = 5
  · simp (disch := first | assumption | omega | exact zr_and | exact zr_or | exact zr_xor | exact zr_shl | exact zr_shr | exact zr_ushr | exact zr_byte) only [i275_0, i275_7, i275_68, i275_70, i275_73, i275_76, i275_79, i275_87, i275_88, i275_95, i275_102, i275_106, i275_107, i275_108, i275_115, i275_119, i275_120, i275_121, ho, mB1_i, mB0_i, mB1n_i, mB0n_i, mB1_x, mB0_x, if_true, if_false, if_pos, if_neg]
  by_cases s6 : s = 6
  · by_cases h : A 186 (11 + k) < A 186 (15 + 6 * p + k) <;> simp (disch := first | assumption | omega | exact zr_and | exact zr_or | exact zr_xor | exact zr_shl | exact zr_shr | exact zr_ushr | exact zr_byte) only [i275_0, i275_7, i275_68, i275_70, i275_73, i275_76, i275_79, i275_87, i275_88, i275_95, i275_102, i275_106, i275_107, i275_108, i275_115, i275_119, i275_120, i275_121, ho, mB1_i, mB0_i, mB1n_i, mB0n_i, mB1_x, mB0_x, if_true, if_false, if_pos, if_neg]
  by_cases s7 : s = 7
  · by_cases h : A 186 (15 + 6 * p + k) < A 186 (11 + k) <;> simp (disch := first | assumption | omega | exact zr_and | exact zr_or | exact zr_xor | exact zr_shl | exact zr_shr | exact zr_ushr | exact zr_byte) only [i275_0, i275_7, i275_68, i275_70, i275_73, i275_76, i275_79, i275_87, i275_88, i275_95, i275_102, i275_106, i275_107, i275_108, i275_115, i275_119, i275_120, i275_121, ho, mB1_i, mB0_i, mB1n_i, mB0n_i, mB1_x, mB0_x, if_true, if_false, if_pos, if_neg]
  · simp (disch := first | assumption | omega | exact zr_and | exact zr_or | exact zr_xor | exact zr_shl | exact zr_shr | exact zr_ushr | exact zr_byte) only [i275_0, i275_7, i275_68, i275_70, i275_73, i275_76, i275_79, i275_87, i275_88, i275_95, i275_102, i275_106, i275_107, i275_108, i275_115, i275_119, i275_120, i275_121, ho, mB1_i, mB0_i, mB1n_i, mB0n_i, mB1_x, mB0_x, if_true, if_false, if_pos, if_neg]
theorem zEnv_ok {p k m h y : Int} (hp : 0 ≤ p ∧ p < 8) (hk : 0 ≤ k ∧ k < 4) (hm : 0 ≤ m ∧ m ≤ 99) (hh : 0 ≤ h ∧ h ≤ 99) (hy : 0 ≤ y ∧ y ≤ 9999) : zEok (zEnv p k m h y) := by
  constructor
  · intro j h1 h2
    unfold zEnv zAbs
    repeat' split
    all_goals omega
  · intro j h1 h2
    unfold zEnv
    rw [if_neg (by omega), if_neg (by omega), if_neg (by omega), if_neg (by omega), if_neg (by omega), if_neg (by omega)]
    repeat' split
    all_goals omega
theorem rholds_loop {p k : Int} (hp : 0 ≤ p ∧ p < 8) (hk : 0 ≤ k ∧ k < 4) (hm : 0 ≤ A 186 (15 + 6 * p + k) ∧ A 186 (15 + 6 * p + k) ≤ 99) (hh : 0 ≤ A 186 (11 + k) ∧ A 186 (11 + k) ≤ 99) (hy : 0 ≤ A 186 3 ∧ A 186 3 ≤ 9999) {n f : Int} (hf : 0 ≤ f ∧ f < 1272) :
    ∀ (cs : List Int) (i : Int) (st : List Int) (ts us : List Bool) (B : Nat → Int → Int) (u7 u8 u9 u10 : Value), zCds (A 186) i cs → A 186 (f + 3) = i + cs.length → 0 ≤ i → i + cs.length ≤ 400 → zTc cs ts = some us → zTv ts st → st.length ≤ 20 → zStk (B 195) st → st.sum ≤ 10000 * i → (∀ c, c ≠ 195 → B c = A c) →
    ∃ (B' : Nat → Int → Int) (v7 v8 v9 v10 : Value), mGd ar (d + 3) 274 23 [.ref 185, .int (zI n), .int (zI p), .int (zI k), .int (zI ((st.length : Int))), .int (zI f), .int (zI i), u7, u8, u9, u10] [] (zW K B O t) = mGd ar (d + 3) 274 271 [.ref 185, .int (zI n), .int (zI p), .int (zI k), .int (zI (((zRun (zEnv p k (A 186 (15 + 6 * p + k)) (A 186 (11 + k)) (A 186 3)) cs st).length : Int))), .int (zI f), .int (zI ((A 186 (f + 3)))), v7, v8, v9, v10] [] (zW K B' O t) ∧ zStk (B' 195) (zRun (zEnv p k (A 186 (15 + 6 * p + k)) (A 186 (11 + k)) (A 186 3)) cs st) ∧ zTv us (zRun (zEnv p k (A 186 (15 + 6 * p + k)) (A 186 (11 + k)) (A 186 3)) cs st) ∧ (zRun (zEnv p k (A 186 (15 + 6 * p + k)) (A 186 (11 + k)) (A 186 3)) cs st).sum ≤ 4000000 ∧ ∀ c, c ≠ 195 → B' c = A c := by
  have hE := zEnv_ok hp hk hm hh hy
  intro cs
  induction cs with
  | nil =>
    intro i st ts us B u7 u8 u9 u10 hL hend h0 h4 hT hV h20 hS hsum hB
    have e3 : B 186 = A 186 := hB _ (by decide)
    simp only [List.length_nil, Int.natCast_zero, Int.add_zero] at hend h4
    cases hT
    refine ⟨B, u7, u8, u9, u10, ?_, hS, hV, by show st.sum ≤ _; omega, hB⟩
    show _ = mGd ar (d + 3) 274 271 [.ref 185, .int (zI n), .int (zI p), .int (zI k), .int (zI ((st.length : Int))), .int (zI f), .int (zI ((A 186 (f + 3)))), u7, u8, u9, u10] [] (zW K B O t)
    rw [i274_23 (by omega) (by omega) (by rw [e3]; omega), e3, if_pos (by omega), hend]
  | cons c cs ih =>
    intro i st ts us B u7 u8 u9 u10 hL hend h0 h4 hT hV h20 hS hsum hB
    have e3 : B 186 = A 186 := hB _ (by decide)
    obtain ⟨hcd, hL2⟩ := hL
    rw [List.length_cons] at hend h4
    have hnn := zTv_nn hV
    rw [i274_23 (by omega) (by omega) (by rw [e3]; omega), e3, if_neg (by omega)]
    have hs15 : 0 ≤ A 186 (472 + 2 * i) ∧ A 186 (472 + 2 * i) ≤ 14 := by unfold zCd at hcd; omega
    have es : B 186 (472 + 2 * i) = A 186 (472 + 2 * i) := by rw [e3]
    have es2 : B 186 (472 + 2 * i + 1) = A 186 (472 + 2 * i + 1) := by rw [e3]
    show ∃ B' v7 v8 v9 v10, _ = mGd ar (d + 3) 274 271 [.ref 185, .int (zI n), .int (zI p), .int (zI k), .int (zI (((zRun (zEnv p k (A 186 (15 + 6 * p + k)) (A 186 (11 + k)) (A 186 3)) cs (zEv (zEnv p k (A 186 (15 + 6 * p + k)) (A 186 (11 + k)) (A 186 3)) c st)).length : Int))), .int (zI f), .int (zI ((A 186 (f + 3)))), v7, v8, v9, v10] [] (zW K B' O t) ∧ zStk (B' 195) (zRun (zEnv p k (A 186 (15 + 6 * p + k)) (A 186 (11 + k)) (A 186 3)) cs (zEv (zEnv p k (A 186 (15 + 6 * p + k)) (A 186 (11 + k)) (A 186 3)) c st)) ∧ zTv us (zRun (zEnv p k (A 186 (15 + 6 * p + k)) (A 186 (11 + k)) (A 186 3)) cs (zEv (zEnv p k (A 186 (15 + 6 * p + k)) (A 186 (11 + k)) (A 186 3)) c st)) ∧ (zRun (zEnv p k (A 186 (15 + 6 * p + k)) (A 186 (11 + k)) (A 186 3)) cs (zEv (zEnv p k (A 186 (15 + 6 * p + k)) (A 186 (11 + k)) (A 186 3)) c st)).sum ≤ 4000000 ∧ _
    rcases zTc_cases hE hT hV with ⟨c1, c2, c3, x, hx, hx2, hev, hT2, hV2⟩ | ⟨c1, x, r, us', rfl, hx, hev, hT2, hV2⟩ | ⟨c1, c2, x, y, r, us', rfl, hxy, hr0, hbb, hev, hj, hT2, hV2⟩
    · rw [hev]
      have hs8 : A 186 (472 + 2 * i) ≤ 8 := by unfold zCd at hcd; omega
      have hxe : x = if A 186 (472 + 2 * i) = 8 then A 186 (472 + 2 * i + 1) else zEnv p k (A 186 (15 + 6 * p + k)) (A 186 (11 + k)) (A 186 3) (A 186 (472 + 2 * i)) := by
        rw [hx]
        unfold zCd at hcd
        by_cases hc : c < 1000
        · rw [if_pos hc, if_pos (by omega)]; omega
        · rw [if_neg hc, if_neg (by omega), show c - 1000 = A 186 (472 + 2 * i) by omega]
      have cf := c_fact (d := d) (K := K) (O := O) (t := t) (ar := ar) (A := B) (s := A 186 (472 + 2 * i)) (n := A 186 (472 + 2 * i + 1)) (by omega) hp hk (by rw [e3]; exact hm) (by rw [e3]; exact hh)
      rw [e3, ← hxe] at cf
      obtain ⟨B', v7, v8, v9, v10, g1, g2⟩ := ih (i + 1) (x :: st) _ us (zU B 195 st.length x) (.int (zI (A 186 (472 + 2 * i)))) u8 u9 u10 hL2 (by omega) (by omega) (by omega) hT2 hV2 (by simp only [List.length_cons] at h20 ⊢; omega) ⟨by simp (disch := first | assumption | omega) only [zU_at, zU_c, zU_s, zU_r], zStk_congr (fun j h1 h2 => by simp (disch := first | assumption | omega) only [zU_at, zU_c, zU_s, zU_r]) hS⟩ (by rw [List.sum_cons]; omega) (fun c hc => by rw [zU_r hc, hB c hc])
      refine ⟨B', v7, v8, v9, v10, ?_, g2⟩
      rw [← g1, show (((x :: st).length : Nat) : Int) = (st.length : Int) + 1 by simp]
      simp (disch := first | assumption | omega | exact zr_and | exact zr_or | exact zr_xor | exact zr_shl | exact zr_shr | exact zr_ushr | exact zr_byte) only [i274_37, i274_59, i274_88, i274_265, es, es2, cf, mB1_i, mB0_i, mB1n_i, mB0n_i, mB1_x, mB0_x, if_true, if_false, if_pos, if_neg]
    · rw [hev]
      rw [List.sum_cons] at hsum
      have el : (((x :: r).length : Nat) : Int) = (r.length : Int) + 1 := by simp
      obtain ⟨s1, s2⟩ := hS
      have hlen : r.length < 20 := by simp only [List.length_cons] at h20; omega
      have hs12 : A 186 (472 + 2 * i) = 12 := by unfold zCd at hcd; omega
      rw [hs12] at es
      obtain ⟨B', v7, v8, v9, v10, g1, g2⟩ := ih (i + 1) ((1 - x) :: r) _ us (zU B 195 r.length (1 - x)) (.int (zI 12)) u8 u9 u10 hL2 (by omega) (by omega) (by omega) hT2 hV2 (by simp only [List.length_cons] at h20 ⊢; omega) ⟨by simp (disch := first | assumption | omega) only [zU_at, zU_c, zU_s, zU_r], zStk_congr (fun j h1 h2 => by simp (disch := first | assumption | omega) only [zU_at, zU_c, zU_s, zU_r]) s2⟩ (by rw [List.sum_cons]; omega) (fun c hc => by rw [zU_r hc, hB c hc])
      refine ⟨B', v7, v8, v9, v10, ?_, g2⟩
      rw [← g1, show ((((1 - x) :: r).length : Nat) : Int) = (r.length : Int) + 1 by simp, el]
      have er : (r.length : Int) + 1 - 1 = r.length := by omega
      simp (disch := first | assumption | omega | exact zr_and | exact zr_or | exact zr_xor | exact zr_shl | exact zr_shr | exact zr_ushr | exact zr_byte) only [i274_37, i274_95, i274_102, i274_265, es, er, s1, mB1_i, mB0_i, mB1n_i, mB0n_i, mB1_x, mB0_x, if_true, if_false, if_pos, if_neg]
    · rw [hev]
      rw [List.sum_cons, List.sum_cons] at hsum
      have el : (((y :: x :: r).length : Nat) : Int) = (r.length : Int) + 2 := by simp; omega
      obtain ⟨s1, s2, s3⟩ := hS
      have s1' : B 195 ((r.length : Int) + 1) = y := by rw [← s1]; simp
      have hlen : r.length < 20 := by simp only [List.length_cons] at h20; omega
      have er : (r.length : Int) + 1 - 1 = r.length := by omega
      have er2 : (r.length : Int) + 2 + -1 = r.length + 1 := by omega
      have hsc : (A 186 (472 + 2 * i) = 9 ∧ c = 1009) ∨ (A 186 (472 + 2 * i) = 10 ∧ c = 1010) ∨ (A 186 (472 + 2 * i) = 11 ∧ c = 1011) ∨ (A 186 (472 + 2 * i) = 13 ∧ c = 1012) ∨ (A 186 (472 + 2 * i) = 14 ∧ c = 1013) := by unfold zCd at hcd; omega
      have fin : ∃ w8 w9 w10, mGd ar (d + 3) 274 37 [.ref 185, .int (zI n), .int (zI p), .int (zI k), .int (zI (((y :: x :: r).length : Int))), .int (zI f), .int (zI i), u7, u8, u9, u10] [] (zW K B O t) = mGd ar (d + 3) 274 23 [.ref 185, .int (zI n), .int (zI p), .int (zI k), .int (zI ((r.length + 1 : Int))), .int (zI f), .int (zI ((i + 1))), .int (zI ((A 186 (472 + 2 * i)))), w8, w9, w10] [] (zW K (zU B 195 r.length (zJn c x y)) O t) := by
        rw [el]
        unfold zJn
        rcases hsc with ⟨q1, q2⟩ | ⟨q1, q2⟩ | ⟨q1, q2⟩ | ⟨q1, q2⟩ | ⟨q1, q2⟩
        all_goals rw [q1] at es ⊢
        · by_cases h : 0 < x + y
          · refine ⟨.int (zI x), .int (zI y), .int (zI 1), ?_⟩
            simp (disch := first | assumption | omega | exact zr_and | exact zr_or | exact zr_xor | exact zr_shl | exact zr_shr | exact zr_ushr | exact zr_byte) only [i274_0, i274_37, i274_59, i274_88, i274_95, i274_102, i274_125, i274_155, i274_162, i274_166, i274_170, i274_177, i274_184, i274_188, i274_192, i274_199, i274_208, i274_212, i274_216, i274_224, i274_228, i274_229, i274_246, i274_254, i274_259, i274_263, i274_264, i274_265, i274_276, i274_286, i274_290, i274_291, es, er, er2, s1', s2, mB1_i, mB0_i, mB1n_i, mB0n_i, mB1_x, mB0_x, if_true, if_false, if_pos, if_neg]
          · refine ⟨.int (zI x), .int (zI y), .int (zI 0), ?_⟩
            simp (disch := first | assumption | omega | exact zr_and | exact zr_or | exact zr_xor | exact zr_shl | exact zr_shr | exact zr_ushr | exact zr_byte) only [i274_0, i274_37, i274_59, i274_88, i274_95, i274_102, i274_125, i274_155, i274_162, i274_166, i274_170, i274_177, i274_184, i274_188, i274_192, i274_199, i274_208, i274_212, i274_216, i274_224, i274_228, i274_229, i274_246, i274_254, i274_259, i274_263, i274_264, i274_265, i274_276, i274_286, i274_290, i274_291, es, er, er2, s1', s2, mB1_i, mB0_i, mB1n_i, mB0n_i, mB1_x, mB0_x, if_true, if_false, if_pos, if_neg]
        · by_cases h : x < y
          · refine ⟨.int (zI x), .int (zI y), .int (zI 1), ?_⟩
            simp (disch := first | assumption | omega | exact zr_and | exact zr_or | exact zr_xor | exact zr_shl | exact zr_shr | exact zr_ushr | exact zr_byte) only [i274_0, i274_37, i274_59, i274_88, i274_95, i274_102, i274_125, i274_155, i274_162, i274_166, i274_170, i274_177, i274_184, i274_188, i274_192, i274_199, i274_208, i274_212, i274_216, i274_224, i274_228, i274_229, i274_246, i274_254, i274_259, i274_263, i274_264, i274_265, i274_276, i274_286, i274_290, i274_291, es, er, er2, s1', s2, mB1_i, mB0_i, mB1n_i, mB0n_i, mB1_x, mB0_x, if_true, if_false, if_pos, if_neg]
          · refine ⟨.int (zI x), .int (zI y), .int (zI 0), ?_⟩
            simp (disch := first | assumption | omega | exact zr_and | exact zr_or | exact zr_xor | exact zr_shl | exact zr_shr | exact zr_ushr | exact zr_byte) only [i274_0, i274_37, i274_59, i274_88, i274_95, i274_102, i274_125, i274_155, i274_162, i274_166, i274_170, i274_177, i274_184, i274_188, i274_192, i274_199, i274_208, i274_212, i274_216, i274_224, i274_228, i274_229, i274_246, i274_254, i274_259, i274_263, i274_264, i274_265, i274_276, i274_286, i274_290, i274_291, es, er, er2, s1', s2, mB1_i, mB0_i, mB1n_i, mB0n_i, mB1_x, mB0_x, if_true, if_false, if_pos, if_neg]
        · by_cases h : y < x
          · refine ⟨.int (zI x), .int (zI y), .int (zI 1), ?_⟩
            simp (disch := first | assumption | omega | exact zr_and | exact zr_or | exact zr_xor | exact zr_shl | exact zr_shr | exact zr_ushr | exact zr_byte) only [i274_0, i274_37, i274_59, i274_88, i274_95, i274_102, i274_125, i274_155, i274_162, i274_166, i274_170, i274_177, i274_184, i274_188, i274_192, i274_199, i274_208, i274_212, i274_216, i274_224, i274_228, i274_229, i274_246, i274_254, i274_259, i274_263, i274_264, i274_265, i274_276, i274_286, i274_290, i274_291, es, er, er2, s1', s2, mB1_i, mB0_i, mB1n_i, mB0n_i, mB1_x, mB0_x, if_true, if_false, if_pos, if_neg]
          · refine ⟨.int (zI x), .int (zI y), .int (zI 0), ?_⟩
            simp (disch := first | assumption | omega | exact zr_and | exact zr_or | exact zr_xor | exact zr_shl | exact zr_shr | exact zr_ushr | exact zr_byte) only [i274_0, i274_37, i274_59, i274_88, i274_95, i274_102, i274_125, i274_155, i274_162, i274_166, i274_170, i274_177, i274_184, i274_188, i274_192, i274_199, i274_208, i274_212, i274_216, i274_224, i274_228, i274_229, i274_246, i274_254, i274_259, i274_263, i274_264, i274_265, i274_276, i274_286, i274_290, i274_291, es, er, er2, s1', s2, mB1_i, mB0_i, mB1n_i, mB0n_i, mB1_x, mB0_x, if_true, if_false, if_pos, if_neg]
        · by_cases h : x + y = 2
          · refine ⟨.int (zI x), .int (zI y), .int (zI 1), ?_⟩
            simp (disch := first | assumption | omega | exact zr_and | exact zr_or | exact zr_xor | exact zr_shl | exact zr_shr | exact zr_ushr | exact zr_byte) only [i274_0, i274_37, i274_59, i274_88, i274_95, i274_102, i274_125, i274_155, i274_162, i274_166, i274_170, i274_177, i274_184, i274_188, i274_192, i274_199, i274_208, i274_212, i274_216, i274_224, i274_228, i274_229, i274_246, i274_254, i274_259, i274_263, i274_264, i274_265, i274_276, i274_286, i274_290, i274_291, es, er, er2, s1', s2, mB1_i, mB0_i, mB1n_i, mB0n_i, mB1_x, mB0_x, if_true, if_false, if_pos, if_neg]
          · refine ⟨.int (zI x), .int (zI y), .int (zI 0), ?_⟩
            simp (disch := first | assumption | omega | exact zr_and | exact zr_or | exact zr_xor | exact zr_shl | exact zr_shr | exact zr_ushr | exact zr_byte) only [i274_0, i274_37, i274_59, i274_88, i274_95, i274_102, i274_125, i274_155, i274_162, i274_166, i274_170, i274_177, i274_184, i274_188, i274_192, i274_199, i274_208, i274_212, i274_216, i274_224, i274_228, i274_229, i274_246, i274_254, i274_259, i274_263, i274_264, i274_265, i274_276, i274_286, i274_290, i274_291, es, er, er2, s1', s2, mB1_i, mB0_i, mB1n_i, mB0n_i, mB1_x, mB0_x, if_true, if_false, if_pos, if_neg]
        · by_cases h : 0 < x + y
          · refine ⟨.int (zI x), .int (zI y), .int (zI 1), ?_⟩
            simp (disch := first | assumption | omega | exact zr_and | exact zr_or | exact zr_xor | exact zr_shl | exact zr_shr | exact zr_ushr | exact zr_byte) only [i274_0, i274_37, i274_59, i274_88, i274_95, i274_102, i274_125, i274_155, i274_162, i274_166, i274_170, i274_177, i274_184, i274_188, i274_192, i274_199, i274_208, i274_212, i274_216, i274_224, i274_228, i274_229, i274_246, i274_254, i274_259, i274_263, i274_264, i274_265, i274_276, i274_286, i274_290, i274_291, es, er, er2, s1', s2, mB1_i, mB0_i, mB1n_i, mB0n_i, mB1_x, mB0_x, if_true, if_false, if_pos, if_neg]
          · refine ⟨.int (zI x), .int (zI y), .int (zI 0), ?_⟩
            simp (disch := first | assumption | omega | exact zr_and | exact zr_or | exact zr_xor | exact zr_shl | exact zr_shr | exact zr_ushr | exact zr_byte) only [i274_0, i274_37, i274_59, i274_88, i274_95, i274_102, i274_125, i274_155, i274_162, i274_166, i274_170, i274_177, i274_184, i274_188, i274_192, i274_199, i274_208, i274_212, i274_216, i274_224, i274_228, i274_229, i274_246, i274_254, i274_259, i274_263, i274_264, i274_265, i274_276, i274_286, i274_290, i274_291, es, er, er2, s1', s2, mB1_i, mB0_i, mB1n_i, mB0n_i, mB1_x, mB0_x, if_true, if_false, if_pos, if_neg]
      obtain ⟨w8, w9, w10, hfin⟩ := fin
      obtain ⟨B', v7, v8, v9, v10, g1, g2⟩ := ih (i + 1) (zJn c x y :: r) _ us (zU B 195 r.length (zJn c x y)) (.int (zI (A 186 (472 + 2 * i)))) w8 w9 w10 hL2 (by omega) (by omega) (by omega) hT2 hV2 (by simp only [List.length_cons] at h20 ⊢; omega) ⟨by simp (disch := first | assumption | omega) only [zU_at, zU_c, zU_s, zU_r], zStk_congr (fun j h1 h2 => by simp (disch := first | assumption | omega) only [zU_at, zU_c, zU_s, zU_r]) s3⟩ (by rw [List.sum_cons]; omega) (fun c hc => by rw [zU_r hc, hB c hc])
      refine ⟨B', v7, v8, v9, v10, ?_, g2⟩
      rw [← g1, hfin, show (((zJn c x y :: r).length : Nat) : Int) = (r.length : Int) + 1 by simp]
theorem c_rholds {p k n e : Int} (hp : 0 ≤ p ∧ p < 8) (hk : 0 ≤ k ∧ k < 4) (hm : 0 ≤ A 186 (15 + 6 * p + k) ∧ A 186 (15 + 6 * p + k) ≤ 99) (hh : 0 ≤ A 186 (11 + k) ∧ A 186 (11 + k) ≤ 99) (hy : 0 ≤ A 186 3 ∧ A 186 3 ≤ 9999) (hn : 0 ≤ n ∧ n < 12) {cs : List Int} (hL : zCds (A 186) e cs) (hbeg : A 186 (424 + 4 * n + 2) = e) (hend : A 186 (424 + 4 * n + 3) = e + cs.length) (h0 : 0 ≤ e) (h4 : e + cs.length ≤ 400) (hT : cs = [] ∨ zTc cs [] = some [true]) :
    ∃ A', mGd ar (d + 3) 274 0 [.ref 185, .int (zI n), .int (zI p), .int (zI k), .double 0, .double 0, .double 0, .double 0, .double 0, .double 0, .double 0] [] (zW K A O t) = some (.inl (some (.int (zI (if zHolds (zEnv p k (A 186 (15 + 6 * p + k)) (A 186 (11 + k)) (A 186 3)) cs = true then 1 else 0)))), zW K A' O t) ∧ ∀ c, c ≠ 195 → A' c = A c := by
  rw [i274_0 (by omega), hbeg]
  have hT2 : ∃ us, zTc cs [] = some us := by
    rcases hT with rfl | h
    · exact ⟨[], rfl⟩
    · exact ⟨_, h⟩
  obtain ⟨us, hus⟩ := hT2
  obtain ⟨B, v7, v8, v9, v10, g1, g2, g3, g4, g5⟩ := rholds_loop (d := d) (K := K) (O := O) (t := t) (ar := ar) (n := n) hp hk hm hh hy (f := 424 + 4 * n) (by omega) cs e [] [] us A (.double 0) (.double 0) (.double 0) (.double 0) hL hend h0 h4 hus trivial (by decide) trivial (by show (0 : Int) ≤ _; omega) (fun _ _ => rfl)
  refine ⟨B, ?_, g5⟩
  have g1' : mGd ar (d + 3) 274 23 [.ref 185, .int (zI n), .int (zI p), .int (zI k), .int (zI 0), .int (zI ((424 + 4 * n))), .int (zI e), .double 0, .double 0, .double 0, .double 0] [] (zW K A O t) = _ := g1
  rw [g1']
  unfold zHolds
  generalize zEnv p k (A 186 (15 + 6 * p + k)) (A 186 (11 + k)) (A 186 3) = E at *
  cases hr : zRun E cs [] with
  | nil =>
    simp (disch := first | assumption | omega | exact zr_and | exact zr_or | exact zr_xor | exact zr_shl | exact zr_shr | exact zr_ushr | exact zr_byte) only [i274_271, i274_286, i274_291, List.length_nil, Int.natCast_zero, mB1_i, mB0_i, mB1n_i, mB0n_i, mB1_x, mB0_x, if_true, if_false, if_pos, if_neg]
  | cons x r =>
    rw [hr] at g2 g3 g4
    have hr0 : r = [] := by
      rcases hT with rfl | h
      · cases hr
      · rw [hus] at h
        cases h
        have := zTv_len g3
        cases r with
        | nil => rfl
        | cons y r => simp at this
    subst hr0
    have hx : B 195 0 = x := g2.1
    have hx0 : 0 ≤ x ∧ x ≤ 4000000 := by
      have := zTv_nn g3
      simp at this g4
      omega
    by_cases h1 : x = 1
    · simp (disch := first | assumption | omega | exact zr_and | exact zr_or | exact zr_xor | exact zr_shl | exact zr_shr | exact zr_ushr | exact zr_byte) only [i274_271, i274_276, i274_286, i274_291, List.length_cons, List.length_nil, hx, h1, decide_true, mB1_i, mB0_i, mB1n_i, mB0n_i, mB1_x, mB0_x, if_true, if_false, if_pos, if_neg]
    · have h2 : (decide (x = 1) = true) = False := by simp [h1]
      simp (disch := first | assumption | omega | exact zr_and | exact zr_or | exact zr_xor | exact zr_shl | exact zr_shr | exact zr_ushr | exact zr_byte) only [i274_271, i274_276, i274_290, i274_291, List.length_cons, List.length_nil, hx, h2, mB1_i, mB0_i, mB1n_i, mB0n_i, mB1_x, mB0_x, if_true, if_false, if_pos, if_neg]
/-- the lines of a law -/
abbrev zLines : Type := List (Int × Int × List Int)
def zLs (E : Int → Int) (w : Int) : zLines → Int
  | [] => 0
  | q :: r => (if q.1 = w ∧ zHolds E q.2.2 = true then q.2.1 else 0) + zLs E w r
def zLen : zLines → Int
  | [] => 0
  | q :: r => q.2.2.length + zLen r
def zLok : zLines → Prop
  | [] => True
  | q :: r => ((q.1 = 0 ∨ q.1 = 1 ∨ q.1 = 2) ∧ (0 ≤ q.2.1 ∧ q.2.1 ≤ 20) ∧ (q.2.2 = [] ∨ zTc q.2.2 [] = some [true])) ∧ zLok r
theorem zLen_nn : ∀ {L : zLines}, 0 ≤ zLen L
  | [] => by decide
  | q :: r => by have := zLen_nn (L := r); show 0 ≤ (q.2.2.length : Int) + zLen r; omega
theorem zLs_le {E : Int → Int} {w : Int} : ∀ {L : zLines}, zLok L → 0 ≤ zLs E w L ∧ zLs E w L ≤ 20 * L.length
  | [], _ => by show (0 : Int) ≤ 0 ∧ (0 : Int) ≤ 20 * ((0 : Nat) : Int); omega
  | q :: r, h => by
    have ih := zLs_le (E := E) (w := w) h.2
    have := h.1.2.1
    show 0 ≤ (if q.1 = w ∧ zHolds E q.2.2 = true then q.2.1 else 0) + zLs E w r ∧ (if q.1 = w ∧ zHolds E q.2.2 = true then q.2.1 else 0) + zLs E w r ≤ 20 * ((r.length + 1 : Nat) : Int)
    by_cases hc : q.1 = w ∧ zHolds E q.2.2 = true
    · rw [if_pos hc]; omega
    · rw [if_neg hc]; omega
/-- the lines in the class's law at b, from the n-th on, the signs from e on -/
def zLwC (A : Nat → Int → Int) (b : Nat) : Int → Int → zLines → Prop
  | _, _, [] => True
  | n, e, q :: r => A (b + 1) n = q.1 ∧ A (b + 2) n = q.2.1 ∧ A (b + 3) n = e + q.2.2.length ∧ zLst (A (b + 4)) e q.2.2.length = q.2.2 ∧ zLwC A b (n + 1) (e + q.2.2.length) r
/-- the lines in a row of the reference -/
def zLwR (w : Int → Int) : Int → Int → zLines → Prop
  | _, _, [] => True
  | n, e, q :: r => w (424 + 4 * n) = q.1 ∧ w (424 + 4 * n + 1) = q.2.1 ∧ w (424 + 4 * n + 2) = e ∧ w (424 + 4 * n + 3) = e + q.2.2.length ∧ zCds w e q.2.2 ∧ zLwR w (n + 1) (e + q.2.2.length) r
/-- what a number goes to -/
def zGoes (p k m h y : Int) (L : zLines) : Int := max 0 (min 99 (m + (if m < h then min (zLs (zEnv p k m h y) 2 L) (zAbs (m - h)) else -(min (zLs (zEnv p k m h y) 2 L) (zAbs (m - h)))) + (zLs (zEnv p k m h y) 0 L - zLs (zEnv p k m h y) 1 L)))
theorem linesOf_loop {p k v : Int} (hp : 0 ≤ p ∧ p < 8) (hk : 0 ≤ k ∧ k < 4) (hm : 0 ≤ A 186 (15 + 6 * p + k) ∧ A 186 (15 + 6 * p + k) ≤ 99) (hh : 0 ≤ A 186 (11 + k) ∧ A 186 (11 + k) ≤ 99) (hy : 0 ≤ A 186 3 ∧ A 186 3 ≤ 9999) (h2 : A 186 2 = 1) (hv : 0 ≤ v ∧ v ≤ 2) :
    ∀ (L : zLines) (n e acc : Int) (B : Nat → Int → Int), A 186 423 = n + L.length → 0 ≤ n → n + L.length ≤ 12 → 0 ≤ e → e + zLen L ≤ 400 → zLok L → zLwR (A 186) n e L → (∀ c, c ≠ 195 → B c = A c) →
    ∃ B', mGd ar (d + 4) 273 6 [.ref 185, .int (zI v), .int (zI p), .int (zI k), .int (zI acc), .int (zI n)] [] (zW K B O t) = some (.inl (some (.int (zI (acc + zLs (zEnv p k (A 186 (15 + 6 * p + k)) (A 186 (11 + k)) (A 186 3)) v L)))), zW K B' O t) ∧ ∀ c, c ≠ 195 → B' c = A c := by
  intro L
  induction L with
  | nil =>
    intro n e acc B hn n0 n12 e0 e4 hok hL hB
    have e3 : B 186 = A 186 := hB _ (by decide)
    simp only [List.length_nil, Int.natCast_zero, Int.add_zero] at hn
    refine ⟨B, ?_, hB⟩
    rw [show zLs (zEnv p k (A 186 (15 + 6 * p + k)) (A 186 (11 + k)) (A 186 3)) v [] = 0 from rfl, Int.add_zero]
    rw [i273_6 (by rw [e3]; omega), e3, if_pos h2, i273_16 (by omega) (by rw [e3]; omega), e3, if_pos (by omega), i273_83]
  | cons q r ih =>
    intro n e acc B hn n0 n12 e0 e4 hok hL hB
    have e3 : B 186 = A 186 := hB _ (by decide)
    obtain ⟨l1, l2, l3, l4, l5, l6⟩ := hL
    have hlq : zLen (q :: r) = q.2.2.length + zLen r := rfl
    have hz := zLen_nn (L := r)
    rw [List.length_cons] at hn n12
    rw [i273_6 (by rw [e3]; omega), e3, if_pos h2, i273_16 (by omega) (by rw [e3]; omega), e3, if_neg (by omega)]
    have hw := hok.1.1
    have hq1 : B 186 (424 + 4 * n) = q.1 := by rw [e3]; exact l1
    have hq2 : B 186 (424 + 4 * n + 1) = q.2.1 := by rw [e3]; exact l2
    rw [show zLs (zEnv p k (A 186 (15 + 6 * p + k)) (A 186 (11 + k)) (A 186 3)) v (q :: r) = (if q.1 = v ∧ zHolds (zEnv p k (A 186 (15 + 6 * p + k)) (A 186 (11 + k)) (A 186 3)) q.2.2 = true then q.2.1 else 0) + zLs (zEnv p k (A 186 (15 + 6 * p + k)) (A 186 (11 + k)) (A 186 3)) v r from rfl]
    by_cases hqv : q.1 = v
    · obtain ⟨B1, g1, g2⟩ := c_rholds (d := d) (K := K) (O := O) (t := t) (ar := ar) (A := B) (n := n) (e := e) (cs := q.2.2) hp hk (by rw [e3]; exact hm) (by rw [e3]; exact hh) (by rw [e3]; exact hy) (by omega) (by rw [e3]; exact l5) (by rw [e3]; exact l3) (by rw [e3]; exact l4) e0 (by omega) hok.1.2.2
      rw [e3] at g1
      have hB1 : ∀ c, c ≠ 195 → B1 c = A c := fun c hc => by rw [g2 c hc, hB c hc]
      have e31 : B1 186 (424 + 4 * n + 1) = q.2.1 := by rw [hB1 _ (by decide)]; exact l2
      by_cases hz2 : zHolds (zEnv p k (A 186 (15 + 6 * p + k)) (A 186 (11 + k)) (A 186 3)) q.2.2 = true
      · rw [if_pos hz2] at g1
        obtain ⟨B', f1, f2⟩ := ih (n + 1) (e + q.2.2.length) (acc + q.2.1) B1 (by omega) (by omega) (by omega) (by omega) (by omega) hok.2 l6 hB1
        refine ⟨B', ?_, f2⟩
        rw [if_pos ⟨hqv, hz2⟩, ← Int.add_assoc, ← f1]
        simp (disch := first | assumption | omega | exact zr_and | exact zr_or | exact zr_xor | exact zr_shl | exact zr_shr | exact zr_ushr | exact zr_byte) only [i273_29, i273_46, g1, i273_54, i273_57, i273_77, hq1, e31, mB1_i, mB0_i, mB1n_i, mB0n_i, mB1_x, mB0_x, if_true, if_false, if_pos, if_neg]
      · rw [if_neg hz2] at g1
        obtain ⟨B', f1, f2⟩ := ih (n + 1) (e + q.2.2.length) acc B1 (by omega) (by omega) (by omega) (by omega) (by omega) hok.2 l6 hB1
        refine ⟨B', ?_, f2⟩
        rw [if_neg (fun h => hz2 h.2), Int.zero_add, ← f1]
        simp (disch := first | assumption | omega | exact zr_and | exact zr_or | exact zr_xor | exact zr_shl | exact zr_shr | exact zr_ushr | exact zr_byte) only [i273_29, i273_46, g1, i273_54, i273_77, hq1, mB1_i, mB0_i, mB1n_i, mB0n_i, mB1_x, mB0_x, if_true, if_false, if_pos, if_neg]
    · obtain ⟨B', f1, f2⟩ := ih (n + 1) (e + q.2.2.length) acc B (by omega) (by omega) (by omega) (by omega) (by omega) hok.2 l6 hB
      refine ⟨B', ?_, f2⟩
      rw [if_neg (fun h => hqv h.1), Int.zero_add, ← f1]
      simp (disch := first | assumption | omega | exact zr_and | exact zr_or | exact zr_xor | exact zr_shl | exact zr_shr | exact zr_ushr | exact zr_byte) only [i273_29, i273_77, hq1, mB1_i, mB0_i, mB1n_i, mB0n_i, mB1_x, mB0_x, if_true, if_false, if_pos, if_neg]
/-- the reference's law: its lines, none without a text -/
def zLawR (w : Int → Int) (L : zLines) : Prop := (w 2 = 0 ∧ L = []) ∨ (w 2 = 1 ∧ w 423 = L.length ∧ (L.length : Int) ≤ 12 ∧ zLen L ≤ 400 ∧ zLok L ∧ zLwR w 0 0 L)
theorem zLawR_ok {w : Int → Int} {L : zLines} (h : zLawR w L) : zLok L ∧ (L.length : Int) ≤ 12 := by
  rcases h with ⟨-, rfl⟩ | ⟨-, -, h1, -, h2, -⟩
  · exact ⟨trivial, by decide⟩
  · exact ⟨h2, h1⟩
theorem c_linesOf {p k v : Int} (hp : 0 ≤ p ∧ p < 8) (hk : 0 ≤ k ∧ k < 4) (hm : 0 ≤ A 186 (15 + 6 * p + k) ∧ A 186 (15 + 6 * p + k) ≤ 99) (hh : 0 ≤ A 186 (11 + k) ∧ A 186 (11 + k) ≤ 99) (hy : 0 ≤ A 186 3 ∧ A 186 3 ≤ 9999) (hv : 0 ≤ v ∧ v ≤ 2) {L : zLines} (hL : zLawR (A 186) L) :
    ∃ B', mGd ar (d + 4) 273 0 [.ref 185, .int (zI v), .int (zI p), .int (zI k), .double 0, .double 0] [] (zW K A O t) = some (.inl (some (.int (zI (zLs (zEnv p k (A 186 (15 + 6 * p + k)) (A 186 (11 + k)) (A 186 3)) v L)))), zW K B' O t) ∧ ∀ c, c ≠ 195 → B' c = A c := by
  rw [i273_0]
  rcases hL with ⟨h1, rfl⟩ | ⟨h1, h2, h3, h4, h5, h6⟩
  · refine ⟨A, ?_, fun _ _ => rfl⟩
    simp (disch := first | assumption | omega | exact zr_and | exact zr_or | exact zr_xor | exact zr_shl | exact zr_shr | exact zr_ushr | exact zr_byte) only [i273_6, i273_83, mB1_i, mB0_i, mB1n_i, mB0n_i, mB1_x, mB0_x, if_true, if_false, if_pos, if_neg]
    rfl
  · obtain ⟨B', g1, g2⟩ := linesOf_loop (d := d) (K := K) (O := O) (t := t) (ar := ar) hp hk hm hh hy h1 hv L 0 0 0 A (by omega) (by omega) (by omega) (by omega) (by omega) h5 h6 (fun _ _ => rfl)
    rw [Int.zero_add] at g1
    exact ⟨B', g1, g2⟩
theorem c_rgoesTo {p k : Int} (hp : 0 ≤ p ∧ p < 8) (hk : 0 ≤ k ∧ k < 4) (hm : 0 ≤ A 186 (15 + 6 * p + k) ∧ A 186 (15 + 6 * p + k) ≤ 99) (hh : 0 ≤ A 186 (11 + k) ∧ A 186 (11 + k) ≤ 99) (hy : 0 ≤ A 186 3 ∧ A 186 3 ≤ 9999) {L : zLines} (hL : zLawR (A 186) L) :
    ∃ B', mGd ar (d + 5) 272 0 [.ref 185, .int (zI p), .int (zI k), .double 0, .double 0, .double 0, .double 0] [] (zW K A O t) = some (.inl (some (.int (zI (zGoes p k (A 186 (15 + 6 * p + k)) (A 186 (11 + k)) (A 186 3) L)))), zW K B' O t) ∧ ∀ c, c ≠ 195 → B' c = A c := by
  obtain ⟨hok, h12⟩ := zLawR_ok hL
  have ho := c_of (d := d + 3) (K := K) (O := O) (t := t) (ar := ar) (A := A) (p := p) (k := k) (by omega) (by omega)
  have ha := c_abs (d := d + 4) (K := K) (O := O) (t := t) (ar := ar) (A := A) (x := A 186 (11 + k) - A 186 (15 + 6 * p + k)) (by omega)
  obtain ⟨B1, a1, a2⟩ := c_linesOf (d := d) (K := K) (O := O) (t := t) (ar := ar) (v := 2) hp hk hm hh hy (by omega) hL
  have e1 : B1 186 = A 186 := a2 _ (by decide)
  obtain ⟨B2, b1, b2⟩ := c_linesOf (d := d) (K := K) (O := O) (t := t) (ar := ar) (A := B1) (v := 0) hp hk (by rw [e1]; exact hm) (by rw [e1]; exact hh) (by rw [e1]; exact hy) (by omega) (by rw [e1]; exact hL)
  have e2 : B2 186 = A 186 := by rw [b2 _ (by decide), e1]
  obtain ⟨B3, d1, d2⟩ := c_linesOf (d := d) (K := K) (O := O) (t := t) (ar := ar) (A := B2) (v := 1) hp hk (by rw [e2]; exact hm) (by rw [e2]; exact hh) (by rw [e2]; exact hy) (by omega) (by rw [e2]; exact hL)
  rw [e1] at b1
  rw [e2] at d1
  refine ⟨B3, ?_, fun c hc => by rw [d2 c hc, b2 c hc, a2 c hc]⟩
  unfold zGoes
  have q0 := zLs_le (E := zEnv p k (A 186 (15 + 6 * p + k)) (A 186 (11 + k)) (A 186 3)) (w := 0) hok
  have q1 := zLs_le (E := zEnv p k (A 186 (15 + 6 * p + k)) (A 186 (11 + k)) (A 186 3)) (w := 1) hok
  have q2 := zLs_le (E := zEnv p k (A 186 (15 + 6 * p + k)) (A 186 (11 + k)) (A 186 3)) (w := 2) hok
  generalize zLs (zEnv p k (A 186 (15 + 6 * p + k)) (A 186 (11 + k)) (A 186 3)) 0 L = up at *
  generalize zLs (zEnv p k (A 186 (15 + 6 * p + k)) (A 186 (11 + k)) (A 186 3)) 1 L = dn at *
  generalize zLs (zEnv p k (A 186 (15 + 6 * p + k)) (A 186 (11 + k)) (A 186 3)) 2 L = tw at *
  have hab : 0 ≤ zAbs (A 186 (11 + k) - A 186 (15 + 6 * p + k)) ∧ zAbs (A 186 (11 + k) - A 186 (15 + 6 * p + k)) ≤ 99 ∧ zAbs (A 186 (11 + k) - A 186 (15 + 6 * p + k)) = zAbs (A 186 (15 + 6 * p + k) - A 186 (11 + k)) := by
    unfold zAbs; split <;> split <;> omega
  rw [← hab.2.2]
  have m1 := c_min (d := d + 4) (K := K) (O := O) (t := t) (ar := ar) (A := B1) (x := zAbs (A 186 (11 + k) - A 186 (15 + 6 * p + k))) (y := tw) (by omega) (by omega)
  by_cases hlt : A 186 (15 + 6 * p + k) < A 186 (11 + k)
  · rw [if_pos hlt]
    have m2 := c_min (d := d + 4) (K := K) (O := O) (t := t) (ar := ar) (A := B3) (x := 99) (y := A 186 (15 + 6 * p + k) + min (zAbs (A 186 (11 + k) - A 186 (15 + 6 * p + k))) tw + up - dn) (by omega) (by omega)
    have m3 := c_max (d := d + 4) (K := K) (O := O) (t := t) (ar := ar) (A := B3) (x := 0) (y := min 99 (A 186 (15 + 6 * p + k) + min (zAbs (A 186 (11 + k) - A 186 (15 + 6 * p + k))) tw + up - dn)) (by omega) (by omega)
    simp (disch := first | assumption | omega | exact zr_and | exact zr_or | exact zr_xor | exact zr_shl | exact zr_shr | exact zr_ushr | exact zr_byte) only [i272_0, i272_6, i272_25, i272_32, i272_35, i272_43, i272_50, i272_54, i272_61, i272_69, i272_80, i272_83, ho, ha, a1, m1, b1, d1, m2, m3, mB1_i, mB0_i, mB1n_i, mB0n_i, mB1_x, mB0_x, if_true, if_false, if_pos, if_neg]
    rw [show A 186 (15 + 6 * p + k) + min (zAbs (A 186 (11 + k) - A 186 (15 + 6 * p + k))) tw + up - dn = A 186 (15 + 6 * p + k) + min tw (zAbs (A 186 (11 + k) - A 186 (15 + 6 * p + k))) + (up - dn) by omega]
  · rw [if_neg hlt]
    have m2 := c_min (d := d + 4) (K := K) (O := O) (t := t) (ar := ar) (A := B3) (x := 99) (y := A 186 (15 + 6 * p + k) - min (zAbs (A 186 (11 + k) - A 186 (15 + 6 * p + k))) tw + up - dn) (by omega) (by omega)
    have m3 := c_max (d := d + 4) (K := K) (O := O) (t := t) (ar := ar) (A := B3) (x := 0) (y := min 99 (A 186 (15 + 6 * p + k) - min (zAbs (A 186 (11 + k) - A 186 (15 + 6 * p + k))) tw + up - dn)) (by omega) (by omega)
    simp (disch := first | assumption | omega | exact zr_and | exact zr_or | exact zr_xor | exact zr_shl | exact zr_shr | exact zr_ushr | exact zr_byte) only [i272_0, i272_6, i272_25, i272_32, i272_35, i272_43, i272_50, i272_54, i272_61, i272_69, i272_80, i272_83, ho, ha, a1, m1, b1, d1, m2, m3, mB1_i, mB0_i, mB1n_i, mB0n_i, mB1_x, mB0_x, if_true, if_false, if_pos, if_neg]
    rw [show A 186 (15 + 6 * p + k) - min (zAbs (A 186 (11 + k) - A 186 (15 + 6 * p + k))) tw + up - dn = A 186 (15 + 6 * p + k) + -min tw (zAbs (A 186 (11 + k) - A 186 (15 + 6 * p + k))) + (up - dn) by omega]
end RLAW
