/-! CALLS THAT CHANGE, 1: what is remembered -/
theorem zInv_hall {A A' : Nat → Int → Int} (hI : zInv A) (hw : zHWf (A' 186)) (hr : zHR A' 3 (A' 186)) (e2 : A' 186 2 = A 186 2) (el : ∀ i, 423 ≤ i → A' 186 i = A 186 i) (ha : zActs A') (ec : ∀ c, c < 3 ∨ (12 ≤ c ∧ c ≤ 16) ∨ (129 ≤ c ∧ c < 143) ∨ c = 176 ∨ c = 187 ∨ c = 191 → A' c = A c) (e5 : ∀ j, j = 6 ∨ j = 9 ∨ j = 14 → A' 185 j = A 185 j) : zInv A' := by
  obtain ⟨-, ⟨L, l1, l2, l3⟩, h4, -, h6, h7, h8⟩ := hI
  refine ⟨⟨hw, hr⟩, ⟨L, zLawC_same l1 (fun c c1 c2 => ec c (by omega)), zLawR_congr e2 (fun i i1 _ => el i i1) l2, by rw [e2, ec 12 (by omega)]; exact l3⟩, ?_, ha, ?_, ?_, ?_⟩
  · unfold zTp; rw [ec 1 (by omega), ec 2 (by omega), e5 9 (by omega), ec 191 (by omega)]; exact h4
  · obtain ⟨a1, a2, a3⟩ := h6
    unfold zImg
    rw [ec 0 (by omega), e5 6 (by omega), ec 187 (by omega)]
    refine ⟨a1, a2, fun hk => ?_⟩
    obtain ⟨b1, b2, L', b3, b4, b5⟩ := a3 hk
    exact ⟨b1, zHR_same (fun c c1 c2 => ec c (by omega)) b1 b2, L', zLawC_same b3 (fun c c1 c2 => ec c (by omega)), b4, by rw [ec 138 (by omega)]; exact b5⟩
  · rw [ec 0 (by omega), e5 14 (by omega)]; exact h7
  · rw [ec 176 (by omega)]; exact h8
theorem zActs_same {A A' : Nat → Int → Int} (h : zActs A) (e2 : A' 186 2 = A 186 2) (ec : ∀ c, (19 ≤ c ∧ c < 129) ∨ c = 190 → A' c = A c) (e5 : A' 185 7 = A 185 7) : zActs A' := by
  obtain ⟨a1, a2, a3, a4⟩ := h
  unfold zActs zAh
  rw [ec 19 (by omega), e5, ec 190 (by omega), e2]
  refine ⟨a1, a2, a3, fun j j0 j1 => ?_⟩
  obtain ⟨b1, b2, b3⟩ := a4 j j0 j1
  have hz := zAh_lt (A := A) (j := j)
  exact ⟨b1, zHR_same (a := zAh A j) (fun c c1 c2 => ec c (by omega)) b1 b2, b3⟩
theorem zActs_new {A A' : Nat → Int → Int} (h : zActs A) (hw : zHWf (A 186)) (e2 : A' 186 2 = A 186 2) (c1 : A' 19 1 = (A 19 1 + 1) % 12) (c0 : A' 19 0 = min 12 (A 19 0 + 1)) (cn : zHR A' (21 + 9 * (A 19 1).toNat) (A 186)) (co : ∀ c, 21 ≤ c → c < 129 → ¬ (21 + 9 * (A 19 1).toNat ≤ c ∧ c ≤ 21 + 9 * (A 19 1).toNat + 8) → A' c = A c) (r7 : A' 185 7 = min 12 (A 185 7 + 1)) (ro : ∀ x, 0 ≤ x → x < 423 * (A' 19 0 - 1) → A' 190 x = if A 19 0 = 12 then A 190 (x + 423) else A 190 x) (rn : ∀ i, 0 ≤ i → i < 423 → A' 190 (423 * (A' 19 0 - 1) + i) = A 186 i) : zActs A' := by
  obtain ⟨a1, a2, a3, a4⟩ := h
  refine ⟨by rw [r7, c0, a1], by omega, by omega, fun j j0 j1 => ?_⟩
  by_cases hj : j = A' 19 0 - 1
  · have er : ∀ i, 0 ≤ i → i < 423 → (fun i => A' 190 (423 * j + i)) i = A 186 i := fun i i0 i1 => by
      show A' 190 (423 * j + i) = A 186 i
      rw [hj]; exact rn i i0 i1
    have es : zAh A' j = 21 + 9 * (A 19 1).toNat := by
      unfold zAh
      rw [show (A' 19 1 - A' 19 0 + j) % 12 = A 19 1 by omega]
    rw [es]
    exact ⟨zHWf_congr er hw, zHR_congr er hw cn, by rw [e2]; exact er 2 (by omega) (by omega)⟩
  · by_cases h12 : A 19 0 = 12
    · obtain ⟨b1, b2, b3⟩ := a4 (j + 1) (by omega) (by omega)
      have er : ∀ i, 0 ≤ i → i < 423 → (fun i => A' 190 (423 * j + i)) i = (fun i => A 190 (423 * (j + 1) + i)) i := fun i i0 i1 => by
        show A' 190 (423 * j + i) = A 190 (423 * (j + 1) + i)
        rw [ro _ (by omega) (by omega), if_pos h12, show 423 * j + i + 423 = 423 * (j + 1) + i by omega]
      have es : zAh A' j = zAh A (j + 1) := by
        unfold zAh
        rw [show (A' 19 1 - A' 19 0 + j) % 12 = (A 19 1 - A 19 0 + (j + 1)) % 12 by omega]
      have hz := zAh_lt (A := A) (j := j + 1)
      have hne : (A 19 1 - A 19 0 + (j + 1)) % 12 ≠ A 19 1 := by omega
      rw [es]
      exact ⟨zHWf_congr er b1, zHR_congr er b1 (zHR_same (fun c c1 c2 => co c (by omega) (by omega) (by unfold zAh at c1 c2; omega)) b1 b2), by rw [e2]; exact (er 2 (by omega) (by omega)).trans b3⟩
    · obtain ⟨b1, b2, b3⟩ := a4 j (by omega) (by omega)
      have er : ∀ i, 0 ≤ i → i < 423 → (fun i => A' 190 (423 * j + i)) i = (fun i => A 190 (423 * j + i)) i := fun i i0 i1 => by
        show A' 190 (423 * j + i) = A 190 (423 * j + i)
        rw [ro _ (by omega) (by omega), if_neg h12]
      have es : zAh A' j = zAh A j := by
        unfold zAh
        rw [show (A' 19 1 - A' 19 0 + j) % 12 = (A 19 1 - A 19 0 + j) % 12 by omega]
      have hz := zAh_lt (A := A) (j := j)
      have hne : (A 19 1 - A 19 0 + j) % 12 ≠ A 19 1 := by omega
      rw [es]
      exact ⟨zHWf_congr er b1, zHR_congr er b1 (zHR_same (fun c c1 c2 => co c (by omega) (by omega) (by unfold zAh at c1 c2; omega)) b1 b2), by rw [e2]; exact (er 2 (by omega) (by omega)).trans b3⟩
section ACTS
variable {ar : Nat → Nat × (Nat → Int32)} {d t : Nat} {K : Nat → Nat → Option Nat} {A : Nat → Int → Int} {O : Nat → Int64}
theorem zHEq_left {A' A'' B : Nat → Int → Int} {a b : Nat} (e : ∀ c, a ≤ c → c ≤ a + 8 → A'' c = A' c) (h : zHEq A' a B b) : zHEq A'' a B b := by
  unfold zHEq
  rw [e a (by omega) (by omega), e (a + 1) (by omega) (by omega), e (a + 2) (by omega) (by omega), e (a + 3) (by omega) (by omega), e (a + 4) (by omega) (by omega), e (a + 5) (by omega) (by omega), e (a + 6) (by omega) (by omega), e (a + 7) (by omega) (by omega), e (a + 8) (by omega) (by omega)]
  exact h
theorem c_remember (hK : ∀ i : Nat, i < 12 → K 20 i = some (21 + 9 * i)) (h0 : 0 ≤ A 19 0 ∧ A 19 0 ≤ 12) (h1 : 0 ≤ A 19 1 ∧ A 19 1 < 12) : ∃ C, mGd ar (d + 2) 121 0 [.ref 19, .ref 3] [] (zW K A O t) = some (.inl none, zW K C O t) ∧ zHEq C (21 + 9 * (A 19 1).toNat) A 3 ∧ C 19 1 = (A 19 1 + 1) % 12 ∧ C 19 0 = min 12 (A 19 0 + 1) ∧ ∀ c, c ≠ 19 → ¬ (21 + 9 * (A 19 1).toNat ≤ c ∧ c ≤ 21 + 9 * (A 19 1).toNat + 8) → C c = A c := by
  have hh : isHall (21 + 9 * (A 19 1).toNat) := by unfold isHall; omega
  obtain ⟨C1, g1, g2, g3⟩ := c_copy (d := d) (K := K) (O := O) (t := t) (ar := ar) (A := A) hh isHall3 (by omega)
  have e19 : C1 19 = A 19 := g3 19 (by omega)
  have tm : Int.tmod (A 19 1 + 1) 12 = (A 19 1 + 1) % 12 := Int.tmod_eq_emod_of_nonneg (by omega)
  have cm : ∀ B, mGd ar (d + 1) 39 0 [.int (zI 12), .int (zI ((A 19 0 + 1)))] [] (zW K B O t) = some (.inl (some (.int (zI (min 12 (A 19 0 + 1))))), zW K B O t) := fun B => c_min (by omega) (by omega)
  refine ⟨zU (zU C1 19 1 ((A 19 1 + 1) % 12)) 19 0 (min 12 (A 19 0 + 1)), ?_, ?_, ?_, zU_at, fun c h1 h2 => by rw [zU_r h1, zU_r h1, g3 c h2]⟩
  · have e1 : C1 19 1 = A 19 1 := by rw [e19]
    have e0 : C1 19 0 = A 19 0 := by rw [e19]
    have z0 : ∀ v, zU C1 19 1 v 19 0 = A 19 0 := fun v => by rw [zU_s (by decide), e0]
    rw [i121_0 isHall3 h1 (hK _ (by omega)) hh, g1]
    simp (disch := first | assumption | omega | exact zr_and | exact zr_or | exact zr_xor | exact zr_shl | exact zr_shr | exact zr_ushr | exact zr_byte | exact isHall3 | exact isLaw12) only [i121_13 isHall3, e1, tm, z0, cm, i121_38 isHall3, mB1_i, mB0_i, mB1n_i, mB0n_i, mB1_x, mB0_x, ↓if_pos, ↓if_neg, if_true, if_false, if_pos, if_neg]
  · exact zHEq_left (fun c c1 c2 => by rw [zU_r (by omega), zU_r (by omega)]) g2
  · rw [zU_s (by decide), zU_at]
theorem remembers_a (h12 : A 185 7 = 12) : ∀ (m : Nat) (x : Int) (B : Nat → Int → Int), x + m = 4653 → 0 ≤ x → (∀ c, c ≠ 190 → B c = A c) → (∀ i, B 190 i = if 0 ≤ i ∧ i < x then A 190 (i + 423) else A 190 i) → ∃ C, mGd ar (d) 278 11 [.ref 185, .int (zI x)] [] (zW K B O t) = mGd ar (d) 278 53 [.ref 185, .int (zI 4653)] [] (zW K C O t) ∧ (∀ c, c ≠ 190 → C c = A c) ∧ ∀ i, C 190 i = if 0 ≤ i ∧ i < 4653 then A 190 (i + 423) else A 190 i := by
  intro m
  induction m with
  | zero =>
    intro x B hx x0 hB hS
    have : x = 4653 := by omega
    subst this
    exact ⟨B, by simp (disch := first | assumption | omega | exact zr_and | exact zr_or | exact zr_xor | exact zr_shl | exact zr_shr | exact zr_ushr | exact zr_byte | exact isHall3 | exact isLaw12) only [i278_11, i278_40, mB1_i, mB0_i, mB1n_i, mB0n_i, mB1_x, mB0_x, ↓if_pos, ↓if_neg, if_true, if_false, if_pos, if_neg], hB, hS⟩
  | succ m ih =>
    intro x B hx x0 hB hS
    have e : B 190 (x + 423) = A 190 (x + 423) := by rw [hS, if_neg (by omega)]
    obtain ⟨C, q1, q2⟩ := ih (x + 1) (zU B 190 x (A 190 (x + 423))) (by omega) (by omega) (fun c hc => by rw [zU_r hc, hB c hc]) (fun i => by
      by_cases hi : i = x
      · rw [hi, zU_at, if_pos (by omega)]
      · rw [zU_s hi, hS i]
        by_cases hj : 0 ≤ i ∧ i < x
        · rw [if_pos hj, if_pos (by omega)]
        · rw [if_neg hj, if_neg (by omega)])
    refine ⟨C, ?_, q2⟩
    rw [← q1, i278_11 (by omega), if_neg (by omega), i278_18 (by omega) (by omega), e]
theorem remembers_b {r : Int} (hr : 1 ≤ r ∧ r ≤ 12) (h7 : A 185 7 = r) : ∀ (m : Nat) (x : Int) (B : Nat → Int → Int), x + m = 423 → 0 ≤ x → (∀ c, c ≠ 190 → B c = A c) → (∀ i, B 190 i = if 423 * (r - 1) ≤ i ∧ i < 423 * (r - 1) + x then A 186 (i - 423 * (r - 1)) else A 190 i) → ∃ C, mGd ar (d) 278 55 [.ref 185, .int (zI x)] [] (zW K B O t) = some (.inl none, zW K C O t) ∧ (∀ c, c ≠ 190 → C c = A c) ∧ ∀ i, C 190 i = if 423 * (r - 1) ≤ i ∧ i < 423 * (r - 1) + 423 then A 186 (i - 423 * (r - 1)) else A 190 i := by
  intro m
  induction m with
  | zero =>
    intro x B hx x0 hB hS
    have : x = 423 := by omega
    subst this
    exact ⟨B, by simp (disch := first | assumption | omega | exact zr_and | exact zr_or | exact zr_xor | exact zr_shl | exact zr_shr | exact zr_ushr | exact zr_byte | exact isHall3 | exact isLaw12) only [i278_55, i278_91, mB1_i, mB0_i, mB1n_i, mB0n_i, mB1_x, mB0_x, ↓if_pos, ↓if_neg, if_true, if_false, if_pos, if_neg], hB, hS⟩
  | succ m ih =>
    intro x B hx x0 hB hS
    have e6 : B 186 x = A 186 x := by rw [hB 186 (by decide)]
    have e7 : B 185 7 = r := by rw [hB 185 (by decide), h7]
    obtain ⟨C, q1, q2⟩ := ih (x + 1) (zU B 190 (423 * (r - 1) + x) (A 186 x)) (by omega) (by omega) (fun c hc => by rw [zU_r hc, hB c hc]) (fun i => by
      by_cases hi : i = 423 * (r - 1) + x
      · rw [hi, zU_at, if_pos (by omega), show 423 * (r - 1) + x - 423 * (r - 1) = x by omega]
      · rw [zU_s hi, hS i]
        by_cases hj : 423 * (r - 1) ≤ i ∧ i < 423 * (r - 1) + x
        · rw [if_pos hj, if_pos (by omega)]
        · rw [if_neg hj, if_neg (by omega)])
    refine ⟨C, ?_, q2⟩
    rw [← q1, i278_55 (by omega), if_neg (by omega), i278_62 (by omega) (by rw [e7]; omega), e6, e7]
theorem c_remembers (h7 : 0 ≤ A 185 7 ∧ A 185 7 ≤ 12) : ∃ C, mGd ar (d) 278 0 [.ref 185, .double 0] [] (zW K A O t) = some (.inl none, zW K C O t) ∧ (∀ c, c ≠ 185 → c ≠ 190 → C c = A c) ∧ (∀ j, j ≠ 7 → C 185 j = A 185 j) ∧ C 185 7 = min 12 (A 185 7 + 1) ∧ (∀ x, 0 ≤ x → x < 423 * (min 12 (A 185 7 + 1) - 1) → C 190 x = if A 185 7 = 12 then A 190 (x + 423) else A 190 x) ∧ ∀ i, 0 ≤ i → i < 423 → C 190 (423 * (min 12 (A 185 7 + 1) - 1) + i) = A 186 i := by
  by_cases h12 : A 185 7 = 12
  · obtain ⟨B, g1, g2, g3⟩ := remembers_a (d := d) (K := K) (O := O) (t := t) (ar := ar) h12 4653 0 A (by omega) (by omega) (fun _ _ => rfl) (fun i => by rw [if_neg (by omega)])
    have b7 : B 185 7 = 12 := by rw [g2 185 (by decide), h12]
    obtain ⟨C, f1, f2, f3⟩ := remembers_b (d := d) (K := K) (O := O) (t := t) (ar := ar) (A := B) (r := 12) (by omega) b7 423 0 B (by omega) (by omega) (fun _ _ => rfl) (fun i => by rw [if_neg (by omega)])
    have em : min 12 (A 185 7 + 1) = 12 := by omega
    rw [em]
    refine ⟨C, ?_, fun c c1 c2 => by rw [f2 c c2, g2 c c2], fun j _ => by rw [f2 185 (by decide), g2 185 (by decide)], by rw [f2 185 (by decide), b7], fun x x0 x1 => ?_, fun i i0 i1 => ?_⟩
    · simp (disch := first | assumption | omega | exact zr_and | exact zr_or | exact zr_xor | exact zr_shl | exact zr_shr | exact zr_ushr | exact zr_byte | exact isHall3 | exact isLaw12) only [i278_0, i278_9, g1, i278_53, f1, mB1_i, mB0_i, mB1n_i, mB0n_i, mB1_x, mB0_x, ↓if_pos, ↓if_neg, if_true, if_false, if_pos, if_neg]
    · rw [f3, if_neg (by omega), g3, if_pos (by omega), if_pos h12]
    · rw [f3, if_pos (by omega), g2 186 (by decide), show 423 * (12 - 1) + i - 423 * (12 - 1) = i by omega]
  · have em : min 12 (A 185 7 + 1) = A 185 7 + 1 := by omega
    obtain ⟨C, f1, f2, f3⟩ := remembers_b (d := d) (K := K) (O := O) (t := t) (ar := ar) (A := zU A 185 7 (A 185 7 + 1)) (r := A 185 7 + 1) (by omega) zU_at 423 0 (zU A 185 7 (A 185 7 + 1)) (by omega) (by omega) (fun _ _ => rfl) (fun i => by rw [if_neg (by omega)])
    rw [em]
    refine ⟨C, ?_, fun c c1 c2 => by rw [f2 c c2, zU_r c1], fun j hj => by rw [f2 185 (by decide), zU_s hj], by rw [f2 185 (by decide), zU_at], fun x x0 x1 => ?_, fun i i0 i1 => ?_⟩
    · simp (disch := first | assumption | omega | exact zr_and | exact zr_or | exact zr_xor | exact zr_shl | exact zr_shr | exact zr_ushr | exact zr_byte | exact isHall3 | exact isLaw12) only [i278_0, i278_43, i278_53, f1, mB1_i, mB0_i, mB1n_i, mB0n_i, mB1_x, mB0_x, ↓if_pos, ↓if_neg, if_true, if_false, if_pos, if_neg]
    · rw [f3, if_neg (by omega), zU_r (by decide), if_neg h12]
    · rw [f3, if_pos (by omega), zU_r (by decide), show 423 * (A 185 7 + 1 - 1) + i - 423 * (A 185 7 + 1 - 1) = i by omega]
end ACTS
