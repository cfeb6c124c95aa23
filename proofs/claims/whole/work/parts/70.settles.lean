/-! CALLS, 18: settles, round -/
/-- the numbers that a state is told by -/
def zSg (h : Int → Int) (i : Int) : Int := if i < 4 then h (11 + i) else if (i - 4) / 4 < h 0 then h (15 + 6 * ((i - 4) / 4) + (i - 4) % 4) else 0
theorem zSg_rng {h : Int → Int} (hw : zHW0 h) {i : Int} (hi : 0 ≤ i ∧ i < 36) : 0 ≤ zSg h i ∧ zSg h i ≤ 99 := by
  unfold zSg
  split
  · exact hw.2.2.2.2.2.2.1 i hi.1 (by omega)
  · split
    · exact hw.2.2.2.2.2.2.2.1 ((i - 4) / 4) ((i - 4) % 4) (by omega) (by omega) (by omega) (by omega)
    · omega
def zSame (h h' : Int → Int) : Prop := ∀ i, 0 ≤ i → i < 36 → zSg h i = zSg h' i
section SETTLES
variable {ar : Nat → Nat × (Nat → Int32)} {d t : Nat} {K : Nat → Nat → Option Nat} {A : Nat → Int → Int} {O : Nat → Int64}
theorem notes_in {x p : Int} (hx : 0 ≤ x ∧ x < 31) (hp : 0 ≤ p ∧ p < 8) (h8 : 0 ≤ A 186 0 ∧ A 186 0 ≤ 8) : ∀ (m : Nat) (k : Int) (B : Nat → Int → Int), k + m = 4 → 0 ≤ k → (∀ c, c ≠ 196 → B c = A c) → (∀ i, B 196 i = if 36 * x ≤ i ∧ i < 36 * x + 4 + 4 * p + k then zSg (A 186) (i - 36 * x) else A 196 i) → ∃ C, mGd ar (d + 3) 295 43 [.ref 185, .int (zI x), .int (zI p), .int (zI k)] [] (zW K B O t) = mGd ar (d + 3) 295 35 [.ref 185, .int (zI x), .int (zI ((p + 1))), .int (zI 4)] [] (zW K C O t) ∧ (∀ c, c ≠ 196 → C c = A c) ∧ ∀ i, C 196 i = if 36 * x ≤ i ∧ i < 36 * x + 4 + 4 * (p + 1) then zSg (A 186) (i - 36 * x) else A 196 i := by
  intro m
  induction m with
  | zero =>
    intro k B hk k0 hB hS
    have : k = 4 := by omega
    subst this
    refine ⟨B, by simp (disch := first | assumption | omega | exact zr_and | exact zr_or | exact zr_xor | exact zr_shl | exact zr_shr | exact zr_ushr | exact zr_byte | exact isHall3 | exact isLaw12) only [i295_43, i295_89, mB1_i, mB0_i, mB1n_i, mB0n_i, mB1_x, mB0_x, ↓if_pos, ↓if_neg, if_true, if_false, if_pos, if_neg], hB, fun i => ?_⟩
    rw [hS i, show 36 * x + 4 + 4 * p + 4 = 36 * x + 4 + 4 * (p + 1) by omega]
  | succ m ih =>
    intro k B hk k0 hB hS
    have e6 := hB 186 (by decide)
    have hst : zSg (A 186) (4 + 4 * p + k) = if p < A 186 0 then A 186 (15 + 6 * p + k) else 0 := by
      unfold zSg
      rw [if_neg (by omega), show (4 + 4 * p + k - 4) / 4 = p by omega, show (4 + 4 * p + k - 4) % 4 = k by omega]
    obtain ⟨C, q1, q2, q3⟩ := ih (k + 1) (zU B 196 (36 * x + 4 + 4 * p + k) (zSg (A 186) (4 + 4 * p + k))) (by omega) (by omega) (fun c hc => by rw [zU_r hc, hB c hc]) (fun i => by
      by_cases hi : i = 36 * x + 4 + 4 * p + k
      · rw [hi, zU_at, if_pos (by omega), show 36 * x + 4 + 4 * p + k - 36 * x = 4 + 4 * p + k by omega]
      · rw [zU_s hi, hS i]
        by_cases hj : 36 * x ≤ i ∧ i < 36 * x + 4 + 4 * p + k
        · rw [if_pos hj, if_pos (by omega)]
        · rw [if_neg hj, if_neg (by omega)])
    refine ⟨C, ?_, q2, q3⟩
    have eb0 : B 186 0 = A 186 0 := by rw [e6]
    have eb : B 186 (15 + 6 * p + k) = A 186 (15 + 6 * p + k) := by rw [e6]
    rw [← q1, hst, i295_43 (by omega)]
    by_cases hc : p < A 186 0
    · rw [if_pos hc]
      simp (disch := first | assumption | omega | exact zr_and | exact zr_or | exact zr_xor | exact zr_shl | exact zr_shr | exact zr_ushr | exact zr_byte | exact isHall3 | exact isLaw12) only [i295_48, i233_0, eb0, i295_69, i295_72, i258_0, i258_9, i234_0, eb, i295_78, i295_82, mB1_i, mB0_i, mB1n_i, mB0n_i, mB1_x, mB0_x, ↓if_pos, ↓if_neg, if_true, if_false, if_pos, if_neg]
    · rw [if_neg hc]
      simp (disch := first | assumption | omega | exact zr_and | exact zr_or | exact zr_xor | exact zr_shl | exact zr_shr | exact zr_ushr | exact zr_byte | exact isHall3 | exact isLaw12) only [i295_48, i233_0, eb0, i295_69, i295_81, i295_82, mB1_i, mB0_i, mB1n_i, mB0n_i, mB1_x, mB0_x, ↓if_pos, ↓if_neg, if_true, if_false, if_pos, if_neg]
theorem c_notes {x : Int} (hx : 0 ≤ x ∧ x < 31) (h8 : 0 ≤ A 186 0 ∧ A 186 0 ≤ 8) : ∃ C, mGd ar (d + 3) 295 0 [.ref 185, .int (zI x), .double 0, .double 0] [] (zW K A O t) = some (.inl none, zW K C O t) ∧ (∀ c, c ≠ 196 → C c = A c) ∧ ∀ i, C 196 i = if 36 * x ≤ i ∧ i < 36 * x + 36 then zSg (A 186) (i - 36 * x) else A 196 i := by
  have l1 : ∀ (m : Nat) (k : Int) (B : Nat → Int → Int), k + m = 4 → 0 ≤ k → (∀ c, c ≠ 196 → B c = A c) → (∀ i, B 196 i = if 36 * x ≤ i ∧ i < 36 * x + k then zSg (A 186) (i - 36 * x) else A 196 i) → ∃ C, mGd ar (d + 3) 295 2 [.ref 185, .int (zI x), .int (zI k), .double 0] [] (zW K B O t) = mGd ar (d + 3) 295 35 [.ref 185, .int (zI x), .int (zI 0), .double 0] [] (zW K C O t) ∧ (∀ c, c ≠ 196 → C c = A c) ∧ ∀ i, C 196 i = if 36 * x ≤ i ∧ i < 36 * x + 4 then zSg (A 186) (i - 36 * x) else A 196 i := by
    intro m
    induction m with
    | zero =>
      intro k B hk k0 hB hS
      have : k = 4 := by omega
      subst this
      exact ⟨B, by simp (disch := first | assumption | omega | exact zr_and | exact zr_or | exact zr_xor | exact zr_shl | exact zr_shr | exact zr_ushr | exact zr_byte | exact isHall3 | exact isLaw12) only [i295_2, i295_33, mB1_i, mB0_i, mB1n_i, mB0n_i, mB1_x, mB0_x, ↓if_pos, ↓if_neg, if_true, if_false, if_pos, if_neg], hB, hS⟩
    | succ m ih =>
      intro k B hk k0 hB hS
      have e6 := hB 186 (by decide)
      have hst : B 186 (11 + k) = zSg (A 186) k := by
        unfold zSg
        rw [if_pos (by omega), e6]
      obtain ⟨C, q1, q2, q3⟩ := ih (k + 1) (zU B 196 (36 * x + k) (zSg (A 186) k)) (by omega) (by omega) (fun c hc => by rw [zU_r hc, hB c hc]) (fun i => by
        by_cases hi : i = 36 * x + k
        · rw [hi, zU_at, if_pos (by omega), show 36 * x + k - 36 * x = k by omega]
        · rw [zU_s hi, hS i]
          by_cases hj : 36 * x ≤ i ∧ i < 36 * x + k
          · rw [if_pos hj, if_pos (by omega)]
          · rw [if_neg hj, if_neg (by omega)])
      refine ⟨C, ?_, q2, q3⟩
      rw [← q1, i295_2 (by omega)]
      simp (disch := first | assumption | omega | exact zr_and | exact zr_or | exact zr_xor | exact zr_shl | exact zr_shr | exact zr_ushr | exact zr_byte | exact isHall3 | exact isLaw12) only [i295_7, hst, mB1_i, mB0_i, mB1n_i, mB0n_i, mB1_x, mB0_x, ↓if_pos, ↓if_neg, if_true, if_false, if_pos, if_neg]
  have l2 : ∀ (m : Nat) (p : Int) (B : Nat → Int → Int) (u : Value), p + m = 8 → 0 ≤ p → (∀ c, c ≠ 196 → B c = A c) → (∀ i, B 196 i = if 36 * x ≤ i ∧ i < 36 * x + 4 + 4 * p then zSg (A 186) (i - 36 * x) else A 196 i) → ∃ C, mGd ar (d + 3) 295 35 [.ref 185, .int (zI x), .int (zI p), u] [] (zW K B O t) = some (.inl none, zW K C O t) ∧ (∀ c, c ≠ 196 → C c = A c) ∧ ∀ i, C 196 i = if 36 * x ≤ i ∧ i < 36 * x + 36 then zSg (A 186) (i - 36 * x) else A 196 i := by
    intro m
    induction m with
    | zero =>
      intro p B u hp p0 hB hS
      have : p = 8 := by omega
      subst this
      exact ⟨B, by simp (disch := first | assumption | omega | exact zr_and | exact zr_or | exact zr_xor | exact zr_shl | exact zr_shr | exact zr_ushr | exact zr_byte | exact isHall3 | exact isLaw12) only [i295_35, i295_95, mB1_i, mB0_i, mB1n_i, mB0n_i, mB1_x, mB0_x, ↓if_pos, ↓if_neg, if_true, if_false, if_pos, if_neg], hB, fun i => by rw [hS i, show 36 * x + 4 + 4 * 8 = 36 * x + 36 by omega]⟩
    | succ m ih =>
      intro p B u hp p0 hB hS
      obtain ⟨B1, q1, q2, q3⟩ := notes_in (d := d) (K := K) (O := O) (t := t) (ar := ar) (A := A) hx (p := p) (by omega) h8 4 0 B (by omega) (by omega) hB (fun i => by rw [hS i, Int.add_zero])
      obtain ⟨C, f1, f2, f3⟩ := ih (p + 1) B1 (.int (zI 4)) (by omega) (by omega) q2 q3
      refine ⟨C, ?_, f2, f3⟩
      rw [← f1, ← q1, i295_35 (by omega)]
      simp (disch := first | assumption | omega | exact zr_and | exact zr_or | exact zr_xor | exact zr_shl | exact zr_shr | exact zr_ushr | exact zr_byte | exact isHall3 | exact isLaw12) only [i295_41, mB1_i, mB0_i, mB1n_i, mB0n_i, mB1_x, mB0_x, ↓if_pos, ↓if_neg, if_true, if_false, if_pos, if_neg]
  obtain ⟨B, q1, q2, q3⟩ := l1 4 0 A (by omega) (by omega) (fun _ _ => rfl) (fun i => by rw [if_neg (by omega)])
  obtain ⟨C, f1, f2, f3⟩ := l2 8 0 B (.double 0) (by omega) (by omega) q2 (fun i => by rw [q3 i, Int.mul_zero, Int.add_zero])
  exact ⟨C, by rw [i295_0, q1]; exact f1, f2, f3⟩
theorem c_alike {x y : Int} (hx : 0 ≤ x ∧ x < 31) (hy : 0 ≤ y ∧ y < 31) (hr : ∀ i, 0 ≤ i → i < 36 → (0 ≤ A 196 (36 * x + i) ∧ A 196 (36 * x + i) ≤ 99) ∧ 0 ≤ A 196 (36 * y + i) ∧ A 196 (36 * y + i) ≤ 99) : ∃ r, mGd ar (d) 296 0 [.ref 185, .int (zI x), .int (zI y), .double 0, .double 0] [] (zW K A O t) = some (.inl (some (.int (zI r))), zW K A O t) ∧ (r = 0 ∨ r = 1) ∧ (r = 1 ↔ ∀ i, 0 ≤ i → i < 36 → A 196 (36 * x + i) = A 196 (36 * y + i)) := by
  have l1 : ∀ (m : Nat) (i s : Int), i + m = 36 → 0 ≤ i → (s = 0 ∨ s = 1) → ∃ r, mGd ar (d) 296 5 [.ref 185, .int (zI x), .int (zI y), .int (zI s), .int (zI i)] [] (zW K A O t) = some (.inl (some (.int (zI r))), zW K A O t) ∧ (r = 0 ∨ r = 1) ∧ (r = 1 ↔ s = 1 ∧ ∀ j, i ≤ j → j < 36 → A 196 (36 * x + j) = A 196 (36 * y + j)) := by
    intro m
    induction m with
    | zero =>
      intro i s hi i0 hs
      exact ⟨s, by simp (disch := first | assumption | omega | exact zr_and | exact zr_or | exact zr_xor | exact zr_shl | exact zr_shr | exact zr_ushr | exact zr_byte | exact isHall3 | exact isLaw12) only [i296_5, i296_55, mB1_i, mB0_i, mB1n_i, mB0n_i, mB1_x, mB0_x, ↓if_pos, ↓if_neg, if_true, if_false, if_pos, if_neg], hs, ⟨fun h => ⟨h, fun j j0 j1 => by omega⟩, fun h => h.1⟩⟩
    | succ m ih =>
      intro i s hi i0 hs
      have r := hr i i0 (by omega)
      by_cases h0 : s = 0
      · obtain ⟨r, q1, q2, q3⟩ := ih (i + 1) 0 (by omega) (by omega) (Or.inl rfl)
        refine ⟨r, ?_, q2, ⟨fun h => absurd (q3.1 h).1 (by decide), fun h => by omega⟩⟩
        rw [← q1, i296_5 (by omega)]
        simp (disch := first | assumption | omega | exact zr_and | exact zr_or | exact zr_xor | exact zr_shl | exact zr_shr | exact zr_ushr | exact zr_byte | exact isHall3 | exact isLaw12) only [i296_12, i296_47, i296_48, mB1_i, mB0_i, mB1n_i, mB0n_i, mB1_x, mB0_x, ↓if_pos, ↓if_neg, if_true, if_false, if_pos, if_neg]
      · by_cases he : A 196 (36 * x + i) = A 196 (36 * y + i)
        · obtain ⟨r, q1, q2, q3⟩ := ih (i + 1) 1 (by omega) (by omega) (Or.inr rfl)
          refine ⟨r, ?_, q2, ⟨fun h => ⟨by omega, fun j j0 j1 => ?_⟩, fun h => q3.2 ⟨rfl, fun j j0 j1 => h.2 j (by omega) j1⟩⟩⟩
          · rw [← q1, i296_5 (by omega)]
            simp (disch := first | assumption | omega | exact zr_and | exact zr_or | exact zr_xor | exact zr_shl | exact zr_shr | exact zr_ushr | exact zr_byte | exact isHall3 | exact isLaw12) only [i296_12, i296_16, he, i296_43, i296_48, mB1_i, mB0_i, mB1n_i, mB0n_i, mB1_x, mB0_x, ↓if_pos, ↓if_neg, if_true, if_false, if_pos, if_neg]
          · by_cases hj : j = i
            · rw [hj]; exact he
            · exact (q3.1 h).2 j (by omega) j1
        · obtain ⟨r, q1, q2, q3⟩ := ih (i + 1) 0 (by omega) (by omega) (Or.inl rfl)
          refine ⟨r, ?_, q2, ⟨fun h => absurd (q3.1 h).1 (by decide), fun h => absurd (h.2 i (by omega) (by omega)) he⟩⟩
          rw [← q1, i296_5 (by omega)]
          simp (disch := first | assumption | omega | exact zr_and | exact zr_or | exact zr_xor | exact zr_shl | exact zr_shr | exact zr_ushr | exact zr_byte | exact isHall3 | exact isLaw12) only [i296_12, i296_16, he, i296_47, i296_48, mB1_i, mB0_i, mB1n_i, mB0n_i, mB1_x, mB0_x, ↓if_pos, ↓if_neg, if_true, if_false, if_pos, if_neg]
  obtain ⟨r, q1, q2, q3⟩ := l1 36 0 1 (by omega) (by omega) (Or.inr rfl)
  exact ⟨r, by rw [i296_0]; exact q1, q2, ⟨fun h => (q3.1 h).2, fun h => q3.2 ⟨rfl, h⟩⟩⟩
end SETTLES
