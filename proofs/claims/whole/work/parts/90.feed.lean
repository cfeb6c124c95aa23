/-! CALLS THAT CHANGE, 11: feed -/
theorem zByte_eq {x : Int} (hx : -2147483648 ≤ x ∧ x < 2147483648) : zByte x = (x + 128) % 256 - 128 := by
  unfold zByte
  rw [Int8.toInt_toInt32, Int32.toInt_toInt8, toInt_zI hx, Int.bmod_def]
  split <;> omega
theorem zUshr_0 {x : Int} (hx : -2147483648 ≤ x ∧ x < 2147483648) : zUshr x ((0 : Nat) : Int) = x := by
  unfold zUshr
  rw [show (zI ((0 : Nat) : Int)).toUInt32 &&& Int32.toUInt32 31 = 0 from by decide, UInt32.shiftRight_zero, Int32.toInt32_toUInt32, toInt_zI hx]
theorem zf_byte {x : Int} (hx : -2147483648 ≤ x ∧ x < 2147483648) {s : Nat} (hs : s = 0 ∨ s = 8 ∨ s = 16 ∨ s = 24) : (0 ≤ zAnd (zUshr x (s : Int)) 255 ∧ zAnd (zUshr x (s : Int)) 255 ≤ 255) ∧ zByte (zByte (zShr x (s : Int))) = zSb (zAnd (zUshr x (s : Int)) 255) := by
  have h1 := zShr_eq (x := x) (k := s) hx (by omega)
  have h3 := zAnd_mask (x := zUshr x (s : Int)) (m := 8) (by decide)
  rw [show ((2 : Int) ^ 8 - 1) = 255 from by decide, show ((2 : Int) ^ 8) = 256 from by decide] at h3
  rw [h3, h1]
  have hb : ∀ y : Int, -2147483648 ≤ y ∧ y < 2147483648 → zByte (zByte y) = (y + 128) % 256 - 128 := fun y hy => by
    rw [zByte_eq hy, zByte_eq (by omega)]
    omega
  rcases hs with rfl | rfl | rfl | rfl
  · rw [zUshr_0 hx, show ((2 : Int) ^ 0) = 1 from by decide, hb _ (by omega)]
    unfold zSb
    refine ⟨by omega, ?_⟩
    split <;> omega
  · rw [zUshr_eq (by decide) (by decide), show ((2 : Int) ^ 8) = 256 from by decide, hb _ (by omega)]
    unfold zSb
    refine ⟨by omega, ?_⟩
    split <;> omega
  · rw [zUshr_eq (by decide) (by decide), show ((2 : Int) ^ 16) = 65536 from by decide, hb _ (by omega)]
    unfold zSb
    refine ⟨by omega, ?_⟩
    split <;> omega
  · rw [zUshr_eq (by decide) (by decide), show ((2 : Int) ^ 24) = 16777216 from by decide, hb _ (by omega)]
    unfold zSb
    refine ⟨by omega, ?_⟩
    split <;> omega
def zBt (x r : Int) : Int := zAnd (zUshr x (24 - 8 * r)) 255
theorem zf_bt {x r : Int} (hx : -2147483648 ≤ x ∧ x < 2147483648) (hr : 0 ≤ r ∧ r < 4) : (0 ≤ zBt x r ∧ zBt x r ≤ 255) ∧ zByte (zByte (zShr x (24 - 8 * r))) = zSb (zBt x r) := by
  unfold zBt
  have h : 24 - 8 * r = ((24 - 8 * r).toNat : Int) := by omega
  rw [h]
  exact zf_byte hx (by omega)
section FEED
variable {ar : Nat → Nat × (Nat → Int32)} {d t : Nat} {K : Nat → Nat → Option Nat} {A : Nat → Int → Int} {O : Nat → Int64}
theorem word_loop {x l : Int} (hl : 0 ≤ l ∧ l + 4 ≤ 400) : ∀ (m : Nat) (r : Int) (B : Nat → Int → Int), r + m = 4 → 0 ≤ r → B 1 1 = l + r → (∀ j, j ≠ 1 → B 1 j = A 1 j) → (∀ c, c ≠ 1 → c ≠ 2 → B c = A c) → (∀ i, B 2 i = if l ≤ i ∧ i < l + r then zBt x (i - l) else A 2 i) → ∃ C, mGd ar (d) 15 3 [.ref 1, .int (zI x), .int (zI ((24 - 8 * r)))] [] (zW K B O t) = some (.inl none, zW K C O t) ∧ C 1 1 = l + 4 ∧ (∀ j, j ≠ 1 → C 1 j = A 1 j) ∧ (∀ c, c ≠ 1 → c ≠ 2 → C c = A c) ∧ ∀ i, C 2 i = if l ≤ i ∧ i < l + 4 then zBt x (i - l) else A 2 i := by
  intro m
  induction m with
  | zero =>
    intro r B hr r0 h1 hj hc hi
    have : r = 4 := by omega
    subst this
    exact ⟨B, by simp (disch := first | assumption | omega | exact zr_and | exact zr_or | exact zr_xor | exact zr_shl | exact zr_shr | exact zr_ushr | exact zr_byte | exact isHall3 | exact isLaw12) only [i15_3, i15_49, mB1_i, mB0_i, mB1n_i, mB0n_i, mB1_x, mB0_x, ↓if_pos, ↓if_neg, if_true, if_false, if_pos, if_neg], h1, hj, hc, hi⟩
  | succ m ih =>
    intro r B hr r0 h1 hj hc hi
    obtain ⟨C, q1, q2⟩ := ih (r + 1) (zU (zU B 2 (l + r) (zBt x r)) 1 1 (l + r + 1)) (by omega) (by omega) (by rw [zU_at]; omega) (fun j h => by rw [zU_s h, zU_c (by decide), hj j h]) (fun c c1 c2 => by rw [zU_r c1, zU_r c2, hc c c1 c2]) (fun i => by
      rw [zU_c (by decide)]
      by_cases he : i = l + r
      · rw [he, zU_at, if_pos (by omega), show l + r - l = r by omega]
      · rw [zU_s he, hi i]
        by_cases hq : l ≤ i ∧ i < l + r
        · rw [if_pos hq, if_pos (by omega)]
        · rw [if_neg hq, if_neg (by omega)])
    refine ⟨C, ?_, q2⟩
    rw [← q1, i15_3 (by omega), if_neg (by omega), i15_7 (by omega), if_neg (by omega), i15_17 (by omega), zU_c (by decide), h1, show 24 - 8 * r + -8 = 24 - 8 * (r + 1) by omega]
    rfl
theorem c_word {x l : Int} (h1 : A 1 1 = l) (hl : 0 ≤ l ∧ l + 4 ≤ 400) : ∃ C, mGd ar (d) 15 0 [.ref 1, .int (zI x), .double 0] [] (zW K A O t) = some (.inl none, zW K C O t) ∧ C 1 1 = l + 4 ∧ (∀ j, j ≠ 1 → C 1 j = A 1 j) ∧ (∀ c, c ≠ 1 → c ≠ 2 → C c = A c) ∧ ∀ i, C 2 i = if l ≤ i ∧ i < l + 4 then zBt x (i - l) else A 2 i := by
  obtain ⟨C, q1, q2⟩ := word_loop (d := d) (K := K) (O := O) (t := t) (ar := ar) (A := A) (x := x) hl 4 0 A (by omega) (by omega) (by omega) (fun _ _ => rfl) (fun _ _ _ => rfl) (fun i => by rw [if_neg (by omega)])
  exact ⟨C, by rw [i15_0]; exact q1, q2⟩
def zWd (x1 x2 x3 x4 x5 q : Int) : Int := if q = 0 then x1 else if q = 1 then x2 else if q = 2 then x3 else if q = 3 then x4 else x5
theorem zWd_r {x1 x2 x3 x4 x5 q : Int} (h1 : -2147483648 ≤ x1 ∧ x1 < 2147483648) (h2 : -2147483648 ≤ x2 ∧ x2 < 2147483648) (h3 : -2147483648 ≤ x3 ∧ x3 < 2147483648) (h4 : -2147483648 ≤ x4 ∧ x4 < 2147483648) (h5 : -2147483648 ≤ x5 ∧ x5 < 2147483648) : -2147483648 ≤ zWd x1 x2 x3 x4 x5 q ∧ zWd x1 x2 x3 x4 x5 q < 2147483648 := by
  unfold zWd
  repeat' split
  all_goals assumption
theorem c_words {x1 x2 x3 x4 x5 l : Int} (h1 : A 1 1 = l) (hl : 0 ≤ l ∧ l + 20 ≤ 400) : ∃ C, mGd ar (d + 1) 13 14 [.ref 0, .int (zI x1), .int (zI x2), .int (zI x3), .int (zI x4), .int (zI x5)] [] (zW K A O t) = some (.inl (some (.int (zI (l + 20)))), zW K C O t) ∧ C 1 1 = l + 20 ∧ (∀ c, c ≠ 1 → c ≠ 2 → C c = A c) ∧ (∀ i, i < l → C 2 i = A 2 i) ∧ ∀ r, 0 ≤ r → r < 20 → C 2 (l + r) = zBt (zWd x1 x2 x3 x4 x5 (r / 4)) (r % 4) := by
  obtain ⟨B1, a1, a2, -, a4, a5⟩ := c_word (d := d) (K := K) (O := O) (t := t) (ar := ar) (A := A) (x := x1) h1 (by omega)
  obtain ⟨B2, b1, b2, -, b4, b5⟩ := c_word (d := d) (K := K) (O := O) (t := t) (ar := ar) (A := B1) (x := x2) a2 (by omega)
  obtain ⟨B3, c1, c2, -, c4, c5⟩ := c_word (d := d) (K := K) (O := O) (t := t) (ar := ar) (A := B2) (x := x3) b2 (by omega)
  obtain ⟨B4, d1, d2, -, d4, d5⟩ := c_word (d := d) (K := K) (O := O) (t := t) (ar := ar) (A := B3) (x := x4) c2 (by omega)
  obtain ⟨B5, e1, e2, -, e4, e5⟩ := c_word (d := d) (K := K) (O := O) (t := t) (ar := ar) (A := B4) (x := x5) d2 (by omega)
  have e2' : B5 1 1 = l + 20 := by omega
  refine ⟨B5, ?_, e2', fun c h1 h2 => by rw [e4 c h1 h2, d4 c h1 h2, c4 c h1 h2, b4 c h1 h2, a4 c h1 h2], fun i hi => by rw [e5, if_neg (by omega), d5, if_neg (by omega), c5, if_neg (by omega), b5, if_neg (by omega), a5, if_neg (by omega)], fun r r0 r1 => ?_⟩
  · simp (disch := first | assumption | omega | exact zr_and | exact zr_or | exact zr_xor | exact zr_shl | exact zr_shr | exact zr_ushr | exact zr_byte | exact isHall3 | exact isLaw12) only [i13_0, i13_9, i13_12, i13_14, i13_22, i13_30, i13_38, i13_47, i13_56, a1, b1, c1, d1, e1, e2', mB1_i, mB0_i, mB1n_i, mB0n_i, mB1_x, mB0_x, ↓if_pos, ↓if_neg, if_true, if_false, if_pos, if_neg]
  · by_cases g4 : 16 ≤ r
    · rw [e5, if_pos (by omega), show r / 4 = 4 by omega, show l + r - (l + 4 + 4 + 4 + 4) = r % 4 by omega]; rfl
    rw [e5, if_neg (by omega)]
    by_cases g3 : 12 ≤ r
    · rw [d5, if_pos (by omega), show r / 4 = 3 by omega, show l + r - (l + 4 + 4 + 4) = r % 4 by omega]; rfl
    rw [d5, if_neg (by omega)]
    by_cases g2 : 8 ≤ r
    · rw [c5, if_pos (by omega), show r / 4 = 2 by omega, show l + r - (l + 4 + 4) = r % 4 by omega]; rfl
    rw [c5, if_neg (by omega)]
    by_cases g1 : 4 ≤ r
    · rw [b5, if_pos (by omega), show r / 4 = 1 by omega, show l + r - (l + 4) = r % 4 by omega]; rfl
    rw [b5, if_neg (by omega), a5, if_pos (by omega), show r / 4 = 0 by omega, show l + r - l = r % 4 by omega]; rfl
theorem rfeed_loop {x1 x2 x3 x4 x5 l : Int} (hl : 0 ≤ l ∧ l + 20 ≤ 400) (h9 : A 185 9 = l) (hq : ∀ q, 0 ≤ q → q < 5 → A 192 q = zWd x1 x2 x3 x4 x5 q) (hx : ∀ q, -2147483648 ≤ zWd x1 x2 x3 x4 x5 q ∧ zWd x1 x2 x3 x4 x5 q < 2147483648) : ∀ (m : Nat) (x : Int) (B : Nat → Int → Int), x + m = 20 → 0 ≤ x → (∀ c, c ≠ 191 → B c = A c) → (∀ i, i < l → B 191 i = A 191 i) → (∀ r, 0 ≤ r → r < x → B 191 (l + r) = zSb (zBt (zWd x1 x2 x3 x4 x5 (r / 4)) (r % 4))) → ∃ C, mGd ar (d) 220 60 [.ref 185, .int (zI x1), .int (zI x2), .int (zI x3), .int (zI x4), .int (zI x5), .int (zI x)] [] (zW K B O t) = some (.inl (some (.int (zI (l + 20)))), zW K C O t) ∧ C 185 9 = l + 20 ∧ (∀ j, j ≠ 9 → C 185 j = A 185 j) ∧ (∀ c, c ≠ 185 → c ≠ 191 → C c = A c) ∧ (∀ i, i < l → C 191 i = A 191 i) ∧ ∀ r, 0 ≤ r → r < 20 → C 191 (l + r) = zSb (zBt (zWd x1 x2 x3 x4 x5 (r / 4)) (r % 4)) := by
  intro m
  induction m with
  | zero =>
    intro x B hm x0 hc hi hr
    have : x = 20 := by omega
    subst this
    have b9 : B 185 9 = l := by rw [hc 185 (by decide), h9]
    refine ⟨zU B 185 9 (l + 20), ?_, zU_at, fun j hj => by rw [zU_s hj, hc 185 (by decide)], fun c c1 c2 => by rw [zU_r c1, hc c c2], fun i h => by rw [zU_r (by decide), hi i h], fun r h1 h2 => by rw [zU_r (by decide), hr r h1 h2]⟩
    rw [i220_60 (by omega), if_pos (by omega), i220_106, b9, zU_at]
  | succ m ih =>
    intro x B hm x0 hc hi hr
    have b9 : B 185 9 = l := by rw [hc 185 (by decide), h9]
    have td : Int.tdiv x 4 = x / 4 := Int.tdiv_eq_ediv_of_nonneg x0
    have tm : Int.tmod x 4 = x % 4 := Int.tmod_eq_emod_of_nonneg x0
    have bq : B 192 (x / 4) = zWd x1 x2 x3 x4 x5 (x / 4) := by rw [hc 192 (by decide), hq _ (by omega) (by omega)]
    have hb := (zf_bt (x := zWd x1 x2 x3 x4 x5 (x / 4)) (r := x % 4) (hx _) (by omega)).2
    obtain ⟨C, q1, q2⟩ := ih (x + 1) (zU B 191 (l + x) (zSb (zBt (zWd x1 x2 x3 x4 x5 (x / 4)) (x % 4)))) (by omega) (by omega) (fun c h => by rw [zU_r h, hc c h]) (fun i h => by rw [zU_s (by omega), hi i h]) (fun r h1 h2 => by
      by_cases he : r = x
      · rw [he, zU_at]
      · rw [zU_s (by omega), hr r h1 (by omega)])
    refine ⟨C, ?_, q2⟩
    rw [← q1, i220_60 (by omega), if_neg (by omega), i220_67 (by omega) (by omega) (by omega), b9, td, tm, bq, hb]
theorem q_feed {x1 x2 x3 x4 x5 : Int} (hI : zInv A) (h1 : -2147483648 ≤ x1 ∧ x1 < 2147483648) (h2 : -2147483648 ≤ x2 ∧ x2 < 2147483648) (h3 : -2147483648 ≤ x3 ∧ x3 < 2147483648) (h4 : -2147483648 ≤ x4 ∧ x4 < 2147483648) (h5 : -2147483648 ≤ x5 ∧ x5 < 2147483648) : zQ ar K O t (d + 12) 13 [.ref 0, .int (zI x1), .int (zI x2), .int (zI x3), .int (zI x4), .int (zI x5)] 220 [.ref 185, .int (zI x1), .int (zI x2), .int (zI x3), .int (zI x4), .int (zI x5), .double 0] (fun _ => 0) A := by
  obtain ⟨t1, t2, t3⟩ := hI.2.2.1
  by_cases hf : A 1 1 + 20 ≤ 400
  case neg =>
    refine zQ_ok (b := -1) (A1 := A) hI ?_ zFc_refl (by omega) (fun O' t' => ⟨zU A 185 0 0, ?_, zU_at, zFm_u⟩)
    · simp (disch := first | assumption | omega | exact zr_and | exact zr_or | exact zr_xor | exact zr_shl | exact zr_shr | exact zr_ushr | exact zr_byte | exact isHall3 | exact isLaw12) only [i13_0, i13_9, i13_12, i13_14, i13_22, i13_30, i13_38, i13_47, i13_56, i14_0, i14_12, i14_16, i14_17, mB1_i, mB0_i, mB1n_i, mB0n_i, mB1_x, mB0_x, ↓if_pos, ↓if_neg, if_true, if_false, if_pos, if_neg]
    · have e9 : (zU A 185 0 0) 185 9 = A 1 1 := by rw [zU_s (by decide), t2]
      rw [i220_0 (by rw [e9]; omega), e9, if_neg hf, i220_18]
  · generalize hl : A 1 1 = l at t1 t2 t3 hf
    obtain ⟨C, g1, g2, g3, g4, g5⟩ := c_words (d := d + 11) (K := K) (O := O) (t := t) (ar := ar) (A := A) (x1 := x1) (x2 := x2) (x3 := x3) (x4 := x4) (x5 := x5) hl (by omega)
    refine ⟨C, Or.inl ⟨l + 20, ?_, by omega, fun O' t' => ?_⟩⟩
    · have c14 : mGd ar (d + 11) 14 0 [.ref 1, .int (zI 20)] [] (zW K A O t) = some (.inl (some (.int (zI 1))), zW K A O t) := by simp (disch := first | assumption | omega | exact zr_and | exact zr_or | exact zr_xor | exact zr_shl | exact zr_shr | exact zr_ushr | exact zr_byte | exact isHall3 | exact isLaw12) only [i14_0, i14_12, i14_16, i14_17, hl, mB1_i, mB0_i, mB1n_i, mB0n_i, mB1_x, mB0_x, ↓if_pos, ↓if_neg, if_true, if_false, if_pos, if_neg]
      rw [i13_0, c14, mB1_i, i13_9 (by decide), if_neg (by decide), g1]
    · have e9 : (zU C 185 0 0) 185 9 = l := by rw [zU_s (by decide), g3 185 (by decide) (by decide), t2]
      obtain ⟨D, f1, f2, f3, f4, f5, f6⟩ := rfeed_loop (d := d + 12) (K := K) (O := O') (t := t') (ar := ar) (A := zU (zU (zU (zU (zU (zU C 185 0 0) 192 0 x1) 192 1 x2) 192 2 x3) 192 3 x4) 192 4 x5) (x1 := x1) (x2 := x2) (x3 := x3) (x4 := x4) (x5 := x5) (l := l) (by omega) (by simp (disch := first | assumption | omega) only [e9, zU_at, zU_c, zU_s, zU_r]) (fun q q0 q1 => by
        unfold zWd
        by_cases a0 : q = 0
        · rw [if_pos a0, a0]; simp (disch := first | assumption | omega) only [zU_at, zU_c, zU_s, zU_r]
        by_cases a1 : q = 1
        · rw [if_neg a0, if_pos a1, a1]; simp (disch := first | assumption | omega) only [zU_at, zU_c, zU_s, zU_r]
        by_cases a2 : q = 2
        · rw [if_neg a0, if_neg a1, if_pos a2, a2]; simp (disch := first | assumption | omega) only [zU_at, zU_c, zU_s, zU_r]
        by_cases a3 : q = 3
        · rw [if_neg a0, if_neg a1, if_neg a2, if_pos a3, a3]; simp (disch := first | assumption | omega) only [zU_at, zU_c, zU_s, zU_r]
        rw [if_neg a0, if_neg a1, if_neg a2, if_neg a3, show q = 4 by omega]; simp (disch := first | assumption | omega) only [zU_at, zU_c, zU_s, zU_r]) (fun q => zWd_r h1 h2 h3 h4 h5) 20 0 _ (by omega) (by omega) (fun _ _ => rfl) (fun _ _ => rfl) (fun r r0 r1 => by omega)
      have s : ∀ c, c ≠ 1 → c ≠ 2 → c ≠ 185 → c ≠ 191 → c ≠ 192 → D c = A c := fun c c1 c2 c3 c4 c5 => by
        rw [f4 c c3 c4, zU_r c5, zU_r c5, zU_r c5, zU_r c5, zU_r c5, zU_r c3, g3 c c1 c2]
      have s12 : ∀ c, c = 1 ∨ c = 2 → D c = C c := fun c hc => by
        rw [f4 c (by omega) (by omega), zU_r (by omega), zU_r (by omega), zU_r (by omega), zU_r (by omega), zU_r (by omega), zU_r (by omega)]
      have s5 : ∀ j, j ≠ 9 → j ≠ 0 → D 185 j = A 185 j := fun j j1 j2 => by
        rw [f3 j j1, zU_r (by decide), zU_r (by decide), zU_r (by decide), zU_r (by decide), zU_r (by decide), zU_s j2, g3 185 (by decide) (by decide)]
      refine ⟨D, ?_, by rw [f3 0 (by decide)]; simp (disch := first | assumption | omega) only [zU_at, zU_c, zU_s, zU_r], zInv_tape hI ?_ s (fun j hj => s5 j (by omega) (by omega))⟩
      · rw [i220_0 (by rw [e9]; omega), e9, if_pos (by omega), i220_20, f1]
      · unfold zTp
        rw [s12 1 (by omega), s12 2 (by omega), g2, f2]
        refine ⟨by omega, rfl, fun i i0 i1 => ?_⟩
        by_cases hi : i < l
        · rw [g4 i hi, f5 i hi]
          have e : ∀ B : Nat → Int → Int, B 191 = A 191 → B 191 i = zSb (A 2 i) := fun B e => by rw [e]; exact (t3 i i0 hi).2
          refine ⟨(t3 i i0 hi).1, ?_⟩
          rw [zU_r (by decide), zU_r (by decide), zU_r (by decide), zU_r (by decide), zU_r (by decide), zU_r (by decide), g3 191 (by decide) (by decide)]
          exact (t3 i i0 hi).2
        · have a := g5 (i - l) (by omega) (by omega)
          have b := f6 (i - l) (by omega) (by omega)
          rw [show l + (i - l) = i by omega] at a b
          rw [a, b]
          exact ⟨(zf_bt (zWd_r h1 h2 h3 h4 h5) (by omega)).1, rfl⟩
end FEED
