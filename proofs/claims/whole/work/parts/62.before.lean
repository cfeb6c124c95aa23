/-! CALLS, 10: before -/
/-- the first for which it holds -/
def zFind (c : Int → Bool) : Int → Nat → Int → Int
  | _, 0, b => b
  | p, m + 1, b => if c p = true then p else zFind c (p + 1) m b
theorem zFind_right {c : Int → Bool} : ∀ {m : Nat} {p b : Int}, zFind c p (m + 1) b = zFind c p m (if c (p + m) = true then p + m else b)
  | 0, p, b => by show (if c p = true then p else b) = if c (p + ((0 : Nat) : Int)) = true then p + ((0 : Nat) : Int) else b; simp
  | m + 1, p, b => by
    show (if c p = true then p else zFind c (p + 1) (m + 1) b) = if c p = true then p else zFind c (p + 1) m _
    rw [zFind_right, show p + 1 + (m : Int) = p + ((m + 1 : Nat) : Int) by omega]
theorem zFind_rng {c : Int → Bool} : ∀ {m : Nat} {p b : Int}, -1 ≤ p → p + m ≤ 100 → (-1 ≤ b ∧ b < 100) → -1 ≤ zFind c p m b ∧ zFind c p m b < 100
  | 0, _, _, _, _, h => h
  | m + 1, p, b, h1, h2, h => by
    show -1 ≤ (if c p = true then p else _) ∧ (if c p = true then p else _) < 100
    split
    · omega
    · exact zFind_rng (by omega) (by omega) h
section BEFORE
variable {ar : Nat → Nat × (Nat → Int32)} {d t : Nat} {K : Nat → Nat → Option Nat} {A : Nat → Int → Int} {O : Nat → Int64}
theorem q_before {p k v s : Int} (hI : zInv A) (h_p : -2147483648 ≤ p ∧ p < 2147483648) (h_k : -2147483648 ≤ k ∧ k < 2147483648) (h_v : -2147483648 ≤ v ∧ v < 2147483648) (hs : s = 0 ∨ s = 1) : zQ ar K O t (d + 12) 167 [.ref 0, .int (zI p), .int (zI k), .int (zI v), .int (zI s)] 316 [.ref 185, .int (zI p), .int (zI k), .int (zI v), .int (zI s), .double 0, .double 0, .double 0] (fun E => if E = 2 then 1 else if E = 0 then 2 else 0) A := by
  obtain ⟨hw, hr, e0, w0⟩ := zInv_f hI
  have u6 : ∀ v, zU A 185 0 v 186 = A 186 := fun v => zU_r (by decide)
  have M1 : ∀ (B : Nat → Int → Int) (O' : Nat → Int64) (t' : Nat), B 186 = A 186 → mGd ar (d + 11) 255 0 [.ref 185, .int (zI p)] [] (zW K B O' t') = some (.inl (some (.int (zI (if 0 ≤ p ∧ p < A 186 0 then 0 else 1)))), zW K B O' t') := fun B O' t' e => by rw [← e]; exact c_noPerson (d := (d + 10)) h_p (by rw [e]; exact w0)
  have M2 : ∀ (B : Nat → Int → Int) (O' : Nat → Int64) (t' : Nat), B 186 = A 186 → mGd ar (d + 11) 257 0 [.int (zI k)] [] (zW K B O' t') = some (.inl (some (.int (zI (if 0 ≤ k ∧ k < 4 then 0 else 1)))), zW K B O' t') := fun B O' t' e => c_noKind (d := (d + 10)) h_k
  have M3 : ∀ (B : Nat → Int → Int) (O' : Nat → Int64) (t' : Nat), B 186 = A 186 → mGd ar (d + 11) 277 0 [.int (zI v)] [] (zW K B O' t') = some (.inl (some (.int (zI (if 0 ≤ v ∧ v ≤ 99 then 0 else 1)))), zW K B O' t') := fun B O' t' e => c_noNumber (d := (d + 10)) h_v
  by_cases g1 : 0 ≤ p ∧ p < A 186 0
  case neg =>
    have k1 := c_nPersonX (d := (d + 11)) (K := K) (O := O) (t := t) (ar := ar) (A := A) (p := p) h_p (by omega) (by omega)
    refine zQ_ex (E := 2) hI ?_ (by decide) (fun O' t' => ⟨0, zU A 185 0 1, ?_, zU_at, zFm_u⟩)
    · simp (disch := first | assumption | omega | exact zr_and | exact zr_or | exact zr_xor | exact zr_shl | exact zr_shr | exact zr_ushr | exact zr_byte | exact isHall3 | exact isLaw12) only [i167_0, i167_5, i167_10, i167_18, i167_23, i167_33, i167_36, i167_46, k1, mB1_i, mB0_i, mB1n_i, mB0n_i, mB1_x, mB0_x, ↓if_pos, ↓if_neg, if_true, if_false, if_pos, if_neg]
    · have n1 := M1 (zU A 185 0 0) O' t' (u6 0)
      rw [if_neg (by omega)] at n1
      simp (disch := first | assumption | omega | exact zr_and | exact zr_or | exact zr_xor | exact zr_shl | exact zr_shr | exact zr_ushr | exact zr_byte | exact isHall3 | exact isLaw12) only [i316_0, i316_11, i316_14, i316_18, i316_21, i316_25, i316_26, i316_30, i316_33, i316_38, i316_42, i316_45, i316_47, i316_52, i316_62, i316_67, i316_75, i316_79, i316_82, i316_89, i316_95, i316_100, i316_105, i316_107, n1, c_thr0, c_thr1, zU_uu, i233_0, zU_c, mB1_i, mB0_i, mB1n_i, mB0n_i, mB1_x, mB0_x, ↓if_pos, ↓if_neg, if_true, if_false, if_pos, if_neg]
  have k1 := c_nPerson (d := (d + 11)) (K := K) (O := O) (t := t) (ar := ar) (A := A) (p := p) (by omega) (by omega)
  have m1 : ∀ (B : Nat → Int → Int) (O' : Nat → Int64) (t' : Nat), B 186 = A 186 → mGd ar (d + 11) 255 0 [.ref 185, .int (zI p)] [] (zW K B O' t') = some (.inl (some (.int (zI 0))), zW K B O' t') := fun B O' t' e => by have q := M1 B O' t' e; rwa [if_pos (by omega)] at q
  by_cases g2 : 0 ≤ k ∧ k < 4
  case neg =>
    have k2 := c_nKindX (d := (d + 11)) (K := K) (O := O) (t := t) (ar := ar) (A := A) (p := k) h_k g2
    refine zQ_ex (E := 2) hI ?_ (by decide) (fun O' t' => ⟨0, zU A 185 0 1, ?_, zU_at, zFm_u⟩)
    · simp (disch := first | assumption | omega | exact zr_and | exact zr_or | exact zr_xor | exact zr_shl | exact zr_shr | exact zr_ushr | exact zr_byte | exact isHall3 | exact isLaw12) only [i167_0, i167_5, i167_10, i167_18, i167_23, i167_33, i167_36, i167_46, k1, k2, mB1_i, mB0_i, mB1n_i, mB0n_i, mB1_x, mB0_x, ↓if_pos, ↓if_neg, if_true, if_false, if_pos, if_neg]
    · have n1 := M1 (zU A 185 0 0) O' t' (u6 0)
      rw [if_pos (by omega)] at n1
      have n2 := M2 (zU A 185 0 0) O' t' (u6 0)
      rw [if_neg (by omega)] at n2
      simp (disch := first | assumption | omega | exact zr_and | exact zr_or | exact zr_xor | exact zr_shl | exact zr_shr | exact zr_ushr | exact zr_byte | exact isHall3 | exact isLaw12) only [i316_0, i316_11, i316_14, i316_18, i316_21, i316_25, i316_26, i316_30, i316_33, i316_38, i316_42, i316_45, i316_47, i316_52, i316_62, i316_67, i316_75, i316_79, i316_82, i316_89, i316_95, i316_100, i316_105, i316_107, n1, n2, c_thr0, c_thr1, zU_uu, i233_0, zU_c, mB1_i, mB0_i, mB1n_i, mB0n_i, mB1_x, mB0_x, ↓if_pos, ↓if_neg, if_true, if_false, if_pos, if_neg]
  have k2 := c_nKind (d := (d + 11)) (K := K) (O := O) (t := t) (ar := ar) (A := A) (p := k) g2
  have m2 : ∀ (B : Nat → Int → Int) (O' : Nat → Int64) (t' : Nat), B 186 = A 186 → mGd ar (d + 11) 257 0 [.int (zI k)] [] (zW K B O' t') = some (.inl (some (.int (zI 0))), zW K B O' t') := fun B O' t' e => by have q := M2 B O' t' e; rwa [if_pos (by omega)] at q
  by_cases g3 : 0 ≤ v ∧ v ≤ 99
  case neg =>
    have k3 := c_nNumberX (d := (d + 11)) (K := K) (O := O) (t := t) (ar := ar) (A := A) (p := v) (x := 0) (y := 99) h_v g3 (by decide)
    refine zQ_ex (E := 0) hI ?_ (by decide) (fun O' t' => ⟨0, zU A 185 0 2, ?_, zU_at, zFm_u⟩)
    · simp (disch := first | assumption | omega | exact zr_and | exact zr_or | exact zr_xor | exact zr_shl | exact zr_shr | exact zr_ushr | exact zr_byte | exact isHall3 | exact isLaw12) only [i167_0, i167_5, i167_10, i167_18, i167_23, i167_33, i167_36, i167_46, k1, k2, k3, mB1_i, mB0_i, mB1n_i, mB0n_i, mB1_x, mB0_x, ↓if_pos, ↓if_neg, if_true, if_false, if_pos, if_neg]
    · have n1 := M1 (zU A 185 0 0) O' t' (u6 0)
      rw [if_pos (by omega)] at n1
      have n2 := M2 (zU A 185 0 0) O' t' (u6 0)
      rw [if_pos (by omega)] at n2
      have n3 := M3 (zU A 185 0 0) O' t' (u6 0)
      rw [if_neg (by omega)] at n3
      simp (disch := first | assumption | omega | exact zr_and | exact zr_or | exact zr_xor | exact zr_shl | exact zr_shr | exact zr_ushr | exact zr_byte | exact isHall3 | exact isLaw12) only [i316_0, i316_11, i316_14, i316_18, i316_21, i316_25, i316_26, i316_30, i316_33, i316_38, i316_42, i316_45, i316_47, i316_52, i316_62, i316_67, i316_75, i316_79, i316_82, i316_89, i316_95, i316_100, i316_105, i316_107, n1, n2, n3, c_thr0, c_thr1, zU_uu, i233_0, zU_c, mB1_i, mB0_i, mB1n_i, mB0n_i, mB1_x, mB0_x, ↓if_pos, ↓if_neg, if_true, if_false, if_pos, if_neg]
  have k3 := c_nNumber (d := (d + 11)) (K := K) (O := O) (t := t) (ar := ar) (A := A) (p := v) (x := 0) (y := 99) g3 (by decide)
  have m3 : ∀ (B : Nat → Int → Int) (O' : Nat → Int64) (t' : Nat), B 186 = A 186 → mGd ar (d + 11) 277 0 [.int (zI v)] [] (zW K B O' t') = some (.inl (some (.int (zI 0))), zW K B O' t') := fun B O' t' e => by have q := M3 B O' t' e; rwa [if_pos (by omega)] at q
  have mr : ∀ x, 0 ≤ x → x ≤ 99 → 0 ≤ zMd (A 186) k p 0 x ∧ zMd (A 186) k p 0 x ≤ 99 := fun x v0 v1 => zMd_rng hw g2 g1 ⟨v0, v1⟩ (by decide)
  obtain ⟨B0, b1, b2⟩ := c_fillWo (d := d + 8) (K := K) (O := O) (t := t) (ar := ar) hI g2 g1 (B := A) (fun _ _ _ => rfl)
  have step : ∀ (x : Int) (B : Nat → Int → Int), 0 ≤ x → x ≤ 99 → zBo A k p B → ∃ B2, mGd ar (d + 10) 149 0 [.ref 181, .int (zI x), .int (zI 1), .int (zI 0), .double 0] [] (zW K B O t) = some (.inl (some (.int (zI (zMd (A 186) k p 0 x)))), zW K B2 O t) ∧ zBo A k p B2 := fun x B x0 x1 hB => by
    obtain ⟨B2, d1, d2⟩ := c_midWith (d := d + 8) (K := K) (O := O) (t := t) (ar := ar) hI g2 g1 (v := x) (w := 1) (r := 0) ⟨x0, x1⟩ (by decide) (by decide) hB
    rw [zMid_w (w' := A 186 (15 + 6 * p + 4))] at d1
    exact ⟨B2, d1, d2⟩
  have l1 : ∀ (m : Nat) (x : Int) (B : Nat → Int → Int), x + m = 100 → 0 ≤ x → zBo A k p B → ∃ B', mGd ar (d + 11) 168 9 [.ref 181, .int (zI p), .int (zI k), .int (zI v), .int (zI x)] [] (zW K B O t) = some (.inl (some (.int (zI (zFind (fun x => decide (zMd (A 186) k p 0 x = v)) x m (-1))))), zW K B' O t) ∧ zBo A k p B' := by
    intro m
    induction m with
    | zero =>
      intro x B hx x0 hB
      refine ⟨B, ?_, hB⟩
      simp (disch := first | assumption | omega | exact zr_and | exact zr_or | exact zr_xor | exact zr_shl | exact zr_shr | exact zr_ushr | exact zr_byte | exact isHall3 | exact isLaw12) only [i168_9, i168_37, mB1_i, mB0_i, mB1n_i, mB0n_i, mB1_x, mB0_x, ↓if_pos, ↓if_neg, if_true, if_false, if_pos, if_neg]
      rfl
    | succ m ih =>
      intro x B hx x0 hB
      obtain ⟨B2, d1, d2⟩ := step x B x0 (by omega) hB
      have r := mr x x0 (by omega)
      rw [show zFind (fun x => decide (zMd (A 186) k p 0 x = v)) x (m + 1) (-1) = if decide (zMd (A 186) k p 0 x = v) = true then x else zFind (fun x => decide (zMd (A 186) k p 0 x = v)) (x + 1) m (-1) from rfl]
      by_cases hc : zMd (A 186) k p 0 x = v
      · refine ⟨B2, ?_, d2⟩
        rw [if_pos (decide_eq_true hc), i168_9 (by omega)]
        simp (disch := first | assumption | omega | exact zr_and | exact zr_or | exact zr_xor | exact zr_shl | exact zr_shr | exact zr_ushr | exact zr_byte | exact isHall3 | exact isLaw12) only [i168_6, i168_16, i168_24, i168_28, i168_31, i168_37, d1, mB1_i, mB0_i, mB1n_i, mB0n_i, mB1_x, mB0_x, ↓if_pos, ↓if_neg, if_true, if_false, if_pos, if_neg]
      · obtain ⟨B', q1, q2⟩ := ih (x + 1) B2 (by omega) (by omega) d2
        refine ⟨B', ?_, q2⟩
        rw [if_neg (by simp [hc]), ← q1, i168_9 (by omega)]
        simp (disch := first | assumption | omega | exact zr_and | exact zr_or | exact zr_xor | exact zr_shl | exact zr_shr | exact zr_ushr | exact zr_byte | exact isHall3 | exact isLaw12) only [i168_6, i168_16, i168_24, i168_28, i168_31, i168_37, d1, mB1_i, mB0_i, mB1n_i, mB0n_i, mB1_x, mB0_x, ↓if_pos, ↓if_neg, if_true, if_false, if_pos, if_neg]
  have l2 : ∀ (m : Nat) (x n : Int) (B : Nat → Int → Int), x + m = 100 → 0 ≤ x → zBo A k p B → ∃ B', mGd ar (d + 11) 169 12 [.ref 181, .int (zI p), .int (zI k), .int (zI v), .int (zI n), .int (zI x)] [] (zW K B O t) = some (.inl (some (.int (zI (n + zSm (fun x => if zMd (A 186) k p 0 x = v then 1 else 0) x m)))), zW K B' O t) ∧ zBo A k p B' := by
    intro m
    induction m with
    | zero =>
      intro x n B hx x0 hB
      refine ⟨B, ?_, hB⟩
      rw [show n + zSm (fun x => if zMd (A 186) k p 0 x = v then 1 else 0) x 0 = n from Int.add_zero _]
      simp (disch := first | assumption | omega | exact zr_and | exact zr_or | exact zr_xor | exact zr_shl | exact zr_shr | exact zr_ushr | exact zr_byte | exact isHall3 | exact isLaw12) only [i169_12, i169_40, mB1_i, mB0_i, mB1n_i, mB0n_i, mB1_x, mB0_x, ↓if_pos, ↓if_neg, if_true, if_false, if_pos, if_neg]
    | succ m ih =>
      intro x n B hx x0 hB
      obtain ⟨B2, d1, d2⟩ := step x B x0 (by omega) hB
      have r := mr x x0 (by omega)
      rw [show n + zSm (fun x => if zMd (A 186) k p 0 x = v then 1 else 0) x (m + 1) = n + (if zMd (A 186) k p 0 x = v then 1 else 0) + zSm (fun x => if zMd (A 186) k p 0 x = v then 1 else 0) (x + 1) m from (Int.add_assoc _ _ _).symm]
      by_cases hc : zMd (A 186) k p 0 x = v
      · obtain ⟨B', q1, q2⟩ := ih (x + 1) (n + 1) B2 (by omega) (by omega) d2
        refine ⟨B', ?_, q2⟩
        rw [if_pos hc, ← q1, i169_12 (by omega)]
        simp (disch := first | assumption | omega | exact zr_and | exact zr_or | exact zr_xor | exact zr_shl | exact zr_shr | exact zr_ushr | exact zr_byte | exact isHall3 | exact isLaw12) only [i169_6, i169_19, i169_27, i169_31, i169_34, i169_40, d1, mB1_i, mB0_i, mB1n_i, mB0n_i, mB1_x, mB0_x, ↓if_pos, ↓if_neg, if_true, if_false, if_pos, if_neg]
      · obtain ⟨B', q1, q2⟩ := ih (x + 1) n B2 (by omega) (by omega) d2
        refine ⟨B', ?_, q2⟩
        rw [if_neg hc, Int.add_zero, ← q1, i169_12 (by omega)]
        simp (disch := first | assumption | omega | exact zr_and | exact zr_or | exact zr_xor | exact zr_shl | exact zr_shr | exact zr_ushr | exact zr_byte | exact isHall3 | exact isLaw12) only [i169_6, i169_19, i169_27, i169_31, i169_34, i169_40, d1, mB1_i, mB0_i, mB1n_i, mB0n_i, mB1_x, mB0_x, ↓if_pos, ↓if_neg, if_true, if_false, if_pos, if_neg]
  -- the reference
  have ref : ∀ (B' : Nat → Int → Int), zBo A k p B' → ∀ (O' : Nat → Int64) (t' : Nat), ∃ A2, mGd ar (d + 12) 316 0 [.ref 185, .int (zI p), .int (zI k), .int (zI v), .int (zI s), .double 0, .double 0, .double 0] [] (zW K B' O' t') = some (.inl (some (.int (zI (if s = 0 then zSm (fun x => if zMd (A 186) k p 0 x = v then 1 else 0) 0 100 else zFind (fun x => decide (zMd (A 186) k p 0 x = v)) 0 100 (-1))))), zW K A2 O' t') ∧ A2 185 0 = 0 ∧ zFm B' A2 := fun B' hB' O' t' => by
    have u7 : zU B' 185 0 0 186 = A 186 := by rw [zU_r (by decide), zFc_186 (zBo_fc hB')]
    have n1 := m1 (zU B' 185 0 0) O' t' u7
    have n2 := m2 (zU B' 185 0 0) O' t' u7
    have n3 := m3 (zU B' 185 0 0) O' t' u7
    obtain ⟨A2, s1, s2, s3, s4, s5, s6, s7⟩ := c_laidAll (d := d + 9) (K := K) (O := O') (t := t') (ar := ar) (B := zU B' 185 0 0) hw u7 g2
    have l3 : ∀ (m : Nat) (x n f : Int) (B : Nat → Int → Int), x + 1 = m → x ≤ 99 → zFr A2 B → zLd (A 186) k B → ∃ C, mGd ar (d + 12) 316 62 [.ref 185, .int (zI p), .int (zI k), .int (zI v), .int (zI s), .int (zI n), .int (zI f), .int (zI x)] [] (zW K B O' t') = some (.inl (some (.int (zI (if s = 0 then n + zSm (fun x => if zMd (A 186) k p 0 x = v then 1 else 0) 0 m else zFind (fun x => decide (zMd (A 186) k p 0 x = v)) 0 m f)))), zW K C O' t') ∧ zFr A2 C := by
      intro m
      induction m with
      | zero =>
        intro x n f B hx x9 hf hB
        refine ⟨B, ?_, hf⟩
        rw [show n + zSm (fun x => if zMd (A 186) k p 0 x = v then 1 else 0) 0 0 = n from Int.add_zero _, show zFind (fun x => decide (zMd (A 186) k p 0 x = v)) 0 0 f = f from rfl]
        rcases hs with rfl | rfl
        · simp (disch := first | assumption | omega | exact zr_and | exact zr_or | exact zr_xor | exact zr_shl | exact zr_shr | exact zr_ushr | exact zr_byte | exact isHall3 | exact isLaw12) only [i316_62, i316_11, i316_14, i316_18, i316_21, i316_25, i316_26, i316_30, i316_33, i316_38, i316_42, i316_45, i316_47, i316_52, i316_67, i316_75, i316_79, i316_82, i316_89, i316_95, i316_100, i316_105, i316_107, mB1_i, mB0_i, mB1n_i, mB0n_i, mB1_x, mB0_x, ↓if_pos, ↓if_neg, if_true, if_false, if_pos, if_neg]
        · simp (disch := first | assumption | omega | exact zr_and | exact zr_or | exact zr_xor | exact zr_shl | exact zr_shr | exact zr_ushr | exact zr_byte | exact isHall3 | exact isLaw12) only [i316_62, i316_11, i316_14, i316_18, i316_21, i316_25, i316_26, i316_30, i316_33, i316_38, i316_42, i316_45, i316_47, i316_52, i316_67, i316_75, i316_79, i316_82, i316_89, i316_95, i316_100, i316_105, i316_107, mB1_i, mB0_i, mB1n_i, mB0n_i, mB1_x, mB0_x, ↓if_pos, ↓if_neg, if_true, if_false, if_pos, if_neg]
      | succ m ih =>
        intro x n f B hx x9 hf hB
        obtain ⟨C1, d1, d2, d3⟩ := c_midBy (d := d + 7) (K := K) (O := O') (t := t') (ar := ar) hw g2 g1 (v := x) (r := 0) (by omega) (by decide) hB
        have r := mr x (by omega) (by omega)
        have hf1 : zFr A2 C1 := ⟨fun j hj => by rw [d2.1 j hj, hf.1 j hj], fun c c1 c2 => by rw [d2.2 c c1 c2, hf.2 c c1 c2]⟩
        rw [zSm_right, zFind_right, show (0 : Int) + (m : Int) = x by omega]
        by_cases hc : zMd (A 186) k p 0 x = v
        · obtain ⟨C, q1, q2⟩ := ih (x + -1) (n + 1) x C1 (by omega) (by omega) hf1 d3
          refine ⟨C, ?_, q2⟩
          rw [if_pos hc, if_pos (decide_eq_true hc), ← Int.add_assoc, show ∀ z : Int, n + z + 1 = n + 1 + z from fun z => by omega, ← q1, i316_62 (by omega)]
          simp (disch := first | assumption | omega | exact zr_and | exact zr_or | exact zr_xor | exact zr_shl | exact zr_shr | exact zr_ushr | exact zr_byte | exact isHall3 | exact isLaw12) only [i316_11, i316_14, i316_18, i316_21, i316_25, i316_26, i316_30, i316_33, i316_38, i316_42, i316_45, i316_47, i316_52, i316_67, i316_75, i316_79, i316_82, i316_89, i316_95, i316_100, i316_105, i316_107, d1, mB1_i, mB0_i, mB1n_i, mB0n_i, mB1_x, mB0_x, ↓if_pos, ↓if_neg, if_true, if_false, if_pos, if_neg]
        · obtain ⟨C, q1, q2⟩ := ih (x + -1) n f C1 (by omega) (by omega) hf1 d3
          refine ⟨C, ?_, q2⟩
          rw [if_neg hc, if_neg (show ¬ decide (zMd (A 186) k p 0 x = v) = true by simp [hc]), Int.add_zero, ← q1, i316_62 (by omega)]
          simp (disch := first | assumption | omega | exact zr_and | exact zr_or | exact zr_xor | exact zr_shl | exact zr_shr | exact zr_ushr | exact zr_byte | exact isHall3 | exact isLaw12) only [i316_11, i316_14, i316_18, i316_21, i316_25, i316_26, i316_30, i316_33, i316_38, i316_42, i316_45, i316_47, i316_52, i316_67, i316_75, i316_79, i316_82, i316_89, i316_95, i316_100, i316_105, i316_107, d1, mB1_i, mB0_i, mB1n_i, mB0n_i, mB1_x, mB0_x, ↓if_pos, ↓if_neg, if_true, if_false, if_pos, if_neg]
    obtain ⟨A3, p1, p2⟩ := l3 100 99 0 (-1) A2 (by omega) (by omega) zFr_refl ⟨s3, s4, s7⟩
    rw [Int.zero_add] at p1
    have hz := zFm_0 (A := B') (A' := A3) (zFt_trans s2 (zFt_fr p2))
    refine ⟨A3, ?_, hz.1, hz.2⟩
    rw [← p1]
    simp (disch := first | assumption | omega | exact zr_and | exact zr_or | exact zr_xor | exact zr_shl | exact zr_shr | exact zr_ushr | exact zr_byte | exact isHall3 | exact isLaw12) only [i316_0, i316_11, i316_14, i316_18, i316_21, i316_25, i316_26, i316_30, i316_33, i316_38, i316_42, i316_45, i316_47, i316_52, i316_67, i316_75, i316_79, i316_82, i316_89, i316_95, i316_100, i316_105, i316_107, n1, n2, n3, c_thr0, s1, mB1_i, mB0_i, mB1n_i, mB0n_i, mB1_x, mB0_x, ↓if_pos, ↓if_neg, if_true, if_false, if_pos, if_neg]
  rcases hs with rfl | rfl
  · obtain ⟨B', q1, q2⟩ := l2 100 0 0 B0 (by omega) (by omega) b2
    rw [Int.zero_add] at q1
    have hv := zSm_rng (f := fun x => if zMd (A 186) k p 0 x = v then 1 else 0) (c := 1) (m := 100) (p := 0) (fun i _ _ => by split <;> omega)
    refine zQ_ok (b := zSm (fun x => if zMd (A 186) k p 0 x = v then 1 else 0) 0 100) (A1 := B') hI ?_ (zBo_fc q2) (by omega) (fun O' t' => ?_)
    · simp (disch := first | assumption | omega | exact zr_and | exact zr_or | exact zr_xor | exact zr_shl | exact zr_shr | exact zr_ushr | exact zr_byte | exact isHall3 | exact isLaw12) only [i167_0, i167_5, i167_10, i167_18, i167_23, i167_33, i167_36, i167_46, k1, k2, k3, i169_0, i169_6, i169_19, i169_27, i169_31, i169_34, i169_40, b1, q1, mB1_i, mB0_i, mB1n_i, mB0n_i, mB1_x, mB0_x, ↓if_pos, ↓if_neg, if_true, if_false, if_pos, if_neg]
    · obtain ⟨A2, r1, r2⟩ := ref B' q2 O' t'
      rw [if_pos rfl] at r1
      exact ⟨A2, r1, r2⟩
  · obtain ⟨B', q1, q2⟩ := l1 100 0 B0 (by omega) (by omega) b2
    have hv := zFind_rng (c := fun x => decide (zMd (A 186) k p 0 x = v)) (m := 100) (p := 0) (b := -1) (by omega) (by omega) (by decide)
    refine zQ_ok (b := zFind (fun x => decide (zMd (A 186) k p 0 x = v)) 0 100 (-1)) (A1 := B') hI ?_ (zBo_fc q2) (by omega) (fun O' t' => ?_)
    · simp (disch := first | assumption | omega | exact zr_and | exact zr_or | exact zr_xor | exact zr_shl | exact zr_shr | exact zr_ushr | exact zr_byte | exact isHall3 | exact isLaw12) only [i167_0, i167_5, i167_10, i167_18, i167_23, i167_33, i167_36, i167_46, k1, k2, k3, i168_0, i168_6, i168_16, i168_24, i168_28, i168_31, i168_37, b1, q1, mB1_i, mB0_i, mB1n_i, mB0n_i, mB1_x, mB0_x, ↓if_pos, ↓if_neg, if_true, if_false, if_pos, if_neg]
    · obtain ⟨A2, r1, r2⟩ := ref B' q2 O' t'
      rw [if_neg (by decide)] at r1
      exact ⟨A2, r1, r2⟩
end BEFORE
