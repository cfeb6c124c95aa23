/-! CALLS, 9: sham, gainers, honest, before -/
section SHAM3
variable {ar : Nat → Nat × (Nat → Int32)} {d t : Nat} {K : Nat → Nat → Option Nat} {A : Nat → Int → Int} {O : Nat → Int64}
theorem c_bestOf {p k r : Int} (hI : zInv A) (hp : 0 ≤ p ∧ p < A 186 0) (hk : 0 ≤ k ∧ k < 4) (hr5 : 0 ≤ r ∧ r ≤ 5) {B : Nat → Int → Int} (hB : ∀ c, c ≠ 173 → c ≠ 174 → B c = A c) : ∃ B', mGd ar (d + 3) 153 0 [.ref 181, .int (zI p), .int (zI k), .int (zI r), .double 0, .double 0, .double 0, .double 0, .double 0, .double 0] [] (zW K B O t) = some (.inl (some (.int (zI (zSham (A 186) k p r)))), zW K B' O t) ∧ ∀ c, c ≠ 173 → c ≠ 174 → B' c = A c := by
  obtain ⟨hw, hr, e0, w0⟩ := zInv_f hI
  have ww := hw.2.2.2.2.2.2.2.2.1 p hp.1 hp.2
  have rw' := hr.2.2.2.2.2.2.2.2.1 p hp.1 hp.2
  have wn := hw.2.2.2.2.2.2.2.1 p k hp.1 hp.2 hk.1 hk.2
  have rn := hr.2.2.2.2.2.2.2.1 p k hp.1 hp.2 hk.1 hk.2
  obtain ⟨B0, b1, b2⟩ := c_fillWo (d := d) (K := K) (O := O) (t := t) (ar := ar) hI hk hp (B := B) hB
  obtain ⟨B1, c1, c2⟩ := c_midWith (d := d) (K := K) (O := O) (t := t) (ar := ar) hI hk hp (v := A 186 (15 + 6 * p + k)) (w := A 186 (15 + 6 * p + 4)) (r := r) wn ww hr5 b2
  have md := fun v (v0 : 0 ≤ v) (v1 : v ≤ 99) => zMd_rng hw hk hp (v := v) (r := r) ⟨v0, v1⟩ hr5
  have of := fun v (v0 : 0 ≤ v) (v1 : v ≤ 99) => zOff_rng hw hk hp (v := v) (r := r) ⟨v0, v1⟩ hr5
  have l1 : ∀ (m : Nat) (v be le : Int) (C : Nat → Int → Int) (u : Value), v + m = 100 → 0 ≤ v → (0 ≤ le ∧ le ≤ 99) → zBo A k p C → ∃ C', mGd ar (d + 3) 153 51 [.ref 181, .int (zI p), .int (zI k), .int (zI r), .int (zI (A 186 (15 + 6 * p + 4))), .int (zI (A 186 (15 + 6 * p + k))), .int (zI le), .int (zI be), .int (zI v), u] [] (zW K C O t) = some (.inl (some (.int (zI (zSh (zOff (A 186) k p r) v m be le)))), zW K C' O t) ∧ zBo A k p C' := by
    intro m
    induction m with
    | zero =>
      intro v be le C u hv v0 hl hC
      refine ⟨C, ?_, hC⟩
      simp (disch := first | assumption | omega | exact zr_and | exact zr_or | exact zr_xor | exact zr_shl | exact zr_shr | exact zr_ushr | exact zr_byte | exact isHall3 | exact isLaw12) only [i153_51, i153_101, mB1_i, mB0_i, mB1n_i, mB0n_i, mB1_x, mB0_x, ↓if_pos, ↓if_neg, if_true, if_false, if_pos, if_neg]
      rfl
    | succ m ih =>
      intro v be le C u hv v0 hl hC
      by_cases hl0 : le = 0
      · refine ⟨C, ?_, hC⟩
        rw [hl0, zSh_0 (fun i i1 i2 => (of i (by omega) (by omega)).1)]
        simp (disch := first | assumption | omega | exact zr_and | exact zr_or | exact zr_xor | exact zr_shl | exact zr_shr | exact zr_ushr | exact zr_byte | exact isHall3 | exact isLaw12) only [i153_51, i153_58, i153_101, mB1_i, mB0_i, mB1n_i, mB0n_i, mB1_x, mB0_x, ↓if_pos, ↓if_neg, if_true, if_false, if_pos, if_neg]
      · obtain ⟨C1, d1, d2⟩ := c_midWith (d := d) (K := K) (O := O) (t := t) (ar := ar) hI hk hp (v := v) (w := A 186 (15 + 6 * p + 4)) (r := r) (by omega) ww hr5 hC
        have d1' : mGd ar (d + 2) 149 0 [.ref 181, .int (zI v), .int (zI (A 186 (15 + 6 * p + 4))), .int (zI r), .double 0] [] (zW K C O t) = some (.inl (some (.int (zI (zMd (A 186) k p r v)))), zW K C1 O t) := d1
        have rm := md v v0 (by omega)
        have ro := of v v0 (by omega)
        have ca := c_abs (d := d + 2) (K := K) (O := O) (t := t) (ar := ar) (A := C1) (x := zMd (A 186) k p r v - A 186 (15 + 6 * p + k)) (by omega)
        have ca' : mGd ar (d + 2) 36 0 [.int (zI (zMd (A 186) k p r v - A 186 (15 + 6 * p + k)))] [] (zW K C1 O t) = some (.inl (some (.int (zI (zOff (A 186) k p r v)))), zW K C1 O t) := ca
        rw [show zSh (zOff (A 186) k p r) v (m + 1) be le = if zOff (A 186) k p r v < le then zSh (zOff (A 186) k p r) (v + 1) m v (zOff (A 186) k p r v) else zSh (zOff (A 186) k p r) (v + 1) m be le from rfl]
        by_cases hc : zOff (A 186) k p r v < le
        · obtain ⟨C', q1, q2⟩ := ih (v + 1) v (zOff (A 186) k p r v) C1 (.int (zI (zOff (A 186) k p r v))) (by omega) (by omega) ro d2
          refine ⟨C', ?_, q2⟩
          rw [if_pos hc, ← q1, i153_51 (by omega)]
          simp (disch := first | assumption | omega | exact zr_and | exact zr_or | exact zr_xor | exact zr_shl | exact zr_shr | exact zr_ushr | exact zr_byte | exact isHall3 | exact isLaw12) only [i153_6, i153_26, i153_37, i153_43, i153_58, i153_63, i153_72, i153_78, i153_87, i153_95, i153_101, d1', ca', mB1_i, mB0_i, mB1n_i, mB0n_i, mB1_x, mB0_x, ↓if_pos, ↓if_neg, if_true, if_false, if_pos, if_neg]
        · obtain ⟨C', q1, q2⟩ := ih (v + 1) be le C1 (.int (zI (zOff (A 186) k p r v))) (by omega) (by omega) hl d2
          refine ⟨C', ?_, q2⟩
          rw [if_neg hc, ← q1, i153_51 (by omega)]
          simp (disch := first | assumption | omega | exact zr_and | exact zr_or | exact zr_xor | exact zr_shl | exact zr_shr | exact zr_ushr | exact zr_byte | exact isHall3 | exact isLaw12) only [i153_6, i153_26, i153_37, i153_43, i153_58, i153_63, i153_72, i153_78, i153_87, i153_95, i153_101, d1', ca', mB1_i, mB0_i, mB1n_i, mB0n_i, mB1_x, mB0_x, ↓if_pos, ↓if_neg, if_true, if_false, if_pos, if_neg]
  have ro := of (A 186 (15 + 6 * p + k)) wn.1 wn.2
  have rm := md (A 186 (15 + 6 * p + k)) wn.1 wn.2
  obtain ⟨C', q1, q2⟩ := l1 100 0 (-1) (zOff (A 186) k p r (A 186 (15 + 6 * p + k))) B1 (.double 0) (by omega) (by omega) ro c2
  have ca := c_abs (d := d + 2) (K := K) (O := O) (t := t) (ar := ar) (A := B1) (x := zMd (A 186) k p r (A 186 (15 + 6 * p + k)) - A 186 (15 + 6 * p + k)) (by omega)
  have ca' : mGd ar (d + 2) 36 0 [.int (zI (zMd (A 186) k p r (A 186 (15 + 6 * p + k)) - A 186 (15 + 6 * p + k)))] [] (zW K B1 O t) = some (.inl (some (.int (zI (zOff (A 186) k p r (A 186 (15 + 6 * p + k)))))), zW K B1 O t) := ca
  have c1' : mGd ar (d + 2) 149 0 [.ref 181, .int (zI (A 186 (15 + 6 * p + k))), .int (zI (A 186 (15 + 6 * p + 4))), .int (zI r), .double 0] [] (zW K B0 O t) = some (.inl (some (.int (zI (zMd (A 186) k p r (A 186 (15 + 6 * p + k)))))), zW K B1 O t) := c1
  have e5 : B0 5 p = A 186 (15 + 6 * p + 4) := by rw [b2.2 _ (by decide) (by decide)]; exact rw'
  have e4 : B0 4 (p * 4 + k) = A 186 (15 + 6 * p + k) := by rw [b2.2 _ (by decide) (by decide)]; exact rn
  refine ⟨C', ?_, q2.2⟩
  unfold zSham
  rw [← q1]
  simp (disch := first | assumption | omega | exact zr_and | exact zr_or | exact zr_xor | exact zr_shl | exact zr_shr | exact zr_ushr | exact zr_byte | exact isHall3 | exact isLaw12) only [i153_0, i153_6, i153_26, i153_37, i153_43, i153_58, i153_63, i153_72, i153_78, i153_87, i153_95, i153_101, b1, e5, i27_0, e4, c1', ca', mB1_i, mB0_i, mB1n_i, mB0n_i, mB1_x, mB0_x, ↓if_pos, ↓if_neg, if_true, if_false, if_pos, if_neg]
theorem c_shamOf {h : Int → Int} {p k r : Int} (hw : zHW0 h) (hp : 0 ≤ p ∧ p < h 0) (hk : 0 ≤ k ∧ k < 4) (hr5 : 0 ≤ r ∧ r ≤ 5) {B : Nat → Int → Int} (hB : zLd h k B) : ∃ C, mGd ar (d + 5) 310 0 [.ref 185, .int (zI r), .int (zI p), .double 0, .double 0, .double 0, .double 0] [] (zW K B O t) = some (.inl (some (.int (zI (zSham h k p r)))), zW K C O t) ∧ zFr B C ∧ zLd h k C := by
  have w0 := hw.1
  have wn := hw.2.2.2.2.2.2.2.1 p k hp.1 hp.2 hk.1 hk.2
  have of := fun v (v0 : 0 ≤ v) (v1 : v ≤ 99) => zOff_rng hw hk hp (v := v) (r := r) ⟨v0, v1⟩ hr5
  have md := fun v (v0 : 0 ≤ v) (v1 : v ≤ 99) => zMd_rng hw hk hp (v := v) (r := r) ⟨v0, v1⟩ hr5
  have l1 : ∀ (m : Nat) (v be le : Int) (C : Nat → Int → Int) (u : Value), v + m = 100 → 0 ≤ v → (0 ≤ le ∧ le ≤ 99) → zFr B C → zLd h k C → ∃ C', mGd ar (d + 5) 310 26 [.ref 185, .int (zI r), .int (zI p), .int (zI le), .int (zI be), .int (zI v), u] [] (zW K C O t) = some (.inl (some (.int (zI (zSh (zOff h k p r) v m be le)))), zW K C' O t) ∧ zFr B C' ∧ zLd h k C' := by
    intro m
    induction m with
    | zero =>
      intro v be le C u hv v0 hl hf hC
      refine ⟨C, ?_, hf, hC⟩
      simp (disch := first | assumption | omega | exact zr_and | exact zr_or | exact zr_xor | exact zr_shl | exact zr_shr | exact zr_ushr | exact zr_byte | exact isHall3 | exact isLaw12) only [i310_26, i310_75, mB1_i, mB0_i, mB1n_i, mB0n_i, mB1_x, mB0_x, ↓if_pos, ↓if_neg, if_true, if_false, if_pos, if_neg]
      rfl
    | succ m ih =>
      intro v be le C u hv v0 hl hf hC
      obtain ⟨C1, d1, d2, d3⟩ := c_midBy (d := d) (K := K) (O := O) (t := t) (ar := ar) hw hk hp (v := v) (r := r) (by omega) hr5 hC
      have rm := md v v0 (by omega)
      have ro := of v v0 (by omega)
      have e3 : C1 193 p = h (15 + 6 * p + k) := d3.2.2 p hp.1 hp.2
      have ca := c_abs (d := d + 4) (K := K) (O := O) (t := t) (ar := ar) (A := C1) (x := zMd h k p r v - h (15 + 6 * p + k)) (by omega)
      have ca' : mGd ar (d + 4) 36 0 [.int (zI (zMd h k p r v - h (15 + 6 * p + k)))] [] (zW K C1 O t) = some (.inl (some (.int (zI (zOff h k p r v)))), zW K C1 O t) := ca
      have hf1 : zFr B C1 := ⟨fun j hj => by rw [d2.1 j hj, hf.1 j hj], fun c c1 c2 => by rw [d2.2 c c1 c2, hf.2 c c1 c2]⟩
      rw [show zSh (zOff h k p r) v (m + 1) be le = if zOff h k p r v < le then zSh (zOff h k p r) (v + 1) m v (zOff h k p r v) else zSh (zOff h k p r) (v + 1) m be le from rfl]
      by_cases hc : zOff h k p r v < le
      · obtain ⟨C', q1, q2⟩ := ih (v + 1) v (zOff h k p r v) C1 (.int (zI (zOff h k p r v))) (by omega) (by omega) ro hf1 d3
        refine ⟨C', ?_, q2⟩
        rw [if_pos hc, ← q1, i310_26 (by omega)]
        simp (disch := first | assumption | omega | exact zr_and | exact zr_or | exact zr_xor | exact zr_shl | exact zr_shr | exact zr_ushr | exact zr_byte | exact isHall3 | exact isLaw12) only [i310_6, i310_9, i310_19, i310_33, i310_41, i310_51, i310_59, i310_62, i310_69, i310_75, d1, e3, ca', mB1_i, mB0_i, mB1n_i, mB0n_i, mB1_x, mB0_x, ↓if_pos, ↓if_neg, if_true, if_false, if_pos, if_neg]
      · obtain ⟨C', q1, q2⟩ := ih (v + 1) be le C1 (.int (zI (zOff h k p r v))) (by omega) (by omega) hl hf1 d3
        refine ⟨C', ?_, q2⟩
        rw [if_neg hc, ← q1, i310_26 (by omega)]
        simp (disch := first | assumption | omega | exact zr_and | exact zr_or | exact zr_xor | exact zr_shl | exact zr_shr | exact zr_ushr | exact zr_byte | exact isHall3 | exact isLaw12) only [i310_6, i310_9, i310_19, i310_33, i310_41, i310_51, i310_59, i310_62, i310_69, i310_75, d1, e3, ca', mB1_i, mB0_i, mB1n_i, mB0n_i, mB1_x, mB0_x, ↓if_pos, ↓if_neg, if_true, if_false, if_pos, if_neg]
  obtain ⟨C0, b1, b2, b3⟩ := c_midAllBy (d := d + 1) (K := K) (O := O) (t := t) (ar := ar) (r := r) (by omega) hw hr5 hB
  rw [zMd_own w0 hp] at b1
  have ro := of (h (15 + 6 * p + k)) wn.1 wn.2
  have rm := md (h (15 + 6 * p + k)) wn.1 wn.2
  obtain ⟨C', q1, q2⟩ := l1 100 0 (-1) (zOff h k p r (h (15 + 6 * p + k))) C0 (.double 0) (by omega) (by omega) ro b2 b3
  have call := c_all (d := d + 3) (K := K) (O := O) (t := t) (ar := ar) (A := B) (by rw [hB.1]; exact w0)
  rw [hB.1] at call
  have e3 : C0 193 p = h (15 + 6 * p + k) := b3.2.2 p hp.1 hp.2
  have ca := c_abs (d := d + 4) (K := K) (O := O) (t := t) (ar := ar) (A := C0) (x := zMd h k p r (h (15 + 6 * p + k)) - h (15 + 6 * p + k)) (by omega)
  have ca' : mGd ar (d + 4) 36 0 [.int (zI (zMd h k p r (h (15 + 6 * p + k)) - h (15 + 6 * p + k)))] [] (zW K C0 O t) = some (.inl (some (.int (zI (zOff h k p r (h (15 + 6 * p + k)))))), zW K C0 O t) := ca
  refine ⟨C', ?_, q2⟩
  unfold zSham
  rw [← q1]
  simp (disch := first | assumption | omega | exact zr_and | exact zr_or | exact zr_xor | exact zr_shl | exact zr_shr | exact zr_ushr | exact zr_byte | exact isHall3 | exact isLaw12) only [i310_0, i310_6, i310_9, i310_19, i310_33, i310_41, i310_51, i310_59, i310_62, i310_69, i310_75, call, b1, e3, ca', mB1_i, mB0_i, mB1n_i, mB0n_i, mB1_x, mB0_x, ↓if_pos, ↓if_neg, if_true, if_false, if_pos, if_neg]
theorem q_sham {p k : Int} (hI : zInv A) (h_p : -2147483648 ≤ p ∧ p < 2147483648) (h_k : -2147483648 ≤ k ∧ k < 2147483648) : zQ ar K O t (d + 12) 152 [.ref 0, .int (zI p), .int (zI k)] 309 [.ref 185, .int (zI p), .int (zI k)] (fun E => if E = 2 then 1 else 0) A := by
  obtain ⟨hw, hr, e0, w0⟩ := zInv_f hI
  have u6 : ∀ v, zU A 185 0 v 186 = A 186 := fun v => zU_r (by decide)
  have M1 : ∀ (B : Nat → Int → Int) (O' : Nat → Int64) (t' : Nat), B 186 = A 186 → mGd ar (d + 11) 255 0 [.ref 185, .int (zI p)] [] (zW K B O' t') = some (.inl (some (.int (zI (if 0 ≤ p ∧ p < A 186 0 then 0 else 1)))), zW K B O' t') := fun B O' t' e => by rw [← e]; exact c_noPerson (d := (d + 10)) h_p (by rw [e]; exact w0)
  have M2 : ∀ (B : Nat → Int → Int) (O' : Nat → Int64) (t' : Nat), B 186 = A 186 → mGd ar (d + 11) 257 0 [.int (zI k)] [] (zW K B O' t') = some (.inl (some (.int (zI (if 0 ≤ k ∧ k < 4 then 0 else 1)))), zW K B O' t') := fun B O' t' e => c_noKind (d := (d + 10)) h_k
  by_cases g1 : 0 ≤ p ∧ p < A 186 0
  case neg =>
    have k1 := c_nPersonX (d := (d + 11)) (K := K) (O := O) (t := t) (ar := ar) (A := A) (p := p) h_p (by omega) (by omega)
    refine zQ_ex (E := 2) hI ?_ (by decide) (fun O' t' => ⟨0, zU A 185 0 1, ?_, zU_at, zFm_u⟩)
    · simp (disch := first | assumption | omega | exact zr_and | exact zr_or | exact zr_xor | exact zr_shl | exact zr_shr | exact zr_ushr | exact zr_byte | exact isHall3 | exact isLaw12) only [i152_0, i152_5, i152_10, i152_28, k1, mB1_i, mB0_i, mB1n_i, mB0n_i, mB1_x, mB0_x, ↓if_pos, ↓if_neg, if_true, if_false, if_pos, if_neg]
    · have n1 := M1 (zU A 185 0 0) O' t' (u6 0)
      rw [if_neg (by omega)] at n1
      simp (disch := first | assumption | omega | exact zr_and | exact zr_or | exact zr_xor | exact zr_shl | exact zr_shr | exact zr_ushr | exact zr_byte | exact isHall3 | exact isLaw12) only [i309_0, i309_11, i309_14, i309_18, i309_21, i309_25, i309_26, i309_30, i309_33, i309_35, i309_40, i309_46, i309_50, n1, c_thr0, c_thr1, zU_uu, i233_0, zU_c, mB1_i, mB0_i, mB1n_i, mB0n_i, mB1_x, mB0_x, ↓if_pos, ↓if_neg, if_true, if_false, if_pos, if_neg]
  have k1 := c_nPerson (d := (d + 11)) (K := K) (O := O) (t := t) (ar := ar) (A := A) (p := p) (by omega) (by omega)
  have m1 : ∀ (B : Nat → Int → Int) (O' : Nat → Int64) (t' : Nat), B 186 = A 186 → mGd ar (d + 11) 255 0 [.ref 185, .int (zI p)] [] (zW K B O' t') = some (.inl (some (.int (zI 0))), zW K B O' t') := fun B O' t' e => by have q := M1 B O' t' e; rwa [if_pos (by omega)] at q
  by_cases g2 : 0 ≤ k ∧ k < 4
  case neg =>
    have k2 := c_nKindX (d := (d + 11)) (K := K) (O := O) (t := t) (ar := ar) (A := A) (p := k) h_k g2
    refine zQ_ex (E := 2) hI ?_ (by decide) (fun O' t' => ⟨0, zU A 185 0 1, ?_, zU_at, zFm_u⟩)
    · simp (disch := first | assumption | omega | exact zr_and | exact zr_or | exact zr_xor | exact zr_shl | exact zr_shr | exact zr_ushr | exact zr_byte | exact isHall3 | exact isLaw12) only [i152_0, i152_5, i152_10, i152_28, k1, k2, mB1_i, mB0_i, mB1n_i, mB0n_i, mB1_x, mB0_x, ↓if_pos, ↓if_neg, if_true, if_false, if_pos, if_neg]
    · have n1 := M1 (zU A 185 0 0) O' t' (u6 0)
      rw [if_pos (by omega)] at n1
      have n2 := M2 (zU A 185 0 0) O' t' (u6 0)
      rw [if_neg (by omega)] at n2
      simp (disch := first | assumption | omega | exact zr_and | exact zr_or | exact zr_xor | exact zr_shl | exact zr_shr | exact zr_ushr | exact zr_byte | exact isHall3 | exact isLaw12) only [i309_0, i309_11, i309_14, i309_18, i309_21, i309_25, i309_26, i309_30, i309_33, i309_35, i309_40, i309_46, i309_50, n1, n2, c_thr0, c_thr1, zU_uu, i233_0, zU_c, mB1_i, mB0_i, mB1n_i, mB0n_i, mB1_x, mB0_x, ↓if_pos, ↓if_neg, if_true, if_false, if_pos, if_neg]
  have k2 := c_nKind (d := (d + 11)) (K := K) (O := O) (t := t) (ar := ar) (A := A) (p := k) g2
  have m2 : ∀ (B : Nat → Int → Int) (O' : Nat → Int64) (t' : Nat), B 186 = A 186 → mGd ar (d + 11) 257 0 [.int (zI k)] [] (zW K B O' t') = some (.inl (some (.int (zI 0))), zW K B O' t') := fun B O' t' e => by have q := M2 B O' t' e; rwa [if_pos (by omega)] at q
  have wr := hw.2.2.2.2.2.1 k g2.1 g2.2
  have rr := hr.2.2.2.2.2.1 k g2.1 g2.2
  obtain ⟨B, b1, b2⟩ := c_bestOf (d := d + 8) (K := K) (O := O) (t := t) (ar := ar) (r := A 186 (7 + k)) hI g1 g2 wr (B := A) (fun _ _ _ => rfl)
  have rs := zSham_rng (h := A 186) (k := k) (p := p) (r := A 186 (7 + k))
  refine zQ_ok (b := zSham (A 186) k p (A 186 (7 + k))) (A1 := B) hI ?_ (zFc_bag b2) (by omega) (fun O' t' => ?_)
  · simp (disch := first | assumption | omega | exact zr_and | exact zr_or | exact zr_xor | exact zr_shl | exact zr_shr | exact zr_ushr | exact zr_byte | exact isHall3 | exact isLaw12) only [i152_0, i152_5, i152_10, i152_28, k1, k2, rr, b1, mB1_i, mB0_i, mB1n_i, mB0n_i, mB1_x, mB0_x, ↓if_pos, ↓if_neg, if_true, if_false, if_pos, if_neg]
  · have u7 : zU B 185 0 0 186 = A 186 := by rw [zU_r (by decide), zFc_186 (zFc_bag b2)]
    have n1 := m1 (zU B 185 0 0) O' t' u7
    have n2 := m2 (zU B 185 0 0) O' t' u7
    obtain ⟨A2, s1, s2, s3, s4, s5, s6, s7⟩ := c_laidAll (d := d + 9) (K := K) (O := O') (t := t') (ar := ar) (B := zU B 185 0 0) hw u7 g2
    have eR : A2 186 (7 + k) = A 186 (7 + k) := by rw [s3]
    obtain ⟨A3, p1, p2, p3⟩ := c_shamOf (d := d + 6) (K := K) (O := O') (t := t') (ar := ar) hw g1 g2 wr ⟨s3, s4, s7⟩
    have hz := zFm_0 (A := B) (A' := A3) (zFt_trans s2 (zFt_fr p2))
    refine ⟨A3, ?_, hz.1, hz.2⟩
    simp (disch := first | assumption | omega | exact zr_and | exact zr_or | exact zr_xor | exact zr_shl | exact zr_shr | exact zr_ushr | exact zr_byte | exact isHall3 | exact isLaw12) only [i309_0, i309_11, i309_14, i309_18, i309_21, i309_25, i309_26, i309_30, i309_33, i309_35, i309_40, i309_46, i309_50, n1, n2, c_thr0, s1, i280_0, eR, p1, mB1_i, mB0_i, mB1n_i, mB0n_i, mB1_x, mB0_x, ↓if_pos, ↓if_neg, if_true, if_false, if_pos, if_neg]
/-- those who gain by shamming, as bits -/
noncomputable def zGn (h : Int → Int) (k r : Int) : Int := zBf (fun p => decide (0 ≤ zSham h k p r)) 0 (h 0).toNat 0
theorem c_gainersBy {h : Int → Int} {k r : Int} (hw : zHW0 h) (hk : 0 ≤ k ∧ k < 4) (hr5 : 0 ≤ r ∧ r ≤ 5) {B : Nat → Int → Int} (hB : zLd h k B) : ∃ C, mGd ar (d + 6) 312 0 [.ref 185, .int (zI r), .double 0, .double 0] [] (zW K B O t) = some (.inl (some (.int (zI (zGn h k r)))), zW K C O t) ∧ zFr B C ∧ zLd h k C := by
  have w0 := hw.1
  have l1 : ∀ (m : Nat) (p b : Int) (C : Nat → Int → Int), p + m = h 0 → 0 ≤ p → (0 ≤ b ∧ b < 256) → zFr B C → zLd h k C → ∃ C', mGd ar (d + 6) 312 4 [.ref 185, .int (zI r), .int (zI b), .int (zI p)] [] (zW K C O t) = some (.inl (some (.int (zI (zBf (fun p => decide (0 ≤ zSham h k p r)) p m b)))), zW K C' O t) ∧ zFr B C' ∧ zLd h k C' := by
    intro m
    induction m with
    | zero =>
      intro p b C hp p0 hb hf hC
      have e0 : C 186 0 = h 0 := by rw [hC.1]
      refine ⟨C, ?_, hf, hC⟩
      simp (disch := first | assumption | omega | exact zr_and | exact zr_or | exact zr_xor | exact zr_shl | exact zr_shr | exact zr_ushr | exact zr_byte | exact isHall3 | exact isLaw12) only [i312_4, i312_9, i312_12, i312_19, i312_22, i312_28, i312_29, i312_37, i233_0, e0, mB1_i, mB0_i, mB1n_i, mB0n_i, mB1_x, mB0_x, ↓if_pos, ↓if_neg, if_true, if_false, if_pos, if_neg]
      rfl
    | succ m ih =>
      intro p b C hp p0 hb hf hC
      have e0 : C 186 0 = h 0 := by rw [hC.1]
      obtain ⟨C1, d1, d2, d3⟩ := c_shamOf (d := d) (K := K) (O := O) (t := t) (ar := ar) hw (p := p) (by omega) hk hr5 hC
      have rs := zSham_rng (h := h) (k := k) (p := p) (r := r)
      have hf1 : zFr B C1 := ⟨fun j hj => by rw [d2.1 j hj, hf.1 j hj], fun c c1 c2 => by rw [d2.2 c c1 c2, hf.2 c c1 c2]⟩
      have o0 := zOr_0 (b := b) (by omega)
      rw [show zBf (fun p => decide (0 ≤ zSham h k p r)) p (m + 1) b = zBf (fun p => decide (0 ≤ zSham h k p r)) (p + 1) m (if decide (0 ≤ zSham h k p r) = true then zOr b (zShl 1 p) else b) from rfl]
      by_cases hc : 0 ≤ zSham h k p r
      · obtain ⟨C', q1, q2⟩ := ih (p + 1) (zOr b (zShl 1 p)) C1 (by omega) (by omega) (zf_more hb (by omega)).1 hf1 d3
        refine ⟨C', ?_, q2⟩
        rw [if_pos (decide_eq_true hc), ← q1, i312_4]
        simp (disch := first | assumption | omega | exact zr_and | exact zr_or | exact zr_xor | exact zr_shl | exact zr_shr | exact zr_ushr | exact zr_byte | exact isHall3 | exact isLaw12) only [i312_9, i312_12, i312_19, i312_22, i312_28, i312_29, i312_37, i233_0, e0, d1, mB1_i, mB0_i, mB1n_i, mB0n_i, mB1_x, mB0_x, ↓if_pos, ↓if_neg, if_true, if_false, if_pos, if_neg]
      · obtain ⟨C', q1, q2⟩ := ih (p + 1) b C1 (by omega) (by omega) hb hf1 d3
        refine ⟨C', ?_, q2⟩
        rw [if_neg (by simp [hc]), ← q1, i312_4]
        simp (disch := first | assumption | omega | exact zr_and | exact zr_or | exact zr_xor | exact zr_shl | exact zr_shr | exact zr_ushr | exact zr_byte | exact isHall3 | exact isLaw12) only [i312_9, i312_12, i312_19, i312_22, i312_28, i312_29, i312_37, i233_0, e0, d1, o0, mB1_i, mB0_i, mB1n_i, mB0n_i, mB1_x, mB0_x, ↓if_pos, ↓if_neg, if_true, if_false, if_pos, if_neg]
  rw [i312_0]
  exact l1 (h 0).toNat 0 0 B (by omega) (by omega) (by decide) zFr_refl hB
theorem q_gainers {k : Int} (hI : zInv A) (h_k : -2147483648 ≤ k ∧ k < 2147483648) : zQ ar K O t (d + 12) 159 [.ref 0, .int (zI k), .double 0, .double 0] 313 [.ref 185, .int (zI k)] (fun E => if E = 2 then 1 else 0) A := by
  obtain ⟨hw, hr, e0, w0⟩ := zInv_f hI
  have u6 : ∀ v, zU A 185 0 v 186 = A 186 := fun v => zU_r (by decide)
  have M1 : ∀ (B : Nat → Int → Int) (O' : Nat → Int64) (t' : Nat), B 186 = A 186 → mGd ar (d + 11) 257 0 [.int (zI k)] [] (zW K B O' t') = some (.inl (some (.int (zI (if 0 ≤ k ∧ k < 4 then 0 else 1)))), zW K B O' t') := fun B O' t' e => c_noKind (d := (d + 10)) h_k
  by_cases g1 : 0 ≤ k ∧ k < 4
  case neg =>
    have k1 := c_nKindX (d := (d + 11)) (K := K) (O := O) (t := t) (ar := ar) (A := A) (p := k) h_k g1
    refine zQ_ex (E := 2) hI ?_ (by decide) (fun O' t' => ⟨0, zU A 185 0 1, ?_, zU_at, zFm_u⟩)
    · simp (disch := first | assumption | omega | exact zr_and | exact zr_or | exact zr_xor | exact zr_shl | exact zr_shr | exact zr_ushr | exact zr_byte | exact isHall3 | exact isLaw12) only [i159_0, i159_5, i159_9, i159_20, i159_38, i159_41, i159_47, i159_53, k1, mB1_i, mB0_i, mB1n_i, mB0n_i, mB1_x, mB0_x, ↓if_pos, ↓if_neg, if_true, if_false, if_pos, if_neg]
    · have n1 := M1 (zU A 185 0 0) O' t' (u6 0)
      rw [if_neg (by omega)] at n1
      simp (disch := first | assumption | omega | exact zr_and | exact zr_or | exact zr_xor | exact zr_shl | exact zr_shr | exact zr_ushr | exact zr_byte | exact isHall3 | exact isLaw12) only [i313_0, i313_10, i313_14, i313_17, i313_19, i313_24, i313_30, i313_33, n1, c_thr0, c_thr1, zU_uu, i233_0, zU_c, mB1_i, mB0_i, mB1n_i, mB0n_i, mB1_x, mB0_x, ↓if_pos, ↓if_neg, if_true, if_false, if_pos, if_neg]
  have k1 := c_nKind (d := (d + 11)) (K := K) (O := O) (t := t) (ar := ar) (A := A) (p := k) g1
  have m1 : ∀ (B : Nat → Int → Int) (O' : Nat → Int64) (t' : Nat), B 186 = A 186 → mGd ar (d + 11) 257 0 [.int (zI k)] [] (zW K B O' t') = some (.inl (some (.int (zI 0))), zW K B O' t') := fun B O' t' e => by have q := M1 B O' t' e; rwa [if_pos (by omega)] at q
  have wr := hw.2.2.2.2.2.1 k g1.1 g1.2
  have rr := hr.2.2.2.2.2.1 k g1.1 g1.2
  have l1 : ∀ (m : Nat) (p b : Int) (C : Nat → Int → Int), p + m = A 186 0 → 0 ≤ p → (0 ≤ b ∧ b < 256) → (∀ c, c ≠ 173 → c ≠ 174 → C c = A c) → ∃ C', mGd ar (d + 12) 159 9 [.ref 0, .int (zI k), .int (zI b), .int (zI p)] [] (zW K C O t) = some (.inl (some (.int (zI (zBf (fun p => decide (0 ≤ zSham (A 186) k p (A 186 (7 + k)))) p m b)))), zW K C' O t) ∧ ∀ c, c ≠ 173 → c ≠ 174 → C' c = A c := by
    intro m
    induction m with
    | zero =>
      intro p b C hp p0 hb hC
      have e30 : C 3 0 = A 186 0 := by rw [hC _ (by decide) (by decide)]; exact e0
      refine ⟨C, ?_, hC⟩
      simp (disch := first | assumption | omega | exact zr_and | exact zr_or | exact zr_xor | exact zr_shl | exact zr_shr | exact zr_ushr | exact zr_byte | exact isHall3 | exact isLaw12) only [i159_9, i159_5, i159_20, i159_38, i159_41, i159_47, i159_53, mB1_i, mB0_i, mB1n_i, mB0n_i, mB1_x, mB0_x, ↓if_pos, ↓if_neg, if_true, if_false, if_pos, if_neg]
      rfl
    | succ m ih =>
      intro p b C hp p0 hb hC
      have e30 : C 3 0 = A 186 0 := by rw [hC _ (by decide) (by decide)]; exact e0
      have e6 : C 6 k = A 186 (7 + k) := by rw [hC _ (by decide) (by decide)]; exact rr
      obtain ⟨C1, d1, d2⟩ := c_bestOf (d := d + 7) (K := K) (O := O) (t := t) (ar := ar) (r := A 186 (7 + k)) hI (p := p) (by omega) g1 wr hC
      have rs := zSham_rng (h := A 186) (k := k) (p := p) (r := A 186 (7 + k))
      rw [show zBf (fun p => decide (0 ≤ zSham (A 186) k p (A 186 (7 + k)))) p (m + 1) b = zBf (fun p => decide (0 ≤ zSham (A 186) k p (A 186 (7 + k)))) (p + 1) m (if decide (0 ≤ zSham (A 186) k p (A 186 (7 + k))) = true then zOr b (zShl 1 p) else b) from rfl]
      by_cases hc : 0 ≤ zSham (A 186) k p (A 186 (7 + k))
      · obtain ⟨C', q1, q2⟩ := ih (p + 1) (zOr b (zShl 1 p)) C1 (by omega) (by omega) (zf_more hb (by omega)).1 d2
        refine ⟨C', ?_, q2⟩
        rw [if_pos (decide_eq_true hc), ← q1, i159_9 (by omega) (by omega)]
        simp (disch := first | assumption | omega | exact zr_and | exact zr_or | exact zr_xor | exact zr_shl | exact zr_shr | exact zr_ushr | exact zr_byte | exact isHall3 | exact isLaw12) only [i159_5, i159_20, i159_38, i159_41, i159_47, i159_53, e6, i157_0, i157_7, i157_11, i157_15, i157_16, d1, mB1_i, mB0_i, mB1n_i, mB0n_i, mB1_x, mB0_x, ↓if_pos, ↓if_neg, if_true, if_false, if_pos, if_neg]
      · obtain ⟨C', q1, q2⟩ := ih (p + 1) b C1 (by omega) (by omega) hb d2
        refine ⟨C', ?_, q2⟩
        rw [if_neg (by simp [hc]), ← q1, i159_9 (by omega) (by omega)]
        simp (disch := first | assumption | omega | exact zr_and | exact zr_or | exact zr_xor | exact zr_shl | exact zr_shr | exact zr_ushr | exact zr_byte | exact isHall3 | exact isLaw12) only [i159_5, i159_20, i159_38, i159_41, i159_47, i159_53, e6, i157_0, i157_7, i157_11, i157_15, i157_16, d1, mB1_i, mB0_i, mB1n_i, mB0n_i, mB1_x, mB0_x, ↓if_pos, ↓if_neg, if_true, if_false, if_pos, if_neg]
  obtain ⟨B, b1, b2⟩ := l1 (A 186 0).toNat 0 0 A (by omega) (by omega) (by decide) (fun _ _ _ => rfl)
  have hv := zBf_rng (f := fun p => decide (0 ≤ zSham (A 186) k p (A 186 (7 + k)))) (m := (A 186 0).toNat) (p := 0) (b := 0) (by omega) (by omega) (by decide)
  refine zQ_ok (b := zGn (A 186) k (A 186 (7 + k))) (A1 := B) hI ?_ (zFc_bag b2) (by unfold zGn; omega) (fun O' t' => ?_)
  · unfold zGn
    rw [← b1]
    simp (disch := first | assumption | omega | exact zr_and | exact zr_or | exact zr_xor | exact zr_shl | exact zr_shr | exact zr_ushr | exact zr_byte | exact isHall3 | exact isLaw12) only [i159_0, i159_5, i159_20, i159_38, i159_41, i159_47, i159_53, k1, mB1_i, mB0_i, mB1n_i, mB0n_i, mB1_x, mB0_x, ↓if_pos, ↓if_neg, if_true, if_false, if_pos, if_neg]
  · have u7 : zU B 185 0 0 186 = A 186 := by rw [zU_r (by decide), zFc_186 (zFc_bag b2)]
    have n1 := m1 (zU B 185 0 0) O' t' u7
    obtain ⟨A2, s1, s2, s3, s4, s5, s6, s7⟩ := c_laidAll (d := d + 9) (K := K) (O := O') (t := t') (ar := ar) (B := zU B 185 0 0) hw u7 g1
    have eR : A2 186 (7 + k) = A 186 (7 + k) := by rw [s3]
    obtain ⟨A3, p1, p2, p3⟩ := c_gainersBy (d := d + 5) (K := K) (O := O') (t := t') (ar := ar) hw g1 wr ⟨s3, s4, s7⟩
    have hz := zFm_0 (A := B) (A' := A3) (zFt_trans s2 (zFt_fr p2))
    refine ⟨A3, ?_, hz.1, hz.2⟩
    simp (disch := first | assumption | omega | exact zr_and | exact zr_or | exact zr_xor | exact zr_shl | exact zr_shr | exact zr_ushr | exact zr_byte | exact isHall3 | exact isLaw12) only [i313_0, i313_10, i313_14, i313_17, i313_19, i313_24, i313_30, i313_33, n1, c_thr0, s1, i280_0, eR, p1, mB1_i, mB0_i, mB1n_i, mB0n_i, mB1_x, mB0_x, ↓if_pos, ↓if_neg, if_true, if_false, if_pos, if_neg]
theorem q_honest {k : Int} (hI : zInv A) (h_k : -2147483648 ≤ k ∧ k < 2147483648) : zQ ar K O t (d + 12) 155 [.ref 0, .int (zI k), .double 0, .double 0] 311 [.ref 185, .int (zI k), .double 0, .double 0] (fun E => if E = 2 then 1 else 0) A := by
  obtain ⟨hw, hr, e0, w0⟩ := zInv_f hI
  have u6 : ∀ v, zU A 185 0 v 186 = A 186 := fun v => zU_r (by decide)
  have M1 : ∀ (B : Nat → Int → Int) (O' : Nat → Int64) (t' : Nat), B 186 = A 186 → mGd ar (d + 11) 257 0 [.int (zI k)] [] (zW K B O' t') = some (.inl (some (.int (zI (if 0 ≤ k ∧ k < 4 then 0 else 1)))), zW K B O' t') := fun B O' t' e => c_noKind (d := (d + 10)) h_k
  by_cases g1 : 0 ≤ k ∧ k < 4
  case neg =>
    have k1 := c_nKindX (d := (d + 11)) (K := K) (O := O) (t := t) (ar := ar) (A := A) (p := k) h_k g1
    refine zQ_ex (E := 2) hI ?_ (by decide) (fun O' t' => ⟨0, zU A 185 0 1, ?_, zU_at, zFm_u⟩)
    · simp (disch := first | assumption | omega | exact zr_and | exact zr_or | exact zr_xor | exact zr_shl | exact zr_shr | exact zr_ushr | exact zr_byte | exact isHall3 | exact isLaw12) only [i155_0, i155_5, i155_9, i155_15, i155_24, i155_27, i155_33, i155_39, k1, mB1_i, mB0_i, mB1n_i, mB0n_i, mB1_x, mB0_x, ↓if_pos, ↓if_neg, if_true, if_false, if_pos, if_neg]
    · have n1 := M1 (zU A 185 0 0) O' t' (u6 0)
      rw [if_neg (by omega)] at n1
      simp (disch := first | assumption | omega | exact zr_and | exact zr_or | exact zr_xor | exact zr_shl | exact zr_shr | exact zr_ushr | exact zr_byte | exact isHall3 | exact isLaw12) only [i311_0, i311_10, i311_14, i311_17, i311_19, i311_24, i311_28, i311_34, i311_40, i311_43, i311_49, i311_50, i311_58, n1, c_thr0, c_thr1, zU_uu, i233_0, zU_c, mB1_i, mB0_i, mB1n_i, mB0n_i, mB1_x, mB0_x, ↓if_pos, ↓if_neg, if_true, if_false, if_pos, if_neg]
  have k1 := c_nKind (d := (d + 11)) (K := K) (O := O) (t := t) (ar := ar) (A := A) (p := k) g1
  have m1 : ∀ (B : Nat → Int → Int) (O' : Nat → Int64) (t' : Nat), B 186 = A 186 → mGd ar (d + 11) 257 0 [.int (zI k)] [] (zW K B O' t') = some (.inl (some (.int (zI 0))), zW K B O' t') := fun B O' t' e => by have q := M1 B O' t' e; rwa [if_pos (by omega)] at q
  have any : ∀ (r : Int), 0 ≤ r ∧ r ≤ 5 → ∀ (m : Nat) (p : Int) (C : Nat → Int → Int), p + m = A 186 0 → 0 ≤ p → (∀ c, c ≠ 173 → c ≠ 174 → C c = A c) → ∃ C', mGd ar (d + 11) 156 2 [.ref 181, .int (zI k), .int (zI r), .int (zI p)] [] (zW K C O t) = some (.inl (some (.int (zI (if zBf (fun p => decide (0 ≤ zSham (A 186) k p r)) p m 0 = 0 then 0 else 1)))), zW K C' O t) ∧ ∀ c, c ≠ 173 → c ≠ 174 → C' c = A c := by
    intro r hr5 m
    induction m with
    | zero =>
      intro p C hp p0 hC
      have e30 : C 3 0 = A 186 0 := by rw [hC _ (by decide) (by decide)]; exact e0
      refine ⟨C, ?_, hC⟩
      rw [if_pos (show zBf (fun p => decide (0 ≤ zSham (A 186) k p r)) p 0 0 = 0 from rfl)]
      simp (disch := first | assumption | omega | exact zr_and | exact zr_or | exact zr_xor | exact zr_shl | exact zr_shr | exact zr_ushr | exact zr_byte | exact isHall3 | exact isLaw12) only [i156_2, i156_13, i156_20, i156_23, i156_25, i156_31, mB1_i, mB0_i, mB1n_i, mB0n_i, mB1_x, mB0_x, ↓if_pos, ↓if_neg, if_true, if_false, if_pos, if_neg]
    | succ m ih =>
      intro p C hp p0 hC
      have e30 : C 3 0 = A 186 0 := by rw [hC _ (by decide) (by decide)]; exact e0
      obtain ⟨C1, d1, d2⟩ := c_bestOf (d := d + 6) (K := K) (O := O) (t := t) (ar := ar) (r := r) hI (p := p) (by omega) g1 hr5 hC
      have rs := zSham_rng (h := A 186) (k := k) (p := p) (r := r)
      rw [show zBf (fun p => decide (0 ≤ zSham (A 186) k p r)) p (m + 1) 0 = zBf (fun p => decide (0 ≤ zSham (A 186) k p r)) (p + 1) m (if decide (0 ≤ zSham (A 186) k p r) = true then zOr 0 (zShl 1 p) else 0) from rfl]
      by_cases hc : 0 ≤ zSham (A 186) k p r
      · have hne : ¬ zBf (fun p => decide (0 ≤ zSham (A 186) k p r)) p (m + 1) 0 = 0 := fun q => by
          have := (zBf_ge (f := fun p => decide (0 ≤ zSham (A 186) k p r)) (m := m + 1) (p := p) (b := 0) p0 (by omega) (by decide)).2 q p (by omega) (by omega)
          simp [hc] at this
        rw [show zBf (fun p => decide (0 ≤ zSham (A 186) k p r)) p (m + 1) 0 = zBf (fun p => decide (0 ≤ zSham (A 186) k p r)) (p + 1) m (if decide (0 ≤ zSham (A 186) k p r) = true then zOr 0 (zShl 1 p) else 0) from rfl] at hne
        refine ⟨C1, ?_, d2⟩
        rw [if_neg hne]
        simp (disch := first | assumption | omega | exact zr_and | exact zr_or | exact zr_xor | exact zr_shl | exact zr_shr | exact zr_ushr | exact zr_byte | exact isHall3 | exact isLaw12) only [i156_2, i156_13, i156_20, i156_23, i156_25, i156_31, i157_0, i157_7, i157_11, i157_15, i157_16, d1, mB1_i, mB0_i, mB1n_i, mB0n_i, mB1_x, mB0_x, ↓if_pos, ↓if_neg, if_true, if_false, if_pos, if_neg]
      · obtain ⟨C', q1, q2⟩ := ih (p + 1) C1 (by omega) (by omega) d2
        refine ⟨C', ?_, q2⟩
        rw [if_neg (show ¬ decide (0 ≤ zSham (A 186) k p r) = true by simp [hc]), ← q1, i156_2 (by omega) (by omega)]
        simp (disch := first | assumption | omega | exact zr_and | exact zr_or | exact zr_xor | exact zr_shl | exact zr_shr | exact zr_ushr | exact zr_byte | exact isHall3 | exact isLaw12) only [i156_13, i156_20, i156_23, i156_25, i156_31, i157_0, i157_7, i157_11, i157_15, i157_16, d1, mB1_i, mB0_i, mB1n_i, mB0n_i, mB1_x, mB0_x, ↓if_pos, ↓if_neg, if_true, if_false, if_pos, if_neg]
  have l1 : ∀ (m : Nat) (r b : Int) (C : Nat → Int → Int), r + m = 6 → 0 ≤ r → (0 ≤ b ∧ b < 256) → (∀ c, c ≠ 173 → c ≠ 174 → C c = A c) → ∃ C', mGd ar (d + 12) 155 9 [.ref 0, .int (zI k), .int (zI b), .int (zI r)] [] (zW K C O t) = some (.inl (some (.int (zI (zBf (fun r => decide (zGn (A 186) k r = 0)) r m b)))), zW K C' O t) ∧ ∀ c, c ≠ 173 → c ≠ 174 → C' c = A c := by
    intro m
    induction m with
    | zero =>
      intro r b C hr6 r0 hb hC
      refine ⟨C, ?_, hC⟩
      simp (disch := first | assumption | omega | exact zr_and | exact zr_or | exact zr_xor | exact zr_shl | exact zr_shr | exact zr_ushr | exact zr_byte | exact isHall3 | exact isLaw12) only [i155_9, i155_5, i155_15, i155_24, i155_27, i155_33, i155_39, mB1_i, mB0_i, mB1n_i, mB0n_i, mB1_x, mB0_x, ↓if_pos, ↓if_neg, if_true, if_false, if_pos, if_neg]
      rfl
    | succ m ih =>
      intro r b C hr6 r0 hb hC
      obtain ⟨C1, d1, d2⟩ := any r (by omega) (A 186 0).toNat 0 C (by omega) (by omega) hC
      have d1' : mGd ar (d + 11) 156 2 [.ref 181, .int (zI k), .int (zI r), .int (zI 0)] [] (zW K C O t) = some (.inl (some (.int (zI (if zGn (A 186) k r = 0 then 0 else 1)))), zW K C1 O t) := d1
      rw [show zBf (fun r => decide (zGn (A 186) k r = 0)) r (m + 1) b = zBf (fun r => decide (zGn (A 186) k r = 0)) (r + 1) m (if decide (zGn (A 186) k r = 0) = true then zOr b (zShl 1 r) else b) from rfl]
      by_cases hc : zGn (A 186) k r = 0
      · rw [if_pos hc] at d1'
        obtain ⟨C', q1, q2⟩ := ih (r + 1) (zOr b (zShl 1 r)) C1 (by omega) (by omega) (zf_more hb (by omega)).1 d2
        refine ⟨C', ?_, q2⟩
        rw [if_pos (decide_eq_true hc), ← q1, i155_9 (by omega)]
        simp (disch := first | assumption | omega | exact zr_and | exact zr_or | exact zr_xor | exact zr_shl | exact zr_shr | exact zr_ushr | exact zr_byte | exact isHall3 | exact isLaw12) only [i155_5, i155_15, i155_24, i155_27, i155_33, i155_39, i156_0, d1', mB1_i, mB0_i, mB1n_i, mB0n_i, mB1_x, mB0_x, ↓if_pos, ↓if_neg, if_true, if_false, if_pos, if_neg]
      · rw [if_neg hc] at d1'
        obtain ⟨C', q1, q2⟩ := ih (r + 1) b C1 (by omega) (by omega) hb d2
        refine ⟨C', ?_, q2⟩
        rw [if_neg (by simp [hc]), ← q1, i155_9 (by omega)]
        simp (disch := first | assumption | omega | exact zr_and | exact zr_or | exact zr_xor | exact zr_shl | exact zr_shr | exact zr_ushr | exact zr_byte | exact isHall3 | exact isLaw12) only [i155_5, i155_15, i155_24, i155_27, i155_33, i155_39, i156_0, d1', mB1_i, mB0_i, mB1n_i, mB0n_i, mB1_x, mB0_x, ↓if_pos, ↓if_neg, if_true, if_false, if_pos, if_neg]
  obtain ⟨B, b1, b2⟩ := l1 6 0 0 A (by omega) (by omega) (by decide) (fun _ _ _ => rfl)
  have hv := zBf_rng (f := fun r => decide (zGn (A 186) k r = 0)) (m := 6) (p := 0) (b := 0) (by omega) (by omega) (by decide)
  refine zQ_ok (b := zBf (fun r => decide (zGn (A 186) k r = 0)) 0 6 0) (A1 := B) hI ?_ (zFc_bag b2) (by omega) (fun O' t' => ?_)
  · rw [← b1]
    simp (disch := first | assumption | omega | exact zr_and | exact zr_or | exact zr_xor | exact zr_shl | exact zr_shr | exact zr_ushr | exact zr_byte | exact isHall3 | exact isLaw12) only [i155_0, i155_5, i155_15, i155_24, i155_27, i155_33, i155_39, k1, mB1_i, mB0_i, mB1n_i, mB0n_i, mB1_x, mB0_x, ↓if_pos, ↓if_neg, if_true, if_false, if_pos, if_neg]
  · have u7 : zU B 185 0 0 186 = A 186 := by rw [zU_r (by decide), zFc_186 (zFc_bag b2)]
    have n1 := m1 (zU B 185 0 0) O' t' u7
    obtain ⟨A2, s1, s2, s3, s4, s5, s6, s7⟩ := c_laidAll (d := d + 9) (K := K) (O := O') (t := t') (ar := ar) (B := zU B 185 0 0) hw u7 g1
    have l2 : ∀ (m : Nat) (r b : Int) (C : Nat → Int → Int), r + m = 6 → 0 ≤ r → (0 ≤ b ∧ b < 256) → zFr A2 C → zLd (A 186) k C → ∃ C', mGd ar (d + 12) 311 28 [.ref 185, .int (zI k), .int (zI b), .int (zI r)] [] (zW K C O' t') = some (.inl (some (.int (zI (zBf (fun r => decide (zGn (A 186) k r = 0)) r m b)))), zW K C' O' t') ∧ zFr A2 C' := by
      intro m
      induction m with
      | zero =>
        intro r b C hr6 r0 hb hf hC
        refine ⟨C, ?_, hf⟩
        simp (disch := first | assumption | omega | exact zr_and | exact zr_or | exact zr_xor | exact zr_shl | exact zr_shr | exact zr_ushr | exact zr_byte | exact isHall3 | exact isLaw12) only [i311_28, i311_10, i311_14, i311_17, i311_19, i311_24, i311_34, i311_40, i311_43, i311_49, i311_50, i311_58, mB1_i, mB0_i, mB1n_i, mB0n_i, mB1_x, mB0_x, ↓if_pos, ↓if_neg, if_true, if_false, if_pos, if_neg]
        rfl
      | succ m ih =>
        intro r b C hr6 r0 hb hf hC
        obtain ⟨C1, d1, d2, d3⟩ := c_gainersBy (d := d + 5) (K := K) (O := O') (t := t') (ar := ar) hw g1 (r := r) (by omega) hC
        have hf1 : zFr A2 C1 := ⟨fun j hj => by rw [d2.1 j hj, hf.1 j hj], fun c c1 c2 => by rw [d2.2 c c1 c2, hf.2 c c1 c2]⟩
        have rg := zBf_rng (f := fun p => decide (0 ≤ zSham (A 186) k p r)) (m := (A 186 0).toNat) (p := 0) (b := 0) (by omega) (by omega) (by decide)
        have rg' : 0 ≤ zGn (A 186) k r ∧ zGn (A 186) k r < 256 := rg
        have o0 := zOr_0 (b := b) (by omega)
        rw [show zBf (fun r => decide (zGn (A 186) k r = 0)) r (m + 1) b = zBf (fun r => decide (zGn (A 186) k r = 0)) (r + 1) m (if decide (zGn (A 186) k r = 0) = true then zOr b (zShl 1 r) else b) from rfl]
        by_cases hc : zGn (A 186) k r = 0
        · obtain ⟨C', q1, q2⟩ := ih (r + 1) (zOr b (zShl 1 r)) C1 (by omega) (by omega) (zf_more hb (by omega)).1 hf1 d3
          refine ⟨C', ?_, q2⟩
          rw [if_pos (decide_eq_true hc), ← q1, i311_28 (by omega)]
          simp (disch := first | assumption | omega | exact zr_and | exact zr_or | exact zr_xor | exact zr_shl | exact zr_shr | exact zr_ushr | exact zr_byte | exact isHall3 | exact isLaw12) only [i311_10, i311_14, i311_17, i311_19, i311_24, i311_34, i311_40, i311_43, i311_49, i311_50, i311_58, d1, mB1_i, mB0_i, mB1n_i, mB0n_i, mB1_x, mB0_x, ↓if_pos, ↓if_neg, if_true, if_false, if_pos, if_neg]
        · obtain ⟨C', q1, q2⟩ := ih (r + 1) b C1 (by omega) (by omega) hb hf1 d3
          refine ⟨C', ?_, q2⟩
          rw [if_neg (by simp [hc]), ← q1, i311_28 (by omega)]
          simp (disch := first | assumption | omega | exact zr_and | exact zr_or | exact zr_xor | exact zr_shl | exact zr_shr | exact zr_ushr | exact zr_byte | exact isHall3 | exact isLaw12) only [i311_10, i311_14, i311_17, i311_19, i311_24, i311_34, i311_40, i311_43, i311_49, i311_50, i311_58, d1, o0, mB1_i, mB0_i, mB1n_i, mB0n_i, mB1_x, mB0_x, ↓if_pos, ↓if_neg, if_true, if_false, if_pos, if_neg]
    obtain ⟨A3, p1, p2⟩ := l2 6 0 0 A2 (by omega) (by omega) (by decide) zFr_refl ⟨s3, s4, s7⟩
    have hz := zFm_0 (A := B) (A' := A3) (zFt_trans s2 (zFt_fr p2))
    refine ⟨A3, ?_, hz.1, hz.2⟩
    rw [← p1]
    simp (disch := first | assumption | omega | exact zr_and | exact zr_or | exact zr_xor | exact zr_shl | exact zr_shr | exact zr_ushr | exact zr_byte | exact isHall3 | exact isLaw12) only [i311_0, i311_10, i311_14, i311_17, i311_19, i311_24, i311_34, i311_40, i311_43, i311_49, i311_50, i311_58, n1, c_thr0, s1, mB1_i, mB0_i, mB1n_i, mB0n_i, mB1_x, mB0_x, ↓if_pos, ↓if_neg, if_true, if_false, if_pos, if_neg]
end SHAM3
