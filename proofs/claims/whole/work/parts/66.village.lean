/-! CALLS, 14: village -/
/-- how far the middles of some are from those of all -/
noncomputable def zVo1 (h : Int → Int) (s k : Int) : Int := zAbs (zMs h k s - zMs h k (zAll (h 0)))
noncomputable def zVo (h : Int → Int) (s : Int) : Int := zSm (zVo1 h s) 0 4
def zVf (c : Int → Bool) (f : Int → Int) : Int → Nat → Int → Int → Int
  | _, 0, b, _ => b
  | s, m + 1, b, le => if c s = true ∧ (b < 0 ∨ f s < le) then zVf c f (s + 1) m s (f s) else zVf c f (s + 1) m b le
theorem zVf_rng {c : Int → Bool} {f : Int → Int} : ∀ {m : Nat} {s b le : Int}, -1 ≤ s → s + m ≤ 300 → (-1 ≤ b ∧ b ≤ 300) → -1 ≤ zVf c f s m b le ∧ zVf c f s m b le ≤ 300
  | 0, _, _, _, _, _, h => h
  | m + 1, s, b, le, h1, h2, h => by
    show -1 ≤ (if c s = true ∧ (b < 0 ∨ f s < le) then zVf c f (s + 1) m s (f s) else zVf c f (s + 1) m b le) ∧ (if c s = true ∧ (b < 0 ∨ f s < le) then zVf c f (s + 1) m s (f s) else zVf c f (s + 1) m b le) ≤ 300
    split
    · exact zVf_rng (by omega) (by omega) (by omega)
    · exact zVf_rng (by omega) (by omega) h
theorem zVo1_rng {h : Int → Int} (hw : zHW0 h) {s k : Int} (hs : 0 < s ∧ s ≤ zAll (h 0)) (hk : 0 ≤ k ∧ k < 4) : 0 ≤ zVo1 h s k ∧ zVo1 h s k ≤ 99 := by
  have r1 := zMs_rng hw hk hs
  have r2 := zMs_rng hw hk (s := zAll (h 0)) ⟨by omega, Int.le_refl _⟩
  exact zAbs_rng (by omega)
theorem zVo_rng {h : Int → Int} (hw : zHW0 h) {s : Int} (hs : 0 < s ∧ s ≤ zAll (h 0)) : 0 ≤ zVo h s ∧ zVo h s ≤ 396 := by
  have := zSm_rng (f := zVo1 h s) (c := 99) (m := 4) (p := 0) (fun i i1 i2 => zVo1_rng hw hs ⟨i1, by omega⟩)
  unfold zVo; omega
section VILLAGE
variable {ar : Nat → Nat × (Nat → Int32)} {d t : Nat} {K : Nat → Nat → Option Nat} {A : Nat → Int → Int} {O : Nat → Int64}
theorem c_fromMiddles {s : Int} (hI : zInv A) (hs : 0 < s ∧ s ≤ zAll (A 186 0)) {B : Nat → Int → Int} (hB : ∀ c, c < 173 → B c = A c) (hm : ∀ k, 0 ≤ k → k < 4 → B 184 k = zMs (A 186) k (zAll (A 186 0))) : ∃ C, mGd ar (d + 3) 195 0 [.ref 183, .int (zI s), .double 0, .double 0] [] (zW K B O t) = some (.inl (some (.int (zI (zVo (A 186) s)))), zW K C O t) ∧ ∀ c, c ≠ 173 → c ≠ 174 → C c = B c := by
  obtain ⟨hw, hr, e0, w0⟩ := zInv_f hI
  have l1 : ∀ (m : Nat) (k acc : Int) (C : Nat → Int → Int), k + m = 4 → 0 ≤ k → (∀ c, c ≠ 173 → c ≠ 174 → C c = B c) → ∃ C', mGd ar (d + 3) 195 4 [.ref 183, .int (zI s), .int (zI acc), .int (zI k)] [] (zW K C O t) = some (.inl (some (.int (zI (acc + zSm (zVo1 (A 186) s) k m)))), zW K C' O t) ∧ ∀ c, c ≠ 173 → c ≠ 174 → C' c = B c := by
    intro m
    induction m with
    | zero =>
      intro k acc C hk k0 hC
      refine ⟨C, ?_, hC⟩
      rw [show acc + zSm (zVo1 (A 186) s) k 0 = acc from Int.add_zero _]
      simp (disch := first | assumption | omega | exact zr_and | exact zr_or | exact zr_xor | exact zr_shl | exact zr_shr | exact zr_ushr | exact zr_byte | exact isHall3 | exact isLaw12) only [i195_4, i195_9, i195_16, i195_26, i195_34, mB1_i, mB0_i, mB1n_i, mB0n_i, mB1_x, mB0_x, ↓if_pos, ↓if_neg, if_true, if_false, if_pos, if_neg]
    | succ m ih =>
      intro k acc C hk k0 hC
      obtain ⟨C1, d1, d2⟩ := c_setMid (d := d) (K := K) (O := O) (t := t) (ar := ar) hI (k := k) (by omega) hs (B := C) (fun c hc => by rw [hC c (by omega) (by omega), hB c hc])
      have hC1 : ∀ c, c ≠ 173 → c ≠ 174 → C1 c = B c := fun c c1 c2 => by rw [d2 c c1 c2, hC c c1 c2]
      have em : C1 184 k = zMs (A 186) k (zAll (A 186 0)) := by rw [hC1 _ (by decide) (by decide)]; exact hm k k0 (by omega)
      have r1 := zMs_rng hw (k := k) (s := s) (by omega) hs
      have r2 := zMs_rng hw (k := k) (s := zAll (A 186 0)) (by omega) ⟨by omega, Int.le_refl _⟩
      have cab := c_abs (d := d + 2) (K := K) (O := O) (t := t) (ar := ar) (A := C1) (x := zMs (A 186) k s - zMs (A 186) k (zAll (A 186 0))) (by omega)
      obtain ⟨C', q1, q2⟩ := ih (k + 1) (acc + zVo1 (A 186) s k) C1 (by omega) (by omega) hC1
      refine ⟨C', ?_, q2⟩
      rw [show acc + zSm (zVo1 (A 186) s) k (m + 1) = acc + zVo1 (A 186) s k + zSm (zVo1 (A 186) s) (k + 1) m from (Int.add_assoc _ _ _).symm, ← q1, i195_4 (by omega)]
      rw [show zVo1 (A 186) s k = zAbs (zMs (A 186) k s - zMs (A 186) k (zAll (A 186 0))) from rfl]
      simp (disch := first | assumption | omega | exact zr_and | exact zr_or | exact zr_xor | exact zr_shl | exact zr_shr | exact zr_ushr | exact zr_byte | exact isHall3 | exact isLaw12) only [i195_9, i195_16, i195_26, i195_34, d1, em, cab, mB1_i, mB0_i, mB1n_i, mB0n_i, mB1_x, mB0_x, ↓if_pos, ↓if_neg, if_true, if_false, if_pos, if_neg]
  obtain ⟨C', q1, q2⟩ := l1 4 0 0 B (by omega) (by omega) (fun _ _ _ => rfl)
  rw [Int.zero_add] at q1
  exact ⟨C', by rw [i195_0]; exact q1, q2⟩
theorem c_offOf {s : Int} {h : Int → Int} (hw : zHW0 h) (hs : 0 < s ∧ s ≤ zAll (h 0)) {B : Nat → Int → Int} (hB : B 186 = h) : ∃ C, mGd ar (d + 4) 331 0 [.ref 185, .int (zI s), .double 0, .double 0] [] (zW K B O t) = some (.inl (some (.int (zI (zVo h s)))), zW K C O t) ∧ zFt B C ∧ C 186 = h := by
  have w0 := hw.1
  have l1 : ∀ (m : Nat) (k acc : Int) (C : Nat → Int → Int), k + m = 4 → 0 ≤ k → zFt B C → C 186 = h → ∃ C', mGd ar (d + 4) 331 4 [.ref 185, .int (zI s), .int (zI acc), .int (zI k)] [] (zW K C O t) = some (.inl (some (.int (zI (acc + zSm (zVo1 h s) k m)))), zW K C' O t) ∧ zFt B C' ∧ C' 186 = h := by
    intro m
    induction m with
    | zero =>
      intro k acc C hk k0 hf hC
      refine ⟨C, ?_, hf, hC⟩
      rw [show acc + zSm (zVo1 h s) k 0 = acc from Int.add_zero _]
      simp (disch := first | assumption | omega | exact zr_and | exact zr_or | exact zr_xor | exact zr_shl | exact zr_shr | exact zr_ushr | exact zr_byte | exact isHall3 | exact isLaw12) only [i331_4, i331_9, i331_14, i331_21, i331_25, i331_31, i331_35, i331_38, i331_42, i331_50, mB1_i, mB0_i, mB1n_i, mB0n_i, mB1_x, mB0_x, ↓if_pos, ↓if_neg, if_true, if_false, if_pos, if_neg]
    | succ m ih =>
      intro k acc C hk k0 hf hC
      have wr := hw.2.2.2.2.2.1 k k0 (by omega)
      obtain ⟨C1, s1, s2, s3, s4, s5, s6, s7⟩ := c_laidAll (d := d + 1) (K := K) (O := O) (t := t) (ar := ar) (B := C) (k := k) hw hC (by omega)
      have eR1 : C1 186 (7 + k) = h (7 + k) := by rw [s3]
      obtain ⟨C2, d1, d2⟩ := c_middleOf (d := d) (K := K) (O := O) (t := t) (ar := ar) (A := C1) (r := h (7 + k)) (s := s) s4 (by rw [s3]; exact hs) wr
      rw [s3, s5] at d1
      have d3 := zLd_fr (h := h) (k := k) ⟨s3, s4, s7⟩ d2
      have eR2 : C2 186 (7 + k) = h (7 + k) := by rw [d3.1]
      have ca := c_all (d := d + 2) (K := K) (O := O) (t := t) (ar := ar) (A := C2) (by rw [d3.1]; exact w0)
      rw [d3.1] at ca
      obtain ⟨C3, e1, e2, e3⟩ := c_midAllBy (d := d) (K := K) (O := O) (t := t) (ar := ar) (r := h (7 + k)) (h := h) (k := k) (by
        by_cases hp : h 0 = 0
        · rw [hp] at hs
          have : zAll 0 = 0 := by decide
          omega
        · omega) hw wr d3
      have d1' : mGd ar (d + 3) 265 0 [.ref 185, .int (zI ((h (7 + k)))), .int (zI s)] [] (zW K C1 O t) = some (.inl (some (.int (zI (zMs h k s)))), zW K C2 O t) := d1
      have e1' : mGd ar (d + 3) 265 0 [.ref 185, .int (zI ((h (7 + k)))), .int (zI ((zAll (h 0))))] [] (zW K C2 O t) = some (.inl (some (.int (zI (zMs h k (zAll (h 0)))))), zW K C3 O t) := e1
      have r1 := zMs_rng hw (k := k) (s := s) (by omega) hs
      have r2 := zMs_rng hw (k := k) (s := zAll (h 0)) (by omega) ⟨by omega, Int.le_refl _⟩
      have cab := c_abs (d := d + 3) (K := K) (O := O) (t := t) (ar := ar) (A := C3) (x := zMs h k s - zMs h k (zAll (h 0))) (by omega)
      obtain ⟨C', q1, q2⟩ := ih (k + 1) (acc + zVo1 h s k) C3 (by omega) (by omega) (zFt_trans hf (zFt_trans s2 (zFt_trans (zFt_fr d2) (zFt_fr e2)))) e3.1
      refine ⟨C', ?_, q2⟩
      rw [show acc + zSm (zVo1 h s) k (m + 1) = acc + zVo1 h s k + zSm (zVo1 h s) (k + 1) m from (Int.add_assoc _ _ _).symm, ← q1, i331_4 (by omega)]
      rw [show zVo1 h s k = zAbs (zMs h k s - zMs h k (zAll (h 0))) from rfl]
      simp (disch := first | assumption | omega | exact zr_and | exact zr_or | exact zr_xor | exact zr_shl | exact zr_shr | exact zr_ushr | exact zr_byte | exact isHall3 | exact isLaw12) only [i331_9, i331_14, i331_21, i331_25, i331_31, i331_35, i331_38, i331_42, i331_50, s1, i280_0, eR1, d1', eR2, ca, e1', cab, mB1_i, mB0_i, mB1n_i, mB0n_i, mB1_x, mB0_x, ↓if_pos, ↓if_neg, if_true, if_false, if_pos, if_neg]
  obtain ⟨C', q1, q2⟩ := l1 4 0 0 B (by omega) (by omega) zFt_refl hB
  rw [Int.zero_add] at q1
  exact ⟨C', by rw [i331_0]; exact q1, q2⟩
theorem q_village {n : Int} (hI : zInv A) (h_n : -2147483648 ≤ n ∧ n < 2147483648) : zQ ar K O t (d + 12) 193 [.ref 0, .int (zI n)] 330 [.ref 185, .int (zI n), .double 0, .double 0, .double 0] (fun E => if E = 0 then 1 else 0) A := by
  obtain ⟨hw, hr, e0, w0⟩ := zInv_f hI
  have u6 : ∀ v, zU A 185 0 v 186 = A 186 := fun v => zU_r (by decide)
  have M1 : ∀ (B : Nat → Int → Int) (O' : Nat → Int64) (t' : Nat), B 186 = A 186 → mGd ar (d + 11) 256 0 [.int (zI n), .int (zI 1), .int (zI 8)] [] (zW K B O' t') = some (.inl (some (.int (zI (if 1 ≤ n ∧ n ≤ 8 then 1 else 0)))), zW K B O' t') := fun B O' t' e => c_in (d := (d + 11)) h_n (by decide) (by decide)
  by_cases g1 : 1 ≤ n ∧ n ≤ 8
  case neg =>
    have k1 := c_nNumberX (d := (d + 11)) (K := K) (O := O) (t := t) (ar := ar) (A := A) (p := n) (x := 1) (y := 8) h_n g1 (by decide)
    refine zQ_ex (E := 0) hI ?_ (by decide) (fun O' t' => ⟨0, zU A 185 0 1, ?_, zU_at, zFm_u⟩)
    · simp (disch := first | assumption | omega | exact zr_and | exact zr_or | exact zr_xor | exact zr_shl | exact zr_shr | exact zr_ushr | exact zr_byte | exact isHall3 | exact isLaw12) only [i193_0, i193_8, i193_16, k1, mB1_i, mB0_i, mB1n_i, mB0n_i, mB1_x, mB0_x, ↓if_pos, ↓if_neg, if_true, if_false, if_pos, if_neg]
    · have n1 := M1 (zU A 185 0 0) O' t' (u6 0)
      rw [if_neg (by omega)] at n1
      simp (disch := first | assumption | omega | exact zr_and | exact zr_or | exact zr_xor | exact zr_shl | exact zr_shr | exact zr_ushr | exact zr_byte | exact isHall3 | exact isLaw12) only [i330_0, i330_13, i330_16, i330_20, i330_21, i330_25, i330_28, i330_30, i330_39, i330_45, i330_48, i330_53, i330_57, i330_63, i330_67, i330_70, i330_79, i330_80, i330_86, n1, c_thr0, c_thr1, zU_uu, i233_0, zU_c, mB1_i, mB0_i, mB1n_i, mB0n_i, mB1_x, mB0_x, ↓if_pos, ↓if_neg, if_true, if_false, if_pos, if_neg]
  have k1 := c_nNumber (d := (d + 11)) (K := K) (O := O) (t := t) (ar := ar) (A := A) (p := n) (x := 1) (y := 8) g1 (by decide)
  have m1 : ∀ (B : Nat → Int → Int) (O' : Nat → Int64) (t' : Nat), B 186 = A 186 → mGd ar (d + 11) 256 0 [.int (zI n), .int (zI 1), .int (zI 8)] [] (zW K B O' t') = some (.inl (some (.int (zI 1))), zW K B O' t') := fun B O' t' e => by have q := M1 B O' t' e; rwa [if_pos (by omega)] at q
  have hl := zAll_lt w0
  have ce : ∀ B : Nat → Int → Int, B 3 = A 3 → mGd ar (d + 10) 24 0 [.ref 3] [] (zW K B O t) = some (.inl (some (.int (zI (zAll (A 186 0))))), zW K B O t) := fun B hB => by
    have := c_everyone (d := d + 10) (K := K) (O := O) (t := t) (ar := ar) (A := B) isHall3 (by rw [hB, e0]; exact w0)
    rw [hB, e0] at this
    exact this
  have l0 : ∀ (m : Nat) (k : Int) (C : Nat → Int → Int) (u3 u4 u5 : Value), k + m = 4 → 0 ≤ k → (∀ c, c ≠ 173 → c ≠ 174 → c ≠ 184 → C c = A c) → (∀ j, 0 ≤ j → j < k → 0 < A 186 0 → C 184 j = zMs (A 186) j (zAll (A 186 0))) → ∃ C', mGd ar (d + 11) 194 2 [.ref 183, .int (zI n), .int (zI k), u3, u4, u5] [] (zW K C O t) = mGd ar (d + 11) 194 31 [.ref 183, .int (zI n), .int (zI 4), u3, u4, u5] [] (zW K C' O t) ∧ (∀ c, c ≠ 173 → c ≠ 174 → c ≠ 184 → C' c = A c) ∧ ∀ j, 0 ≤ j → j < 4 → 0 < A 186 0 → C' 184 j = zMs (A 186) j (zAll (A 186 0)) := by
    intro m
    induction m with
    | zero =>
      intro k C u3 u4 u5 hk k0 hC hm
      have hk4 : k = 4 := by omega
      subst hk4
      refine ⟨C, ?_, hC, hm⟩
      simp (disch := first | assumption | omega | exact zr_and | exact zr_or | exact zr_xor | exact zr_shl | exact zr_shr | exact zr_ushr | exact zr_byte | exact isHall3 | exact isLaw12) only [i194_2, mB1_i, mB0_i, mB1n_i, mB0n_i, mB1_x, mB0_x, ↓if_pos, ↓if_neg, if_true, if_false, if_pos, if_neg]
    | succ m ih =>
      intro k C u3 u4 u5 hk k0 hC hm
      have c1 := ce C (hC 3 (by decide) (by decide) (by decide))
      have hC173 : ∀ c, c < 173 → C c = A c := fun c hc => hC c (by omega) (by omega) (by omega)
      have hmid : ∃ (v : Int) (C1 : Nat → Int → Int), mGd ar (d + 10) 189 0 [.ref 183, .int (zI (zAll (A 186 0))), .int (zI k)] [] (zW K C O t) = some (.inl (some (.int (zI v))), zW K C1 O t) ∧ (∀ c, c ≠ 173 → c ≠ 174 → C1 c = C c) ∧ (0 < A 186 0 → v = zMs (A 186) k (zAll (A 186 0))) := by
        by_cases hp : 0 < A 186 0
        · obtain ⟨C1, d1, d2⟩ := c_setMid (d := d + 8) (K := K) (O := O) (t := t) (ar := ar) hI (k := k) (s := zAll (A 186 0)) (by omega) ⟨zAll_pos (by omega), Int.le_refl _⟩ hC173
          exact ⟨_, C1, d1, d2, fun _ => rfl⟩
        · have hp0 : A 186 0 = 0 := by omega
          obtain ⟨C1, d1, d2⟩ := c_setMid0 (d := d + 8) (K := K) (O := O) (t := t) (ar := ar) hI (k := k) (by omega) hp0 hC173
          rw [show zAll (A 186 0) = 0 by rw [hp0]; decide]
          exact ⟨_, C1, d1, d2, fun h => absurd h hp⟩
      obtain ⟨v, C1, d1, d2, d3⟩ := hmid
      obtain ⟨C', q1, q2⟩ := ih (k + 1) (zU C1 184 k v) u3 u4 u5 (by omega) (by omega) (fun c c1 c2 c3 => by rw [zU_r c3, d2 c c1 c2, hC c c1 c2 c3]) (fun j j0 j1 hp => by
        by_cases hj : j = k
        · rw [hj, zU_at]; exact d3 hp
        · rw [zU_s hj, d2 _ (by decide) (by decide)]; exact hm j j0 (by omega) hp)
      refine ⟨C', ?_, q2⟩
      rw [← q1, i194_2 (by omega)]
      simp (disch := first | assumption | omega | exact zr_and | exact zr_or | exact zr_xor | exact zr_shl | exact zr_shr | exact zr_ushr | exact zr_byte | exact isHall3 | exact isLaw12) only [i194_7, i194_20, i194_24, i194_47, i194_50, i194_55, i194_59, i194_62, i194_68, i194_75, i194_81, i194_87, i194_93, c1, d1, mB1_i, mB0_i, mB1n_i, mB0n_i, mB1_x, mB0_x, ↓if_pos, ↓if_neg, if_true, if_false, if_pos, if_neg]
  obtain ⟨B0, f1, f2, f3⟩ := l0 4 0 A (.double 0) (.double 0) (.double 0) (by omega) (by omega) (fun _ _ _ _ => rfl) (fun j j0 j1 => by omega)
  have l1 : ∀ (m : Nat) (s b le : Int) (C : Nat → Int → Int) (u : Value), s + m = zAll (A 186 0) + 1 → 0 ≤ s → (-1 ≤ b ∧ b ≤ 300) → (0 ≤ le ∧ le ≤ 1000) → (∀ c, c ≠ 173 → c ≠ 174 → C c = B0 c) → ∃ C', mGd ar (d + 11) 194 38 [.ref 183, .int (zI n), .int (zI b), .int (zI le), .int (zI s), u] [] (zW K C O t) = some (.inl (some (.int (zI (zVf (fun s => decide (zCnt s = n)) (zVo (A 186)) s m b le)))), zW K C' O t) ∧ ∀ c, c ≠ 173 → c ≠ 174 → C' c = B0 c := by
    intro m
    induction m with
    | zero =>
      intro s b le C u hs s0 hb hle hC
      have c1 := ce C (by rw [hC _ (by decide) (by decide), f2 _ (by decide) (by decide) (by decide)])
      refine ⟨C, ?_, hC⟩
      simp (disch := first | assumption | omega | exact zr_and | exact zr_or | exact zr_xor | exact zr_shl | exact zr_shr | exact zr_ushr | exact zr_byte | exact isHall3 | exact isLaw12) only [i194_7, i194_20, i194_24, i194_38, i194_47, i194_50, i194_55, i194_59, i194_62, i194_68, i194_75, i194_81, i194_87, i194_93, c1, mB1_i, mB0_i, mB1n_i, mB0n_i, mB1_x, mB0_x, ↓if_pos, ↓if_neg, if_true, if_false, if_pos, if_neg]
      rfl
    | succ m ih =>
      intro s b le C u hs s0 hb hle hC
      have c1 := ce C (by rw [hC _ (by decide) (by decide), f2 _ (by decide) (by decide) (by decide)])
      have cc := c_bits (d := d + 10) (K := K) (O := O) (t := t) (ar := ar) (A := C) (s := s) (by omega)
      have rc := zCnt_rng (s := s)
      rw [show zVf (fun s => decide (zCnt s = n)) (zVo (A 186)) s (m + 1) b le = if decide (zCnt s = n) = true ∧ (b < 0 ∨ zVo (A 186) s < le) then zVf (fun s => decide (zCnt s = n)) (zVo (A 186)) (s + 1) m s (zVo (A 186) s) else zVf (fun s => decide (zCnt s = n)) (zVo (A 186)) (s + 1) m b le from rfl, i194_38]
      by_cases hz : zCnt s = n
      · have hs1 := zCnt_0 (s := s) (by omega) (by omega)
        have hp : 0 < A 186 0 := by
          by_cases hp : A 186 0 = 0
          · rw [hp] at hs
            have : zAll 0 = 0 := by decide
            omega
          · omega
        obtain ⟨C1, d1, d2⟩ := c_fromMiddles (d := d + 7) (K := K) (O := O) (t := t) (ar := ar) hI (s := s) (by omega) (B := C) (fun c hc => by rw [hC c (by omega) (by omega), f2 c (by omega) (by omega) (by omega)]) (fun k k0 k1 => by rw [hC _ (by decide) (by decide)]; exact f3 k k0 k1 hp)
        have hC1 : ∀ c, c ≠ 173 → c ≠ 174 → C1 c = B0 c := fun c c1 c2 => by rw [d2 c c1 c2, hC c c1 c2]
        have rv := zVo_rng hw (s := s) (by omega)
        by_cases hc : b < 0 ∨ zVo (A 186) s < le
        · obtain ⟨C', q1, q2⟩ := ih (s + 1) s (zVo (A 186) s) C1 (.int (zI (zVo (A 186) s))) (by omega) (by omega) (by omega) (by omega) hC1
          refine ⟨C', ?_, q2⟩
          rw [if_pos (show decide (zCnt s = n) = true ∧ (b < 0 ∨ zVo (A 186) s < le) from ⟨decide_eq_true hz, hc⟩), ← q1]
          by_cases hb0 : b = -1
          · simp (disch := first | assumption | omega | exact zr_and | exact zr_or | exact zr_xor | exact zr_shl | exact zr_shr | exact zr_ushr | exact zr_byte | exact isHall3 | exact isLaw12) only [i194_7, i194_20, i194_24, i194_47, i194_50, i194_55, i194_59, i194_62, i194_68, i194_75, i194_81, i194_87, i194_93, c1, cc, d1, mB1_i, mB0_i, mB1n_i, mB0n_i, mB1_x, mB0_x, ↓if_pos, ↓if_neg, if_true, if_false, if_pos, if_neg]
          · simp (disch := first | assumption | omega | exact zr_and | exact zr_or | exact zr_xor | exact zr_shl | exact zr_shr | exact zr_ushr | exact zr_byte | exact isHall3 | exact isLaw12) only [i194_7, i194_20, i194_24, i194_47, i194_50, i194_55, i194_59, i194_62, i194_68, i194_75, i194_81, i194_87, i194_93, c1, cc, d1, mB1_i, mB0_i, mB1n_i, mB0n_i, mB1_x, mB0_x, ↓if_pos, ↓if_neg, if_true, if_false, if_pos, if_neg]
        · obtain ⟨C', q1, q2⟩ := ih (s + 1) b le C1 (.int (zI (zVo (A 186) s))) (by omega) (by omega) hb hle hC1
          refine ⟨C', ?_, q2⟩
          rw [if_neg (show ¬ (decide (zCnt s = n) = true ∧ (b < 0 ∨ zVo (A 186) s < le)) from fun q => hc q.2), ← q1]
          simp (disch := first | assumption | omega | exact zr_and | exact zr_or | exact zr_xor | exact zr_shl | exact zr_shr | exact zr_ushr | exact zr_byte | exact isHall3 | exact isLaw12) only [i194_7, i194_20, i194_24, i194_47, i194_50, i194_55, i194_59, i194_62, i194_68, i194_75, i194_81, i194_87, i194_93, c1, cc, d1, mB1_i, mB0_i, mB1n_i, mB0n_i, mB1_x, mB0_x, ↓if_pos, ↓if_neg, if_true, if_false, if_pos, if_neg]
      · obtain ⟨C', q1, q2⟩ := ih (s + 1) b le C u (by omega) (by omega) hb hle hC
        refine ⟨C', ?_, q2⟩
        rw [if_neg (show ¬ (decide (zCnt s = n) = true ∧ (b < 0 ∨ zVo (A 186) s < le)) from fun q => hz (of_decide_eq_true q.1)), ← q1]
        simp (disch := first | assumption | omega | exact zr_and | exact zr_or | exact zr_xor | exact zr_shl | exact zr_shr | exact zr_ushr | exact zr_byte | exact isHall3 | exact isLaw12) only [i194_7, i194_20, i194_24, i194_47, i194_50, i194_55, i194_59, i194_62, i194_68, i194_75, i194_81, i194_87, i194_93, c1, cc, mB1_i, mB0_i, mB1n_i, mB0n_i, mB1_x, mB0_x, ↓if_pos, ↓if_neg, if_true, if_false, if_pos, if_neg]
  obtain ⟨B', q1, q2⟩ := l1 ((zAll (A 186 0)).toNat + 1) 0 (-1) 0 B0 (.double 0) (by omega) (by omega) (by omega) (by omega) (fun _ _ _ => rfl)
  have hc : zFc A B' := fun c hc => by
    have h1 : c ≠ 173 := fun e => hc (by unfold zSc; omega)
    have h2 : c ≠ 174 := fun e => hc (by unfold zSc; omega)
    have h3 : c ≠ 184 := fun e => hc (by unfold zSc; omega)
    rw [q2 c h1 h2, f2 c h1 h2 h3]
  have start : zVf (fun s => decide (zCnt s = n)) (zVo (A 186)) 0 ((zAll (A 186 0)).toNat + 1) (-1) 0 = zVf (fun s => decide (zCnt s = n)) (zVo (A 186)) 1 (zAll (A 186 0)).toNat (-1) 0 := by
    have zc : zCnt 0 = 0 := by decide
    show (if decide (zCnt 0 = n) = true ∧ ((-1 : Int) < 0 ∨ zVo (A 186) 0 < 0) then zVf (fun s => decide (zCnt s = n)) (zVo (A 186)) (0 + 1) (zAll (A 186 0)).toNat 0 (zVo (A 186) 0) else zVf (fun s => decide (zCnt s = n)) (zVo (A 186)) (0 + 1) (zAll (A 186 0)).toNat (-1) 0) = _
    rw [if_neg (fun q => by have := of_decide_eq_true q.1; omega)]
    rfl
  have hv := zVf_rng (c := fun s => decide (zCnt s = n)) (f := zVo (A 186)) (m := (zAll (A 186 0)).toNat) (s := 1) (b := -1) (le := 0) (by omega) (by omega) (by omega)
  rw [start] at q1
  refine zQ_ok (b := zVf (fun s => decide (zCnt s = n)) (zVo (A 186)) 1 (zAll (A 186 0)).toNat (-1) 0) (A1 := B') hI ?_ hc (by omega) (fun O' t' => ?_)
  · simp (disch := first | assumption | omega | exact zr_and | exact zr_or | exact zr_xor | exact zr_shl | exact zr_shr | exact zr_ushr | exact zr_byte | exact isHall3 | exact isLaw12) only [i193_0, i193_8, i193_16, k1, i194_0, i194_7, i194_20, i194_24, i194_31, i194_47, i194_50, i194_55, i194_59, i194_62, i194_68, i194_75, i194_81, i194_87, i194_93, f1, q1, mB1_i, mB0_i, mB1n_i, mB0n_i, mB1_x, mB0_x, ↓if_pos, ↓if_neg, if_true, if_false, if_pos, if_neg]
  · have u7 : zU B' 185 0 0 186 = A 186 := by rw [zU_r (by decide), zFc_186 hc]
    have n1 := m1 (zU B' 185 0 0) O' t' u7
    have l2 : ∀ (m : Nat) (s b le l2 : Int) (C : Nat → Int → Int), s + m = zAll (A 186 0) + 1 → 1 ≤ s → (-1 ≤ b ∧ b ≤ 300) → (b < 0 → le = 1000000) → (0 ≤ b → le = l2 ∧ 0 ≤ le ∧ le ≤ 396) → zFt (zU B' 185 0 0) C → C 186 = A 186 → ∃ C', mGd ar (d + 12) 330 39 [.ref 185, .int (zI n), .int (zI b), .int (zI le), .int (zI s)] [] (zW K C O' t') = some (.inl (some (.int (zI (zVf (fun s => decide (zCnt s = n)) (zVo (A 186)) s m b l2)))), zW K C' O' t') ∧ zFt (zU B' 185 0 0) C' := by
      intro m
      induction m with
      | zero =>
        intro s b le l2 C hs s1 hb h1 h2 hf hC
        have ca := c_all (d := d + 10) (K := K) (O := O') (t := t') (ar := ar) (A := C) (by rw [hC]; exact w0)
        rw [hC] at ca
        refine ⟨C, ?_, hf⟩
        simp (disch := first | assumption | omega | exact zr_and | exact zr_or | exact zr_xor | exact zr_shl | exact zr_shr | exact zr_ushr | exact zr_byte | exact isHall3 | exact isLaw12) only [i330_13, i330_16, i330_20, i330_21, i330_25, i330_28, i330_30, i330_39, i330_45, i330_48, i330_53, i330_57, i330_63, i330_67, i330_70, i330_79, i330_80, i330_86, ca, mB1_i, mB0_i, mB1n_i, mB0n_i, mB1_x, mB0_x, ↓if_pos, ↓if_neg, if_true, if_false, if_pos, if_neg]
        rfl
      | succ m ih =>
        intro s b le l2 C hs s1 hb h1 h2 hf hC
        have ca := c_all (d := d + 10) (K := K) (O := O') (t := t') (ar := ar) (A := C) (by rw [hC]; exact w0)
        rw [hC] at ca
        have cc := c_bits (d := d + 11) (K := K) (O := O') (t := t') (ar := ar) (A := C) (s := s) (by omega)
        have rc := zCnt_rng (s := s)
        rw [show zVf (fun s => decide (zCnt s = n)) (zVo (A 186)) s (m + 1) b l2 = if decide (zCnt s = n) = true ∧ (b < 0 ∨ zVo (A 186) s < l2) then zVf (fun s => decide (zCnt s = n)) (zVo (A 186)) (s + 1) m s (zVo (A 186) s) else zVf (fun s => decide (zCnt s = n)) (zVo (A 186)) (s + 1) m b l2 from rfl, i330_39]
        by_cases hz : zCnt s = n
        · obtain ⟨C1, d1, d2, d3⟩ := c_offOf (d := d + 7) (K := K) (O := O') (t := t') (ar := ar) hw (s := s) (by omega) hC
          have rv := zVo_rng hw (s := s) (by omega)
          by_cases hc : b < 0 ∨ zVo (A 186) s < l2
          · obtain ⟨C2, e1, e2, e3⟩ := c_offOf (d := d + 7) (K := K) (O := O') (t := t') (ar := ar) hw (s := s) (by omega) d3
            obtain ⟨C', q1, q2⟩ := ih (s + 1) s (zVo (A 186) s) (zVo (A 186) s) C2 (by omega) (by omega) (by omega) (by omega) (fun _ => ⟨rfl, rv.1, rv.2⟩) (zFt_trans hf (zFt_trans d2 e2)) e3
            refine ⟨C', ?_, q2⟩
            rw [if_pos (show decide (zCnt s = n) = true ∧ (b < 0 ∨ zVo (A 186) s < l2) from ⟨decide_eq_true hz, hc⟩), ← q1]
            have hlt : zVo (A 186) s < le := by
              rcases hc with hc | hc
              · have := h1 hc; omega
              · by_cases hb0 : b < 0
                · have := h1 hb0; omega
                · have := h2 (by omega); omega
            have hle2 : -2147483648 ≤ le ∧ le < 2147483648 := by
              by_cases hb0 : b < 0
              · have := h1 hb0; omega
              · have := h2 (by omega); omega
            simp (disch := first | assumption | omega | exact zr_and | exact zr_or | exact zr_xor | exact zr_shl | exact zr_shr | exact zr_ushr | exact zr_byte | exact isHall3 | exact isLaw12) only [i330_13, i330_16, i330_20, i330_21, i330_25, i330_28, i330_30, i330_45, i330_48, i330_53, i330_57, i330_63, i330_67, i330_70, i330_79, i330_80, i330_86, ca, cc, d1, e1, mB1_i, mB0_i, mB1n_i, mB0n_i, mB1_x, mB0_x, ↓if_pos, ↓if_neg, if_true, if_false, if_pos, if_neg]
          · obtain ⟨C', q1, q2⟩ := ih (s + 1) b le l2 C1 (by omega) (by omega) hb h1 h2 (zFt_trans hf d2) d3
            refine ⟨C', ?_, q2⟩
            rw [if_neg (show ¬ (decide (zCnt s = n) = true ∧ (b < 0 ∨ zVo (A 186) s < l2)) from fun q => hc q.2), ← q1]
            have := h2 (by omega)
            simp (disch := first | assumption | omega | exact zr_and | exact zr_or | exact zr_xor | exact zr_shl | exact zr_shr | exact zr_ushr | exact zr_byte | exact isHall3 | exact isLaw12) only [i330_13, i330_16, i330_20, i330_21, i330_25, i330_28, i330_30, i330_45, i330_48, i330_53, i330_57, i330_63, i330_67, i330_70, i330_79, i330_80, i330_86, ca, cc, d1, mB1_i, mB0_i, mB1n_i, mB0n_i, mB1_x, mB0_x, ↓if_pos, ↓if_neg, if_true, if_false, if_pos, if_neg]
        · obtain ⟨C', q1, q2⟩ := ih (s + 1) b le l2 C (by omega) (by omega) hb h1 h2 hf hC
          refine ⟨C', ?_, q2⟩
          rw [if_neg (show ¬ (decide (zCnt s = n) = true ∧ (b < 0 ∨ zVo (A 186) s < l2)) from fun q => hz (of_decide_eq_true q.1)), ← q1]
          simp (disch := first | assumption | omega | exact zr_and | exact zr_or | exact zr_xor | exact zr_shl | exact zr_shr | exact zr_ushr | exact zr_byte | exact isHall3 | exact isLaw12) only [i330_13, i330_16, i330_20, i330_21, i330_25, i330_28, i330_30, i330_45, i330_48, i330_53, i330_57, i330_63, i330_67, i330_70, i330_79, i330_80, i330_86, ca, cc, mB1_i, mB0_i, mB1n_i, mB0n_i, mB1_x, mB0_x, ↓if_pos, ↓if_neg, if_true, if_false, if_pos, if_neg]
    obtain ⟨A3, p1, p2⟩ := l2 (zAll (A 186 0)).toNat 1 (-1) 1000000 0 (zU B' 185 0 0) (by omega) (by omega) (by omega) (fun _ => rfl) (by omega) zFt_refl u7
    have hz := zFm_0 (A := B') (A' := A3) p2
    refine ⟨A3, ?_, hz.1, hz.2⟩
    rw [← p1]
    simp (disch := first | assumption | omega | exact zr_and | exact zr_or | exact zr_xor | exact zr_shl | exact zr_shr | exact zr_ushr | exact zr_byte | exact isHall3 | exact isLaw12) only [i330_0, i330_13, i330_16, i330_20, i330_21, i330_25, i330_28, i330_30, i330_45, i330_48, i330_53, i330_57, i330_63, i330_67, i330_70, i330_79, i330_80, i330_86, n1, c_thr0, mB1_i, mB0_i, mB1n_i, mB0n_i, mB1_x, mB0_x, ↓if_pos, ↓if_neg, if_true, if_false, if_pos, if_neg]
end VILLAGE
