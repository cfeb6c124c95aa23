/-! CONTRACTS, 12: a day in the reference -/
theorem zCds_congr {w w' : Int → Int} (e : ∀ i, 423 ≤ i → i < 1272 → w' i = w i) : ∀ (cs : List Int) (i : Int), 0 ≤ i → i + cs.length ≤ 400 → zCds w i cs → zCds w' i cs
  | [], _, _, _, _ => trivial
  | c :: cs, i, h0, h4, ⟨h1, h2⟩ => by
    rw [List.length_cons] at h4
    exact ⟨by rw [e _ (by omega) (by omega), e _ (by omega) (by omega)]; exact h1, zCds_congr e cs (i + 1) (by omega) (by omega) h2⟩
theorem zLwR_congr {w w' : Int → Int} (e : ∀ i, 423 ≤ i → i < 1272 → w' i = w i) : ∀ (L : zLines) (n i : Int), 0 ≤ n → n + L.length ≤ 12 → 0 ≤ i → i + zLen L ≤ 400 → zLwR w n i L → zLwR w' n i L
  | [], _, _, _, _, _, _, _ => trivial
  | q :: r, n, i, n0, n12, i0, i4, ⟨l1, l2, l3, l4, l5, l6⟩ => by
    have hlq : zLen (q :: r) = q.2.2.length + zLen r := rfl
    have hz := zLen_nn (L := r)
    rw [List.length_cons] at n12
    refine ⟨by rw [e _ (by omega) (by omega)]; exact l1, by rw [e _ (by omega) (by omega)]; exact l2, by rw [e _ (by omega) (by omega)]; exact l3, by rw [e _ (by omega) (by omega)]; exact l4, zCds_congr e _ _ i0 (by omega) l5, zLwR_congr e r (n + 1) _ (by omega) (by omega) (by omega) (by omega) l6⟩
theorem zLawR_congr {w w' : Int → Int} {L : zLines} (e2 : w' 2 = w 2) (e : ∀ i, 423 ≤ i → i < 1272 → w' i = w i) (h : zLawR w L) : zLawR w' L := by
  rcases h with ⟨h1, h2⟩ | ⟨h1, h2, h3, h4, h5, h6⟩
  · exact Or.inl ⟨by rw [e2]; exact h1, h2⟩
  · exact Or.inr ⟨by rw [e2]; exact h1, by rw [e _ (by omega) (by omega)]; exact h2, h3, h4, h5, zLwR_congr e L 0 0 (by omega) (by omega) (by omega) (by omega) h6⟩
/-- what a day of the reference leaves as it was -/
def zRf (A A' : Nat → Int → Int) : Prop := (∀ j, j ≠ 19 → A' 185 j = A 185 j) ∧ (∀ c, c ≠ 185 → c ≠ 186 → c ≠ 193 → c ≠ 194 → c ≠ 195 → A' c = A c) ∧ ∀ i, i < 0 ∨ 423 ≤ i → A' 186 i = A 186 i
theorem zRf_refl {A : Nat → Int → Int} : zRf A A := ⟨fun _ _ => rfl, fun _ _ _ _ _ _ => rfl, fun _ _ => rfl⟩
theorem zRf_trans {A B C : Nat → Int → Int} (h1 : zRf A B) (h2 : zRf B C) : zRf A C :=
  ⟨fun j hj => by rw [h2.1 j hj, h1.1 j hj], fun c a1 a2 a3 a4 a5 => by rw [h2.2.1 c a1 a2 a3 a4 a5, h1.2.1 c a1 a2 a3 a4 a5], fun i hi => by rw [h2.2.2 i hi, h1.2.2 i hi]⟩
section RDAY
variable {ar : Nat → Nat × (Nat → Int32)} {d t : Nat} {K : Nat → Nat → Option Nat} {A A' : Nat → Int → Int} {O : Nat → Int64}
theorem zRf_u {i v : Int} (hi : 0 ≤ i ∧ i < 423) : zRf A (zU A 186 i v) :=
  ⟨fun j _ => by rw [zU_c (by decide)], fun c _ h2 _ _ _ => by rw [zU_r h2], fun j hj => by rw [zU_s (by omega)]⟩
/-- rows laid and a middle of some -/
theorem c_laid {k : Int} (hw : zHW0 (A 186)) (hk : 0 ≤ k ∧ k < 4) : ∃ A', mGd ar (d + 2) 263 0 [.ref 185, .int (zI k), .double 0] [] (zW K A O t) = some (.inl none, zW K A' O t) ∧ (∀ c, c ≠ 193 → A' c = A c) ∧ zROk A' ∧ ∀ s, zSel s (zRP A') 0 (A' 186 0).toNat = zSel s (zWP (A 186) k) 0 (A 186 0).toNat := by
  obtain ⟨A1, g1, g2, g3⟩ := c_lays (d := d) (K := K) (O := O) (t := t) (ar := ar) hw.1 hk
  have e : A1 186 = A 186 := g2 _ (by decide)
  refine ⟨A1, g1, g2, ⟨by rw [e]; exact hw.1, fun p p0 p1 => ?_, fun p p0 p1 => ?_⟩, fun s => ?_⟩
  · rw [e] at p1; rw [g3 p p0 p1]; exact hw.2.2.2.2.2.2.2.1 p k p0 p1 hk.1 hk.2
  · rw [e] at p1 ⊢; exact hw.2.2.2.2.2.2.2.2.1 p p0 p1
  · rw [e]
    refine zSel_congr (fun i h1 h2 => ⟨rfl, fun _ => ?_⟩)
    unfold zRP zWP
    rw [e, g3 i h1 (by omega)]
theorem c_middleNow {k : Int} (hw : zHW0 (A 186)) (hk : 0 ≤ k ∧ k < 4) (hp : 0 < A 186 0) : ∃ A', mGd ar (d + 4) 286 0 [.ref 185, .int (zI k)] [] (zW K A O t) = some (.inl (some (.int (zI (zMid (A 186 (7 + k)) (zSel (zAll (A 186 0)) (zWP (A 186) k) 0 (A 186 0).toNat))))), zW K A' O t) ∧ (∀ j, j ≠ 19 → A' 185 j = A 185 j) ∧ ∀ c, c ≠ 185 → c ≠ 193 → c ≠ 194 → A' c = A c := by
  obtain ⟨A1, g1, g2, g3, g4⟩ := c_laid (d := d + 1) (K := K) (O := O) (t := t) (ar := ar) hw hk
  have e : A1 186 = A 186 := g2 _ (by decide)
  have w0 := hw.1
  have hl := zAll_lt w0
  have hpos : 0 < zAll (A 186 0) := by
    have h : ∀ k : Fin 9, 0 < k.val → 0 < zAll (k.val : Int) := by decide +kernel
    have := h ⟨(A 186 0).toNat, by omega⟩ (by show 0 < (A 186 0).toNat; omega)
    simpa only [Int.toNat_of_nonneg w0.1] using this
  obtain ⟨A2, f1, f2, f3⟩ := c_middleOf (d := d) (K := K) (O := O) (t := t) (ar := ar) (A := A1) (r := A 186 (7 + k)) (s := zAll (A 186 0)) g3 (by rw [e]; omega) (hw.2.2.2.2.2.1 k hk.1 hk.2)
  rw [g4] at f1
  have ca := c_all (d := d + 2) (K := K) (O := O) (t := t) (ar := ar) (A := A1) (by rw [e]; exact w0)
  rw [e] at ca
  have e7 : A1 186 (7 + k) = A 186 (7 + k) := by rw [e]
  refine ⟨A2, ?_, fun j hj => by rw [f2 j hj, g2 _ (by decide)], fun c c1 c2 c3 => by rw [f3 c c1 c3, g2 c c2]⟩
  simp (disch := first | assumption | omega | exact zr_and | exact zr_or | exact zr_xor | exact zr_shl | exact zr_shr | exact zr_ushr | exact zr_byte) only [i286_0, i286_5, i286_11, i286_15, i286_18, g1, i280_0, ca, f1, e7, mB1_i, mB0_i, mB1n_i, mB0n_i, mB1_x, mB0_x, ↓if_pos, ↓if_neg, if_true, if_false, if_pos, if_neg]
theorem zHW0_man {h g : Int → Int} (hw : zHW0 h) (e : ∀ i, 0 ≤ i → i < 63 → ¬ (11 ≤ i ∧ i < 15) → g i = h i) (em : ∀ k, 0 ≤ k → k < 4 → 0 ≤ g (11 + k) ∧ g (11 + k) ≤ 99) : zHW0 g := by
  obtain ⟨w0, w1, w2, w3, w4, wr, wm, wn, ww, ws⟩ := hw
  unfold zHW0
  rw [e 0 (by omega) (by omega) (by omega), e 1 (by omega) (by omega) (by omega), e 2 (by omega) (by omega) (by omega), e 3 (by omega) (by omega) (by omega), e 4 (by omega) (by omega) (by omega)]
  refine ⟨w0, w1, w2, w3, w4, fun k h1 h2 => ?_, em, fun p k h1 h2 h3 h4 => ?_, fun p h1 h2 => ?_, fun p h1 h2 => ?_⟩
  · rw [e _ (by omega) (by omega) (by omega)]; exact wr k h1 h2
  · rw [e _ (by omega) (by omega) (by omega)]; exact wn p k h1 h2 h3 h4
  · rw [e _ (by omega) (by omega) (by omega)]; exact ww p h1 h2
  · rw [e _ (by omega) (by omega) (by omega)]; exact ws p h1 h2
theorem rg_man (hw : zHW0 (A 186)) {u2 u3 u4 : Value} :
    ∀ (m : Nat) (k : Int) (B : Nat → Int → Int), k + m = 4 → 0 ≤ k → zRf A B → (∀ i, ¬ (11 ≤ i ∧ i < 11 + k) → B 186 i = A 186 i) → (∀ j, 0 ≤ j → j < k → B 186 (11 + j) = zMan (A 186) j) →
    ∃ (B' : Nat → Int → Int) (k' : Int), mGd ar (d + 5) 285 2 [.ref 185, .int (zI k), u2, u3, u4] [] (zW K B O t) = mGd ar (d + 5) 285 34 [.ref 185, .int (zI (k')), u2, u3, u4] [] (zW K B' O t) ∧ zRf A B' ∧ (∀ i, ¬ (11 ≤ i ∧ i < 15) → B' 186 i = A 186 i) ∧ ∀ j, 0 ≤ j → j < 4 → B' 186 (11 + j) = zMan (A 186) j := by
  have w0 := hw.1
  intro m
  induction m with
  | zero =>
    intro k B hk k0 hf h1 h2
    refine ⟨B, k, ?_, hf, fun i hi => h1 i (by omega), fun j j0 j1 => h2 j j0 (by omega)⟩
    simp (disch := first | assumption | omega | exact zr_and | exact zr_or | exact zr_xor | exact zr_shl | exact zr_shr | exact zr_ushr | exact zr_byte) only [i285_2, mB1_i, mB0_i, mB1n_i, mB0n_i, mB1_x, mB0_x, ↓if_pos, ↓if_neg, if_true, if_false, if_pos, if_neg]
  | succ m ih =>
    intro k B hk k0 hf h1 h2
    have e0 : B 186 0 = A 186 0 := h1 0 (by omega)
    by_cases hp : 0 < A 186 0
    · have hwB : zHW0 (B 186) := zHW0_man hw (fun i _ _ hi => h1 i (by omega)) (fun j j0 j1 => by
        by_cases hj : j < k
        · rw [h2 j j0 hj]; exact zMan_rng hw ⟨j0, j1⟩
        · rw [h1 _ (by omega)]; exact hw.2.2.2.2.2.2.1 j j0 j1)
      obtain ⟨B1, g1, g2, g3⟩ := c_middleNow (d := d) (K := K) (O := O) (t := t) (ar := ar) (A := B) (k := k) hwB (by omega) (by omega)
      have e7 : B 186 (7 + k) = A 186 (7 + k) := h1 _ (by omega)
      have es : zSel (zAll (B 186 0)) (zWP (B 186) k) 0 (B 186 0).toNat = zSel (zAll (A 186 0)) (zWP (A 186) k) 0 (A 186 0).toNat := by
        rw [e0]
        refine zSel_congr (fun i i1 i2 => ⟨rfl, fun _ => ?_⟩)
        unfold zWP
        rw [h1 _ (by omega), h1 _ (by omega)]
      have hman : zMan (A 186) k = zMid (A 186 (7 + k)) (zSel (zAll (A 186 0)) (zWP (A 186) k) 0 (A 186 0).toNat) := by unfold zMan; rw [if_pos hp]
      rw [es, e7, ← hman] at g1
      have e186 : B1 186 = B 186 := g3 _ (by decide) (by decide) (by decide)
      obtain ⟨B', k', f1, f2⟩ := ih (k + 1) (zU B1 186 (11 + k) (zMan (A 186) k)) (by omega) (by omega) ⟨fun j hj => by rw [zU_c (by decide), g2 j hj, hf.1 j hj], fun c c1 c2 c3 c4 c5 => by rw [zU_r c2, g3 c c1 c3 c4, hf.2.1 c c1 c2 c3 c4 c5], fun i hi => by rw [zU_s (by omega), e186]; exact hf.2.2 i hi⟩ (fun i hi => by rw [zU_s (by omega), e186]; exact h1 i (by omega)) (fun j j0 j1 => by
        by_cases hj : j = k
        · rw [hj, zU_at]
        · rw [zU_s (by omega), e186]; exact h2 j j0 (by omega))
      refine ⟨B', k', ?_, f2⟩
      rw [← f1, i285_2 (by omega)]
      simp (disch := first | assumption | omega | exact zr_and | exact zr_or | exact zr_xor | exact zr_shl | exact zr_shr | exact zr_ushr | exact zr_byte) only [i285_7, i233_0, e0, i285_11, i285_14, g1, i285_27, mB1_i, mB0_i, mB1n_i, mB0n_i, mB1_x, mB0_x, ↓if_pos, ↓if_neg, if_true, if_false, if_pos, if_neg]
    · refine ⟨B, k, ?_, hf, fun i hi => h1 i (by omega), fun j j0 j1 => ?_⟩
      · simp (disch := first | assumption | omega | exact zr_and | exact zr_or | exact zr_xor | exact zr_shl | exact zr_shr | exact zr_ushr | exact zr_byte) only [i285_2, i285_7, i233_0, i285_11, mB1_i, mB0_i, mB1n_i, mB0n_i, mB1_x, mB0_x, ↓if_pos, ↓if_neg, if_true, if_false, if_pos, if_neg]
      · by_cases hj : j < k
        · exact h2 j j0 hj
        · rw [h1 _ (by omega)]; unfold zMan; rw [if_neg hp]
theorem rg_in {L : zLines} (hw : zHW0 (A 186)) (hL : zLawR (A 186) L) {p : Int} (hp : 0 ≤ p ∧ p < A 186 0) (hs : A 186 (15 + 6 * p + 5) = 0) :
    ∀ (m : Nat) (k c : Int) (B : Nat → Int → Int) (u4 : Value), k + m = 4 → 0 ≤ k → zRf A B → (∀ i, i < 11 ∨ 15 + 6 * p + k ≤ i → B 186 i = A 186 i) → (B 186 (15 + 6 * p + 5) = 0) → (∀ j, 0 ≤ j → j < 4 → B 186 (11 + j) = zMan (A 186) j) →
    ∃ (B' : Nat → Int → Int) (v4 : Value), mGd ar (d + 6) 285 48 [.ref 185, .int (zI c), .int (zI p), .int (zI k), u4] [] (zW K B O t) = mGd ar (d + 6) 285 107 [.ref 185, .int (zI ((c + zSm (zCh1 (A 186) L p) k m))), .int (zI p), .int (zI 4), v4] [] (zW K B' O t) ∧ zRf A B' ∧ (∀ i, ¬ (15 + 6 * p + k ≤ i ∧ i < 15 + 6 * p + 4) → B' 186 i = B 186 i) ∧ ∀ j, k ≤ j → j < 4 → B' 186 (15 + 6 * p + j) = zNum (A 186) L p j := by
  have w0 := hw.1
  intro m
  induction m with
  | zero =>
    intro k c B u4 hk k0 hf h1 h5 hM
    refine ⟨B, u4, ?_, hf, fun _ _ => rfl, fun j j0 j1 => by omega⟩
    rw [show c + zSm (zCh1 (A 186) L p) k 0 = c from Int.add_zero _, show k = 4 by omega]
    simp (disch := first | assumption | omega | exact zr_and | exact zr_or | exact zr_xor | exact zr_shl | exact zr_shr | exact zr_ushr | exact zr_byte) only [i285_48, mB1_i, mB0_i, mB1n_i, mB0n_i, mB1_x, mB0_x, ↓if_pos, ↓if_neg, if_true, if_false, if_pos, if_neg]
  | succ m ih =>
    intro k c B u4 hk k0 hf h1 h5 hM
    have ek := h1 (15 + 6 * p + k) (by omega)
    have e3 := h1 3 (by omega)
    have wk := hw.2.2.2.2.2.2.2.1 p k hp.1 hp.2 k0 (by omega)
    have wm := zMan_rng hw (k := k) (by omega)
    have ho5 := c_of (d := d + 4) (K := K) (O := O) (t := t) (ar := ar) (A := B) (p := p) (k := 5) (by omega) (by omega)
    rw [h5] at ho5
    obtain ⟨B1, g1, g2⟩ := c_rgoesTo (d := d) (K := K) (O := O) (t := t) (ar := ar) (A := B) (p := p) (k := k) (L := L) (by omega) (by omega) (by rw [ek]; exact wk) (by rw [hM k k0 (by omega)]; exact wm) (by rw [e3]; exact hw.2.2.2.1) (zLawR_congr (h1 2 (by omega)) (fun i i1 i2 => hf.2.2 i (by omega)) hL)
    have hval : zGoes p k (B 186 (15 + 6 * p + k)) (B 186 (11 + k)) (B 186 3) L = zNum (A 186) L p k := by
      rw [ek, e3, hM k k0 (by omega)]; unfold zNum; rw [if_neg (by omega)]
    rw [hval] at g1
    have e186 : B1 186 = B 186 := g2 _ (by decide)
    have ho := c_of (d := d + 4) (K := K) (O := O) (t := t) (ar := ar) (A := B1) (p := p) (k := k) (by omega) (by omega)
    rw [e186, ek] at ho
    have wn := zNum_rng (L := L) hw hp (show 0 ≤ k ∧ k < 4 by omega)
    obtain ⟨B', v4, f1, f2, f3, f4⟩ := ih (k + 1) (c + zCh1 (A 186) L p k) (zU B1 186 (15 + 6 * p + k) (zNum (A 186) L p k)) (.int (zI (zNum (A 186) L p k))) (by omega) (by omega) ⟨fun j hj => by rw [zU_c (by decide), g2 _ (by decide), hf.1 j hj], fun c c1 c2 c3 c4 c5 => by rw [zU_r c2, g2 c c5, hf.2.1 c c1 c2 c3 c4 c5], fun i hi => by rw [zU_s (by omega), e186]; exact hf.2.2 i hi⟩ (fun i hi => by rw [zU_s (by omega), e186]; exact h1 i (by omega)) (by rw [zU_s (by omega), e186]; exact h5) (fun j j0 j1 => by rw [zU_s (by omega), e186]; exact hM j j0 j1)
    refine ⟨B', v4, ?_, f2, fun i hi => by rw [f3 i (by omega), zU_s (by omega), e186], fun j j0 j1 => ?_⟩
    · rw [show zSm (zCh1 (A 186) L p) k (m + 1) = zCh1 (A 186) L p k + zSm (zCh1 (A 186) L p) (k + 1) m from rfl, ← Int.add_assoc, ← f1, i285_48 (by omega)]
      unfold zCh1
      by_cases hch : zNum (A 186) L p k = A 186 (15 + 6 * p + k)
      · rw [if_pos hch]
        simp (disch := first | assumption | omega | exact zr_and | exact zr_or | exact zr_xor | exact zr_shl | exact zr_shr | exact zr_ushr | exact zr_byte) only [i285_53, ho5, i285_59, i285_62, g1, i285_68, ho, i285_79, i285_86, i285_87, i234_0, i285_98, mB1_i, mB0_i, mB1n_i, mB0n_i, mB1_x, mB0_x, ↓if_pos, ↓if_neg, if_true, if_false, if_pos, if_neg]
      · rw [if_neg hch]
        simp (disch := first | assumption | omega | exact zr_and | exact zr_or | exact zr_xor | exact zr_shl | exact zr_shr | exact zr_ushr | exact zr_byte) only [i285_53, ho5, i285_59, i285_62, g1, i285_68, ho, i285_79, i285_82, i285_87, i234_0, i285_98, mB1_i, mB0_i, mB1n_i, mB0n_i, mB1_x, mB0_x, ↓if_pos, ↓if_neg, if_true, if_false, if_pos, if_neg]
    · by_cases hj : j = k
      · rw [hj, f3 _ (by omega), zU_at]
      · exact f4 j (by omega) j1
theorem rg_out {L : zLines} (hw : zHW0 (A 186)) (hL : zLawR (A 186) L) :
    ∀ (m : Nat) (p c : Int) (B : Nat → Int → Int) (u3 u4 : Value), p + m = A 186 0 → 0 ≤ p → zRf A B → (∀ i, i < 11 ∨ 15 + 6 * p ≤ i ∨ (15 ≤ i ∧ 4 ≤ (i - 15) % 6) → B 186 i = A 186 i) → (∀ j, 0 ≤ j → j < 4 → B 186 (11 + j) = zMan (A 186) j) → (∀ q j, 0 ≤ q → q < p → 0 ≤ j → j < 4 → B 186 (15 + 6 * q + j) = zNum (A 186) L q j) →
    ∃ (B' : Nat → Int → Int), mGd ar (d + 6) 285 38 [.ref 185, .int (zI c), .int (zI p), u3, u4] [] (zW K B O t) = some (.inl (some (.int (zI (c + zSm (fun p => zSm (zCh1 (A 186) L p) 0 4) p m)))), zW K B' O t) ∧ zRf A B' ∧ (∀ i, i < 11 ∨ 15 + 6 * A 186 0 ≤ i ∨ (15 ≤ i ∧ 4 ≤ (i - 15) % 6) → B' 186 i = A 186 i) ∧ (∀ j, 0 ≤ j → j < 4 → B' 186 (11 + j) = zMan (A 186) j) ∧ ∀ q j, 0 ≤ q → q < A 186 0 → 0 ≤ j → j < 4 → B' 186 (15 + 6 * q + j) = zNum (A 186) L q j := by
  have w0 := hw.1
  intro m
  induction m with
  | zero =>
    intro p c B u3 u4 hp p0 hf h1 hM hN
    have e0 : B 186 0 = A 186 0 := h1 0 (by omega)
    have hpe : p = A 186 0 := by omega
    refine ⟨B, ?_, hf, by rw [← hpe]; exact h1, hM, by rw [← hpe]; exact hN⟩
    rw [show c + zSm (fun p => zSm (zCh1 (A 186) L p) 0 4) p 0 = c from Int.add_zero _]
    simp (disch := first | assumption | omega | exact zr_and | exact zr_or | exact zr_xor | exact zr_shl | exact zr_shr | exact zr_ushr | exact zr_byte) only [i285_38, i233_0, i285_43, i285_113, mB1_i, mB0_i, mB1n_i, mB0n_i, mB1_x, mB0_x, ↓if_pos, ↓if_neg, if_true, if_false, if_pos, if_neg]
  | succ m ih =>
    intro p c B u3 u4 hp p0 hf h1 hM hN
    have e0 : B 186 0 = A 186 0 := h1 0 (by omega)
    have e5 := h1 (15 + 6 * p + 5) (by omega)
    have hs := hw.2.2.2.2.2.2.2.2.2 p p0 (by omega)
    rw [show zSm (fun p => zSm (zCh1 (A 186) L p) 0 4) p (m + 1) = zSm (zCh1 (A 186) L p) 0 4 + zSm (fun p => zSm (zCh1 (A 186) L p) 0 4) (p + 1) m from rfl, ← Int.add_assoc]
    by_cases h5 : A 186 (15 + 6 * p + 5) = 0
    · obtain ⟨B1, v4, g1, g2, g3, g4⟩ := rg_in (d := d) (K := K) (O := O) (t := t) (ar := ar) hw hL (p := p) (by omega) h5 4 0 c B u4 (by omega) (by omega) hf (fun i hi => h1 i (by omega)) (by rw [e5]; exact h5) hM
      obtain ⟨B', f1, f2⟩ := ih (p + 1) (c + zSm (zCh1 (A 186) L p) 0 4) B1 (.int (zI 4)) v4 (by omega) (by omega) g2 (fun i hi => by rw [g3 i (by omega)]; exact h1 i (by omega)) (fun j j0 j1 => by rw [g3 _ (by omega)]; exact hM j j0 j1) (fun q j q0 q1 j0 j1 => by
        by_cases hq : q = p
        · rw [hq]; exact g4 j j0 j1
        · rw [g3 _ (by omega)]; exact hN q j q0 (by omega) j0 j1)
      refine ⟨B', ?_, f2⟩
      rw [← f1, i285_38]
      simp (disch := first | assumption | omega | exact zr_and | exact zr_or | exact zr_xor | exact zr_shl | exact zr_shr | exact zr_ushr | exact zr_byte) only [i233_0, e0, i285_43, i285_46, g1, i285_107, mB1_i, mB0_i, mB1n_i, mB0n_i, mB1_x, mB0_x, ↓if_pos, ↓if_neg, if_true, if_false, if_pos, if_neg]
    · have hnum : ∀ j, zNum (A 186) L p j = A 186 (15 + 6 * p + j) := fun j => by unfold zNum; rw [if_pos (by omega)]
      have hz : zSm (zCh1 (A 186) L p) 0 4 = 0 := by
        have : zSm (zCh1 (A 186) L p) 0 4 = zSm (fun _ => 0) 0 4 := zSm_congr (fun i _ _ => by unfold zCh1; rw [if_pos (hnum i)])
        rw [this]; rfl
      have ho5 := c_of (d := d + 4) (K := K) (O := O) (t := t) (ar := ar) (A := B) (p := p) (k := 5) (by omega) (by omega)
      rw [e5] at ho5
      obtain ⟨B', f1, f2⟩ := ih (p + 1) c B (.int (zI 0)) u4 (by omega) (by omega) hf (fun i hi => h1 i (by omega)) hM (fun q j q0 q1 j0 j1 => by
        by_cases hq : q = p
        · rw [hq, hnum, h1 _ (by omega)]
        · exact hN q j q0 (by omega) j0 j1)
      refine ⟨B', ?_, f2⟩
      rw [hz, Int.add_zero, ← f1, i285_38]
      simp (disch := first | assumption | omega | exact zr_and | exact zr_or | exact zr_xor | exact zr_shl | exact zr_shr | exact zr_ushr | exact zr_byte) only [i233_0, e0, i285_43, i285_46, i285_48, i285_53, ho5, i285_59, i285_107, mB1_i, mB0_i, mB1n_i, mB0n_i, mB1_x, mB0_x, ↓if_pos, ↓if_neg, if_true, if_false, if_pos, if_neg]
theorem c_allGo {L : zLines} (hw : zHW0 (A 186)) (hL : zLawR (A 186) L) : ∃ A', mGd ar (d + 6) 285 0 [.ref 185, .double 0, .double 0, .double 0, .double 0] [] (zW K A O t) = some (.inl (some (.int (zI (zChg (A 186) L)))), zW K A' O t) ∧ zRf A A' ∧ ∀ i, 0 ≤ i → A' 186 i = zGo1 (A 186) L i := by
  have w0 := hw.1
  obtain ⟨B1, k', g1, g2, g3, g4⟩ := rg_man (d := d + 1) (K := K) (O := O) (t := t) (ar := ar) hw (u2 := .double 0) (u3 := .double 0) (u4 := .double 0) 4 0 A (by omega) (by omega) zRf_refl (fun _ _ => rfl) (fun j j0 j1 => by omega)
  obtain ⟨B', f1, f2, f3, f4, f5⟩ := rg_out (d := d) (K := K) (O := O) (t := t) (ar := ar) hw hL (A 186 0).toNat 0 0 B1 (.double 0) (.double 0) (by omega) (by omega) g2 (fun i hi => g3 i (by omega)) g4 (fun q j q0 q1 => by omega)
  rw [Int.zero_add] at f1
  refine ⟨B', ?_, f2, fun i i0 => ?_⟩
  · rw [i285_0]
    refine Eq.trans g1 ?_
    rw [i285_34]
    exact f1
  · unfold zGo1
    by_cases h1 : 11 ≤ i ∧ i < 15
    · rw [if_pos h1, ← f4 (i - 11) (by omega) (by omega)]; congr 1; omega
    · rw [if_neg h1]
      by_cases h2 : 15 ≤ i ∧ i < 15 + 6 * A 186 0 ∧ (i - 15) % 6 < 4
      · rw [if_pos h2, ← f5 ((i - 15) / 6) ((i - 15) % 6) (by omega) (by omega) (by omega) (by omega)]; congr 1; omega
      · rw [if_neg h2]; exact f3 i (by omega)
end RDAY
