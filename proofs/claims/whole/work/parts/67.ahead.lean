/-! CALLS, 15: ahead, trial, span -/
def zSd (h : Int → Int) (s i : Int) : Int := if i = 6 then s else h i
theorem zSd_wf {h : Int → Int} {s : Int} (hw : zHWf h) : zHWf (zSd h s) := by
  have f : ∀ i, i ≠ 6 → zSd h s i = h i := fun i hi => if_neg hi
  obtain ⟨w0, w1, w2, w3, w4, wr, wm, wn, ww, ws⟩ := hw.1
  refine ⟨?_, zHWl_congr (f 5 (by omega)) (fun i i1 _ => f i (by omega)) hw.2⟩
  unfold zHW0
  rw [f 0 (by omega), f 1 (by omega), f 2 (by omega), f 3 (by omega), f 4 (by omega)]
  refine ⟨w0, w1, w2, w3, w4, fun k h1 h2 => ?_, fun k h1 h2 => ?_, fun p k h1 h2 h3 h4 => ?_, fun p h1 h2 => ?_, fun p h1 h2 => ?_⟩
  · rw [f _ (by omega)]; exact wr k h1 h2
  · rw [f _ (by omega)]; exact wm k h1 h2
  · rw [f _ (by omega)]; exact wn p k h1 h2 h3 h4
  · rw [f _ (by omega)]; exact ww p h1 h2
  · rw [f _ (by omega)]; exact ws p h1 h2
theorem zSd_self {h : Int → Int} : zSd h (h 6) = h := by
  funext i; unfold zSd; split
  · next e => rw [e]
  · rfl
theorem zD0_2 {L : zLines} {h : Int → Int} : zD0 L h 2 = h 2 := by
  unfold zD0 zEnd; rw [if_neg (by omega), zGo1_lo (by omega)]
theorem zD1_2 {L : zLines} {h : Int → Int} (hw : zHW0 h) : zD1 L h 2 = h 2 := by
  unfold zD1 zEnd; rw [if_neg (by omega), zStr_at (zGo1_wf hw) (by omega) (Or.inl (by omega)), zGo1_lo (by omega)]
theorem zD0_wff {L : zLines} {h : Int → Int} (hw : zHWf h) : zHWf (zD0 L h) := by
  have w0 := hw.1.1
  refine ⟨zD0_wf hw.1, zHWl_congr ?_ (fun i i1 _ => ?_) hw.2⟩
  · unfold zD0 zEnd; rw [if_neg (by omega), zGo1_lo (by omega)]
  · unfold zD0 zEnd; rw [if_neg (by omega), zGo1_hi (by omega) i1]
theorem zIt_wff {f : (Int → Int) → Int → Int} (hf : ∀ h, zHWf h → zHWf (f h)) : ∀ {n : Nat} {h : Int → Int}, zHWf h → zHWf (zIt f n h)
  | 0, _, hw => hw
  | n + 1, h, hw => zIt_wff (n := n) hf (hf h hw)
section AHEAD
variable {ar : Nat → Nat × (Nat → Int32)} {d t : Nat} {K : Nat → Nat → Option Nat} {A : Nat → Int → Int} {O : Nat → Int64}
theorem isHall145 : isHall 145 := by unfold isHall; omega
theorem zHR0_sd {a : Nat} {h : Int → Int} {s : Int} (hw : zHW0 h) (hr : zHR0 A a h) : zHR0 (zU A a 8 s) a (zSd h s) := by
  have f : ∀ i, i ≠ 6 → zSd h s i = h i := fun i hi => if_neg hi
  obtain ⟨r0, r9, r7, r6, r8, rr, rm, rn, rw', ⟨s1, s2⟩⟩ := hr
  have hw0 := hw.1
  unfold zHR0 zStub
  rw [f 0 (by omega), f 1 (by omega), f 3 (by omega), f 4 (by omega), zU_s (by decide), zU_s (by decide), zU_s (by decide), zU_s (by decide), zU_at, zU_r (by omega), zU_r (by omega), zU_r (by omega), zU_r (by omega), zU_s (by decide)]
  refine ⟨r0, r9, r7, r6, (if_pos rfl).symm, fun k h1 h2 => ?_, fun k h1 h2 => ?_, fun p k h1 h2 h3 h4 => ?_, fun p h1 h2 => ?_, ⟨s1, fun p h1 h2 => ?_⟩⟩
  · rw [f _ (by omega)]; exact rr k h1 h2
  · rw [f _ (by omega)]; exact rm k h1 h2
  · rw [f _ (by omega)]; exact rn p k h1 h2 h3 h4
  · rw [f _ (by omega)]; exact rw' p h1 h2
  · rw [f _ (by omega)]; exact s2 p h1 h2
/-- a draft of the hall, in a memory that the class has only scribbled in -/
theorem c_draft (hI : zInv A) {B : Nat → Int → Int} (hB : zFc A B) : ∃ C, mGd ar (d + 1) 19 0 [.ref 145, .ref 3] [] (zW K B O t) = some (.inl none, zW K C O t) ∧ zHR C 145 (A 186) ∧ zFc A C := by
  obtain ⟨C, g1, g2, g3⟩ := c_copy (d := d) (K := K) (O := O) (t := t) (ar := ar) (A := B) isHall145 isHall3 (by decide)
  refine ⟨C, g1, zHR_eq g2 hI.1.1 (zHR_same (fun c c1 c2 => hB c (by unfold zSc; omega)) hI.1.1 hI.1.2), fun c hc => ?_⟩
  rw [g3 c (fun h => hc (by unfold zSc; omega)), hB c hc]
theorem zFc_pf {B C : Nat → Int → Int} (h1 : zFc A B) (h : zPf B C 145 12) : zFc A C := fun c hc => by
  unfold zSc at hc
  rw [h c (by omega) (by omega) (by omega) (by omega) (by omega) (by omega) (by omega)]
  exact h1 c hc
/-- days with draws, told by the reference's days -/
theorem pdl_loop {a b : Nat} (ha : isHall a) (hb : isLaw b) (hab : b + 6 < a ∨ a + 8 < b) {L : zLines} {n : Int} (hn : 0 ≤ n ∧ n ≤ 60) :
    ∀ (m : Nat) (i : Int) (h : Int → Int) (B : Nat → Int → Int), i + m = n → 0 ≤ i → zHWf h → zHR0 B a h → zLawC B b L → ∃ B', mGd ar (d + 5) 45 3 [.ref a, .ref b, .ref 173, .int (zI n), .int (zI 1), .int (zI i)] [] (zW K B O t) = some (.inl none, zW K B' O t) ∧ zHR0 B' a (zIt (zDL L) m h) ∧ zPf B B' a b := by
  have hlb := isLaw_lt hb
  intro m
  induction m with
  | zero =>
    intro i h B hi i0 hw hr hL
    refine ⟨B, ?_, hr, fun _ _ _ _ _ _ _ _ => rfl⟩
    simp (disch := first | assumption | omega | exact zr_and | exact zr_or | exact zr_xor | exact zr_shl | exact zr_shr | exact zr_ushr | exact zr_byte | exact isHall3 | exact isLaw12) only [i45_3, i45_24, mB1_i, mB0_i, mB1n_i, mB0n_i, mB1_x, mB0_x, ↓if_pos, ↓if_neg, if_true, if_false, if_pos, if_neg]
  | succ m ih =>
    intro i h B hi i0 hw hr hL
    obtain ⟨B1, g1, g2, g3⟩ := c_passDay (d := d) (K := K) (O := O) (t := t) (ar := ar) ha hb hab hw.1 hr hL (dr := 1) (Or.inr rfl)
    rw [if_pos rfl] at g2
    have g2' := zHR0_congr (h' := zDL L h) (fun i i0 i1 i5 => zDL_lo i1 i5) (zD1_wf hw.1) g2
    obtain ⟨B', f1, f2, f3⟩ := ih (i + 1) _ B1 (by omega) (by omega) (zDL_wf hw) g2' (zLawC_pf hL hab (by omega) g3)
    refine ⟨B', ?_, f2, fun x x1 x2 x3 x4 x5 x6 x7 => by rw [f3 x x1 x2 x3 x4 x5 x6 x7, g3 x x1 x2 x3 x4 x5 x6 x7]⟩
    rw [← f1, i45_3 ha hb (by omega) (by omega)]
    simp (disch := first | assumption | omega | exact zr_and | exact zr_or | exact zr_xor | exact zr_shl | exact zr_shr | exact zr_ushr | exact zr_byte | exact isHall3 | exact isLaw12) only [i45_9, g1, i45_17, mB1_i, mB0_i, mB1n_i, mB0n_i, mB1_x, mB0_x, ↓if_pos, ↓if_neg, if_true, if_false, if_pos, if_neg]
theorem c_manAfter (hI : zInv A) {L : zLines} (hL : zLawC A 12 L) {B : Nat → Int → Int} (hB : zFc A B) {k n s : Int} (hk : 0 ≤ k ∧ k < 4) (hn : 0 ≤ n ∧ n ≤ 60) : ∃ C, mGd ar (d + 6) 205 0 [.ref 0, .int (zI k), .int (zI n), .int (zI s)] [] (zW K B O t) = some (.inl (some (.int (zI (zIt (zDL L) n.toNat (zSd (A 186) s) (11 + k))))), zW K C O t) ∧ zFc A C := by
  obtain ⟨C1, g1, g2, g3⟩ := c_draft (d := d + 4) (K := K) (O := O) (t := t) (ar := ar) hI hB
  have hw := hI.1.1
  have r1 := zHR0_sd (s := s) hw.1 g2.1
  have g4 : zFc A (zU C1 145 8 s) := fun c hc => by rw [zU_r (fun h => hc (by unfold zSc; omega))]; exact g3 c hc
  obtain ⟨C2, f1, f2, f3⟩ := pdl_loop (d := d) (K := K) (O := O) (t := t) (ar := ar) isHall145 isLaw12 (by omega) hn n.toNat 0 _ _ (by omega) (by omega) (zSd_wf (s := s) hw) r1 (zLawC_same hL (fun c c1 c2 => g4 c (by unfold zSc; omega)))
  have f1' := f1
  rw [← i45_0 isHall145 isLaw12 (v5 := .double 0)] at f1'
  refine ⟨C2, ?_, zFc_pf g4 f3⟩
  have e := f2.2.2.2.2.2.2.1 k hk.1 hk.2
  rw [← e]
  simp (disch := first | assumption | omega | exact zr_and | exact zr_or | exact zr_xor | exact zr_shl | exact zr_shr | exact zr_ushr | exact zr_byte | exact isHall3 | exact isLaw12) only [i205_0, i205_11, i205_36, g1, f1', mB1_i, mB0_i, mB1n_i, mB0n_i, mB1_x, mB0_x, ↓if_pos, ↓if_neg, if_true, if_false, if_pos, if_neg]
/-- the reference's days on trial: kept in 189 -/
def zT (L : zLines) (A C : Nat → Int → Int) : Prop := (∀ j, j ≠ 19 → C 185 j = A 185 j) ∧ (∀ c, c ≠ 185 → c ≠ 186 → c ≠ 189 → c ≠ 193 → c ≠ 194 → c ≠ 195 → c ≠ 196 → C c = A c) ∧ (∀ i, i < 0 ∨ 423 ≤ i → C 186 i = A 186 i) ∧ (∀ i, 0 ≤ i → i < 423 → C 189 i = A 186 i) ∧ zHWf (C 186) ∧ zLawR (C 186) L
theorem zT_rf {L : zLines} {C C' : Nat → Int → Int} (h : zT L A C) (hf : zRf C C') (hw : zHWf (C' 186)) (hL : zLawR (C' 186) L) : zT L A C' := by
  obtain ⟨h1, h2, h3, h4, -, -⟩ := h
  obtain ⟨f1, f2, f3⟩ := hf
  refine ⟨fun j hj => by rw [f1 j hj, h1 j hj], fun c c1 c2 c3 c4 c5 c6 c7 => by rw [f2 c c1 c2 c4 c5 c6, h2 c c1 c2 c3 c4 c5 c6 c7], fun i hi => by rw [f3 i hi, h3 i hi], fun i i0 i1 => by rw [f2 189 (by decide) (by decide) (by decide) (by decide) (by decide)]; exact h4 i i0 i1, hw, hL⟩
theorem t_keeps {L : zLines} (hw : zHWf (A 186)) (hL : zLawR (A 186) L) : ∃ C, mGd ar (d) 291 0 [.ref 185, .double 0] [] (zW K A O t) = some (.inl none, zW K C O t) ∧ zT L A C ∧ C 186 = A 186 := by
  obtain ⟨C, g1, g2, g3⟩ := c_keeps (d := d) (K := K) (O := O) (t := t) (ar := ar) (A := A)
  have e := g2 186 (by decide)
  exact ⟨C, g1, ⟨fun j _ => by rw [g2 185 (by decide)], fun c _ _ c3 _ _ _ _ => g2 c c3, fun i _ => by rw [e], g3, by rw [e]; exact hw, by rw [e]; exact hL⟩, e⟩
theorem t_calm' {L : zLines} {C : Nat → Int → Int} (h : zT L A C) : ∃ C', mGd ar (d + 7) 292 0 [.ref 185] [] (zW K C O t) = some (.inl none, zW K C' O t) ∧ zT L A C' ∧ C' 186 = zD0 L (C 186) ∧ C' 196 = C 196 := by
  obtain ⟨h1, h2, h3, h4, h5, h6⟩ := h
  obtain ⟨C', g1, g2, g3⟩ := c_calm (d := d) (K := K) (O := O) (t := t) (ar := ar) h5.1 h6
  refine ⟨C', g1, zT_rf ⟨h1, h2, h3, h4, h5, h6⟩ g2 (by rw [g3]; exact zD0_wff h5) (zLawR_congr (by rw [g3]; exact zD0_2) (fun i i1 _ => g2.2.2 i (Or.inr i1)) h6), g3, g2.2.1 196 (by decide) (by decide) (by decide) (by decide) (by decide)⟩
theorem t_calm {L : zLines} {C : Nat → Int → Int} (h : zT L A C) : ∃ C', mGd ar (d + 7) 292 0 [.ref 185] [] (zW K C O t) = some (.inl none, zW K C' O t) ∧ zT L A C' ∧ C' 186 = zD0 L (C 186) := by
  obtain ⟨C', g1, g2, g3, -⟩ := t_calm' (d := d) (K := K) (O := O) (t := t) (ar := ar) h
  exact ⟨C', g1, g2, g3⟩
theorem t_oneDay {L : zLines} {C : Nat → Int → Int} (h : zT L A C) : ∃ C', mGd ar (d + 7) 284 0 [.ref 185, .double 0, .double 0, .double 0] [] (zW K C O t) = some (.inl (some (.int (zI (zChg (C 186) L)))), zW K C' O t) ∧ zT L A C' ∧ C' 186 = zDL L (C 186) := by
  obtain ⟨h1, h2, h3, h4, h5, h6⟩ := h
  obtain ⟨C', g1, g2, g3⟩ := c_oneDay (d := d) (K := K) (O := O) (t := t) (ar := ar) h5.1 h5.2.1 h6
  refine ⟨C', g1, zT_rf ⟨h1, h2, h3, h4, h5, h6⟩ g2 (by rw [g3]; exact zDL_wf h5) (zLawR_congr (by rw [g3, zDL_lo (by omega) (by omega)]; exact zD1_2 h5.1) (fun i i1 _ => g2.2.2 i (Or.inr i1)) h6), g3⟩
theorem t_seed {L : zLines} {C : Nat → Int → Int} {s : Int} (h : zT L A C) : zT L A (zU C 186 6 s) ∧ (zU C 186 6 s) 186 = zSd (C 186) s := by
  have e : (zU C 186 6 s) 186 = zSd (C 186) s := by funext i; unfold zU zSd; simp
  obtain ⟨h1, h2, h3, h4, h5, h6⟩ := h
  refine ⟨zT_rf ⟨h1, h2, h3, h4, h5, h6⟩ (zRf_u (by omega)) (by rw [e]; exact zSd_wf h5) (zLawR_congr (zU_s (by decide)) (fun i i1 _ => zU_s (by omega)) h6), e⟩
theorem t_brings' {L : zLines} {C : Nat → Int → Int} (hw : zHWf (A 186)) (hL : zLawR (A 186) L) (h : zT L A C) : ∃ C', mGd ar (d) 293 0 [.ref 185, .double 0] [] (zW K C O t) = some (.inl none, zW K C' O t) ∧ zFt A C' ∧ zT L A C' ∧ C' 186 = A 186 ∧ C' 196 = C 196 := by
  obtain ⟨h1, h2, h3, h4, h5, h6⟩ := h
  obtain ⟨C', g1, g2, g3⟩ := c_brings (d := d) (K := K) (O := O) (t := t) (ar := ar) h4 h3
  refine ⟨C', g1, ⟨⟨fun c hc => ?_, g3, fun j hj => ?_⟩, ?_⟩, ⟨fun j hj => ?_, fun c c1 c2 c3 c4 c5 c6 c7 => ?_, fun i _ => by rw [g3], fun i i0 i1 => ?_, by rw [g3]; exact hw, by rw [g3]; exact hL⟩, g3, g2 196 (by decide)⟩
  · rw [g2 c (by omega), h2 c (by omega) (by omega) (by omega) (by omega) (by omega) (by omega) (by omega)]
  · rw [g2 185 (by decide), h1 j (by omega)]
  · rw [g2 185 (by decide), h1 0 (by decide)]
  · rw [g2 185 (by decide), h1 j hj]
  · rw [g2 c c2, h2 c c1 c2 c3 c4 c5 c6 c7]
  · rw [g2 189 (by decide)]; exact h4 i i0 i1
theorem t_brings {L : zLines} {C : Nat → Int → Int} (hw : zHWf (A 186)) (hL : zLawR (A 186) L) (h : zT L A C) : ∃ C', mGd ar (d) 293 0 [.ref 185, .double 0] [] (zW K C O t) = some (.inl none, zW K C' O t) ∧ zFt A C' ∧ zT L A C' ∧ C' 186 = A 186 := by
  obtain ⟨C', g1, g2, g3, g4, -⟩ := t_brings' (d := d) (K := K) (O := O) (t := t) (ar := ar) hw hL h
  exact ⟨C', g1, g2, g3, g4⟩
theorem zDLn_rng {L : zLines} {h : Int → Int} (hw : zHWf h) {n : Nat} {k : Int} (hk : 0 ≤ k ∧ k < 4) : 0 ≤ zIt (zDL L) n h (11 + k) ∧ zIt (zDL L) n h (11 + k) ≤ 99 :=
  (zIt_wff (fun _ hh => zDL_wf hh) hw).1.2.2.2.2.2.2.1 k hk.1 hk.2
theorem q_trial {k n : Int} (hI : zInv A) (h_k : -2147483648 ≤ k ∧ k < 2147483648) (h_n : -2147483648 ≤ n ∧ n < 2147483648) : zQ ar K O t (d + 12) 204 [.ref 0, .int (zI k), .int (zI n)] 336 [.ref 185, .int (zI k), .int (zI n), .double 0] (fun E => if E = 2 then 1 else if E = 0 then 2 else 0) A := by
  obtain ⟨hw, hr, e0, w0⟩ := zInv_f hI
  have u6 : ∀ v, zU A 185 0 v 186 = A 186 := fun v => zU_r (by decide)
  have M1 : ∀ (B : Nat → Int → Int) (O' : Nat → Int64) (t' : Nat), B 186 = A 186 → mGd ar (d + 11) 257 0 [.int (zI k)] [] (zW K B O' t') = some (.inl (some (.int (zI (if 0 ≤ k ∧ k < 4 then 0 else 1)))), zW K B O' t') := fun B O' t' e => c_noKind (d := (d + 10)) h_k
  have M2 : ∀ (B : Nat → Int → Int) (O' : Nat → Int64) (t' : Nat), B 186 = A 186 → mGd ar (d + 11) 256 0 [.int (zI n), .int (zI 0), .int (zI 60)] [] (zW K B O' t') = some (.inl (some (.int (zI (if 0 ≤ n ∧ n ≤ 60 then 1 else 0)))), zW K B O' t') := fun B O' t' e => c_in (d := (d + 11)) h_n (by decide) (by decide)
  by_cases g1 : 0 ≤ k ∧ k < 4
  case neg =>
    have k1 := c_nKindX (d := (d + 11)) (K := K) (O := O) (t := t) (ar := ar) (A := A) (p := k) h_k g1
    refine zQ_ex (E := 2) hI ?_ (by decide) (fun O' t' => ⟨0, zU A 185 0 1, ?_, zU_at, zFm_u⟩)
    · simp (disch := first | assumption | omega | exact zr_and | exact zr_or | exact zr_xor | exact zr_shl | exact zr_shr | exact zr_ushr | exact zr_byte | exact isHall3 | exact isLaw12) only [i204_0, i204_5, i204_13, i204_26, k1, mB1_i, mB0_i, mB1n_i, mB0n_i, mB1_x, mB0_x, ↓if_pos, ↓if_neg, if_true, if_false, if_pos, if_neg]
    · have n1 := M1 (zU A 185 0 0) O' t' (u6 0)
      rw [if_neg (by omega)] at n1
      simp (disch := first | assumption | omega | exact zr_and | exact zr_or | exact zr_xor | exact zr_shl | exact zr_shr | exact zr_ushr | exact zr_byte | exact isHall3 | exact isLaw12) only [i336_0, i336_10, i336_14, i336_17, i336_25, i336_28, i336_32, i336_33, i336_37, i336_40, i336_42, i336_46, i336_48, i336_53, i336_57, i336_64, i336_78, n1, c_thr0, c_thr1, zU_uu, i233_0, zU_c, mB1_i, mB0_i, mB1n_i, mB0n_i, mB1_x, mB0_x, ↓if_pos, ↓if_neg, if_true, if_false, if_pos, if_neg]
  have k1 := c_nKind (d := (d + 11)) (K := K) (O := O) (t := t) (ar := ar) (A := A) (p := k) g1
  have m1 : ∀ (B : Nat → Int → Int) (O' : Nat → Int64) (t' : Nat), B 186 = A 186 → mGd ar (d + 11) 257 0 [.int (zI k)] [] (zW K B O' t') = some (.inl (some (.int (zI 0))), zW K B O' t') := fun B O' t' e => by have q := M1 B O' t' e; rwa [if_pos (by omega)] at q
  by_cases g2 : 0 ≤ n ∧ n ≤ 60
  case neg =>
    have k2 := c_nNumberX (d := (d + 11)) (K := K) (O := O) (t := t) (ar := ar) (A := A) (p := n) (x := 0) (y := 60) h_n g2 (by decide)
    refine zQ_ex (E := 0) hI ?_ (by decide) (fun O' t' => ⟨0, zU A 185 0 2, ?_, zU_at, zFm_u⟩)
    · simp (disch := first | assumption | omega | exact zr_and | exact zr_or | exact zr_xor | exact zr_shl | exact zr_shr | exact zr_ushr | exact zr_byte | exact isHall3 | exact isLaw12) only [i204_0, i204_5, i204_13, i204_26, k1, k2, mB1_i, mB0_i, mB1n_i, mB0n_i, mB1_x, mB0_x, ↓if_pos, ↓if_neg, if_true, if_false, if_pos, if_neg]
    · have n1 := M1 (zU A 185 0 0) O' t' (u6 0)
      rw [if_pos (by omega)] at n1
      have n2 := M2 (zU A 185 0 0) O' t' (u6 0)
      rw [if_neg (by omega)] at n2
      simp (disch := first | assumption | omega | exact zr_and | exact zr_or | exact zr_xor | exact zr_shl | exact zr_shr | exact zr_ushr | exact zr_byte | exact isHall3 | exact isLaw12) only [i336_0, i336_10, i336_14, i336_17, i336_25, i336_28, i336_32, i336_33, i336_37, i336_40, i336_42, i336_46, i336_48, i336_53, i336_57, i336_64, i336_78, n1, n2, c_thr0, c_thr1, zU_uu, i233_0, zU_c, mB1_i, mB0_i, mB1n_i, mB0n_i, mB1_x, mB0_x, ↓if_pos, ↓if_neg, if_true, if_false, if_pos, if_neg]
  have k2 := c_nNumber (d := (d + 11)) (K := K) (O := O) (t := t) (ar := ar) (A := A) (p := n) (x := 0) (y := 60) g2 (by decide)
  have m2 : ∀ (B : Nat → Int → Int) (O' : Nat → Int64) (t' : Nat), B 186 = A 186 → mGd ar (d + 11) 256 0 [.int (zI n), .int (zI 0), .int (zI 60)] [] (zW K B O' t') = some (.inl (some (.int (zI 1))), zW K B O' t') := fun B O' t' e => by have q := M2 B O' t' e; rwa [if_pos (by omega)] at q
  obtain ⟨-, ⟨L, lc, lr, -⟩, -⟩ := id hI
  obtain ⟨A1, f1, f2⟩ := c_manAfter (d := d + 5) (K := K) (O := O) (t := t) (ar := ar) hI lc zFc_refl (k := k) (n := n) (s := A 3 8) g1 g2
  rw [hr.2.2.2.2.1, zSd_self] at f1
  have f1' : mGd ar (d + 11) 205 0 [.ref 0, .int (zI k), .int (zI n), .int (zI (A 3 8))] [] (zW K A O t) = some (.inl (some (.int (zI (zIt (zDL L) n.toNat (A 186) (11 + k))))), zW K A1 O t) := by rw [hr.2.2.2.2.1]; exact f1
  have rg := zDLn_rng (L := L) hI.1.1 (n := n.toNat) g1
  refine zQ_ok (b := zIt (zDL L) n.toNat (A 186) (11 + k)) (A1 := A1) hI ?_ f2 (by omega) (fun O' t' => ?_)
  · simp (disch := first | assumption | omega | exact zr_and | exact zr_or | exact zr_xor | exact zr_shl | exact zr_shr | exact zr_ushr | exact zr_byte | exact isHall3 | exact isLaw12) only [i204_0, i204_5, i204_13, i204_26, k1, k2, f1', mB1_i, mB0_i, mB1n_i, mB0n_i, mB1_x, mB0_x, ↓if_pos, ↓if_neg, if_true, if_false, if_pos, if_neg]
  · have e6 : A1 186 = A 186 := f2 186 (by unfold zSc; omega)
    have n1 := m1 (zU A1 185 0 0) O' t' (by rw [zU_r (by decide), e6])
    have n2 := m2 (zU A1 185 0 0) O' t' (by rw [zU_r (by decide), e6])
    have u6' : (zU A1 185 0 0) 186 = A 186 := by rw [zU_r (by decide), e6]
    obtain ⟨C0, p1, p2, p3⟩ := t_keeps (d := d + 11) (K := K) (O := O') (t := t') (ar := ar) (A := zU A1 185 0 0) (L := L) (by rw [u6']; exact hI.1.1) (by rw [u6']; exact lr)
    have l1 : ∀ (m : Nat) (x : Int) (C : Nat → Int → Int), x + m = n → 0 ≤ x → zT L (zU A1 185 0 0) C → ∃ C', mGd ar (d + 12) 336 48 [.ref 185, .int (zI k), .int (zI n), .int (zI x)] [] (zW K C O' t') = mGd ar (d + 12) 336 64 [.ref 185, .int (zI k), .int (zI n), .int (zI n)] [] (zW K C' O' t') ∧ zT L (zU A1 185 0 0) C' ∧ C' 186 = zIt (zDL L) m (C 186) := by
      intro m
      induction m with
      | zero =>
        intro x C hx x0 hC
        have : x = n := by omega
        subst this
        exact ⟨C, by simp (disch := first | assumption | omega | exact zr_and | exact zr_or | exact zr_xor | exact zr_shl | exact zr_shr | exact zr_ushr | exact zr_byte | exact isHall3 | exact isLaw12) only [i336_48, mB1_i, mB0_i, mB1n_i, mB0n_i, mB1_x, mB0_x, ↓if_pos, ↓if_neg, if_true, if_false, if_pos, if_neg], hC, rfl⟩
      | succ m ih =>
        intro x C hx x0 hC
        obtain ⟨C1, d1, d2, d3⟩ := t_oneDay (d := d + 4) (K := K) (O := O') (t := t') (ar := ar) hC
        obtain ⟨C', q1, q2, q3⟩ := ih (x + 1) C1 (by omega) (by omega) d2
        refine ⟨C', ?_, q2, by rw [q3, d3]; rfl⟩
        rw [← q1, i336_48 (by omega) (by omega)]
        simp (disch := first | assumption | omega | exact zr_and | exact zr_or | exact zr_xor | exact zr_shl | exact zr_shr | exact zr_ushr | exact zr_byte | exact isHall3 | exact isLaw12) only [i336_53, i336_57, d1, mB1_i, mB0_i, mB1n_i, mB0n_i, mB1_x, mB0_x, ↓if_pos, ↓if_neg, if_true, if_false, if_pos, if_neg]
    obtain ⟨C1, q1, q2, q3⟩ := l1 n.toNat 0 C0 (by omega) (by omega) p2
    rw [p3, u6'] at q3
    obtain ⟨C2, s1, s2, -, -⟩ := t_brings (d := d + 11) (K := K) (O := O') (t := t') (ar := ar) (A := zU A1 185 0 0) (L := L) (by rw [u6']; exact hI.1.1) (by rw [u6']; exact lr) q2
    refine ⟨C2, ?_, zFm_0 s2⟩
    rw [← q3]
    simp (disch := first | assumption | omega | exact zr_and | exact zr_or | exact zr_xor | exact zr_shl | exact zr_shr | exact zr_ushr | exact zr_byte | exact isHall3 | exact isLaw12) only [i336_0, i336_10, i336_14, i336_17, i336_25, i336_28, i336_32, i336_33, i336_37, i336_40, i336_42, i336_46, i336_53, i336_57, i336_64, i336_78, n1, n2, c_thr0, p1, q1, s1, mB1_i, mB0_i, mB1n_i, mB0n_i, mB1_x, mB0_x, ↓if_pos, ↓if_neg, if_true, if_false, if_pos, if_neg]
end AHEAD
