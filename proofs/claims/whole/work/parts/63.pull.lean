/-! CALLS, 11: pull -/
def zTl (own c : Int) : Int := if c = 0 then own else if c = 1 then 0 else 99
theorem zTl_rng {own c : Int} (h : 0 ≤ own ∧ own ≤ 99) : 0 ≤ zTl own c ∧ zTl own c ≤ 99 := by
  unfold zTl; split
  · exact h
  · split <;> omega
def zLess2 (n p q : Int) : Int := zAnd (zAnd (zAll n) (zXor (zShl 1 p) (-1))) (zXor (zShl 1 q) (-1))
def zPo (h : Int → Int) (k p q : Int) : List (Int × Int) := zSel (zLess2 (h 0) p q) (zWP h k) 0 (h 0).toNat
noncomputable def zPM (h : Int → Int) (k p q r x y : Int) : Int := zMid r ((y, h (15 + 6 * q + 4)) :: (x, h (15 + 6 * p + 4)) :: zPo h k p q)
theorem zLess2_bits {n p q : Int} (hn : 0 ≤ n ∧ n ≤ 8) (hp : 0 ≤ p ∧ p < 8) (hq : 0 ≤ q ∧ q < 8) : (0 ≤ zLess2 n p q ∧ zLess2 n p q < 256) ∧ ∀ j, 0 ≤ j ∧ j < 8 → zB (zLess2 n p q) j = ((zB (zAll n) j && decide (j ≠ p)) && decide (j ≠ q)) := by
  have h1 := zf_less (zAll_lt hn) hp
  have h2 := zf_less h1.1 hq
  refine ⟨h2.1, fun j hj => ?_⟩
  have := h2.2 j hj
  rw [h1.2 j hj] at this
  exact this
theorem zPo_comm {h : Int → Int} {k p q : Int} (hw : 0 ≤ h 0 ∧ h 0 ≤ 8) (hp : 0 ≤ p ∧ p < 8) (hq : 0 ≤ q ∧ q < 8) : zPo h k p q = zPo h k q p := by
  refine zSel_congr (fun i i1 i2 => ⟨?_, fun _ => rfl⟩)
  rw [(zLess2_bits hw hp hq).2 i ⟨i1, by omega⟩, (zLess2_bits hw hq hp).2 i ⟨i1, by omega⟩, Bool.and_assoc, Bool.and_assoc, Bool.and_comm (decide (i ≠ p))]
theorem zPM_comm {h : Int → Int} {k p q r x y : Int} (hw : 0 ≤ h 0 ∧ h 0 ≤ 8) (hp : 0 ≤ p ∧ p < 8) (hq : 0 ≤ q ∧ q < 8) : zPM h k q p r y x = zPM h k p q r x y := by
  unfold zPM
  rw [zPo_comm hw hq hp]
  exact zMid_perm (List.Perm.swap _ _ _)
theorem zPM_perm {h : Int → Int} {k p q x y : Int} {f : Int → Int × Int} (hw : 0 ≤ h 0 ∧ h 0 ≤ 8) (hp : 0 ≤ p ∧ p < h 0) (hq : 0 ≤ q ∧ q < h 0) (hne : p ≠ q) (h1 : f p = (x, h (15 + 6 * p + 4))) (h2 : f q = (y, h (15 + 6 * q + 4))) (h3 : ∀ i, i ≠ p → i ≠ q → f i = zWP h k i) : (zSel (zAll (h 0)) f 0 (h 0).toNat).Perm ((y, h (15 + 6 * q + 4)) :: (x, h (15 + 6 * p + 4)) :: zPo h k p q) := by
  have hl := zAll_lt hw
  have hf := (zf_less hl (show 0 ≤ p ∧ p < 8 by omega))
  have hf2 := (zf_less hf.1 (show 0 ≤ q ∧ q < 8 by omega)).2
  have a1 := zSel_swap (s := zAll (h 0)) (s' := zLess (h 0) p) (p := p) (f := fun i => if i = q then (y, h (15 + 6 * q + 4)) else zWP h k i) (f' := f) (by rw [zB_all hw (by omega)]; exact decide_eq_true hp.2) (fun i hi => by
    by_cases hiq : i = q
    · rw [if_pos hiq, hiq, h2]
    · rw [if_neg hiq, h3 i hi hiq]) (m := (h 0).toNat) (q := 0) hp.1 (by omega) (fun i i1 i2 => hf.2 i ⟨i1, by omega⟩)
  have a2 := zSel_swap (s := zLess (h 0) p) (s' := zLess2 (h 0) p q) (p := q) (f := zWP h k) (f' := fun i => if i = q then (y, h (15 + 6 * q + 4)) else zWP h k i) (by
      have := hf.2 q (by omega)
      unfold zLess
      rw [this, zB_all hw (by omega)]
      simp [hq.2, Ne.symm hne]) (fun i hi => if_neg hi) (m := (h 0).toNat) (q := 0) hq.1 (by omega) (fun i i1 i2 => hf2 i ⟨i1, by omega⟩)
  rw [if_pos rfl] at a2
  rw [h1] at a1
  exact a1.trans ((a2.cons _).trans (List.Perm.swap _ _ _))
theorem zPo_ok {h : Int → Int} {k p q x y : Int} (hw : zHW0 h) (hk : 0 ≤ k ∧ k < 4) (hp : 0 ≤ p ∧ p < h 0) (hq : 0 ≤ q ∧ q < h 0) (hne : p ≠ q) (hx : 0 ≤ x ∧ x ≤ 99) (hy : 0 ≤ y ∧ y ≤ 99) : zOkP ((y, h (15 + 6 * q + 4)) :: (x, h (15 + 6 * p + 4)) :: zPo h k p q) := by
  have w0 := hw.1
  have hperm := zPM_perm (h := h) (k := k) (p := p) (q := q) (x := h (15 + 6 * p + k)) (y := h (15 + 6 * q + k)) (f := zWP h k) w0 hp hq hne rfl rfl (fun _ _ _ => rfl)
  have hlen := hperm.length_eq
  have hle := zSel_le (s := zAll (h 0)) (f := zWP h k) (m := (h 0).toNat) (p := 0)
  have hok := zWP_ok (s := zLess2 (h 0) p q) hw hk
  refine ⟨?_, fun z hz => ?_⟩
  · simp only [List.length_cons] at hlen ⊢; omega
  · rcases List.mem_cons.mp hz with rfl | hz
    · exact ⟨hy, hw.2.2.2.2.2.2.2.2.1 q hq.1 hq.2⟩
    · rcases List.mem_cons.mp hz with rfl | hz
      · exact ⟨hx, hw.2.2.2.2.2.2.2.2.1 p hp.1 hp.2⟩
      · exact hok.2 z hz
theorem zOkP_tail {a : Int × Int} {P : List (Int × Int)} (h : zOkP (a :: P)) : zOkP P ∧ P.length < 8 :=
  ⟨⟨by have := h.1; simp only [List.length_cons] at this; omega, fun q hq => h.2 q (List.mem_cons_of_mem _ hq)⟩, by have := h.1; simp only [List.length_cons] at this; omega⟩
theorem zf_more9 {s k : Int} (hs : 0 ≤ s ∧ s < 512) (hk : 0 ≤ k ∧ k < 9) : 0 ≤ zOr s (zShl 1 k) ∧ zOr s (zShl 1 k) < 512 := by
  have h : ∀ s : Fin 512, ∀ k : Fin 9, (0 ≤ zOr (s.val : Int) (zShl 1 (k.val : Int)) ∧ zOr (s.val : Int) (zShl 1 (k.val : Int)) < 512) := by decide +kernel
  have h1 := h ⟨s.toNat, by omega⟩ ⟨k.toNat, by omega⟩
  simpa only [Int.toNat_of_nonneg hs.1, Int.toNat_of_nonneg hk.1] using h1
/-- a rest: neither could come nearer -/
noncomputable def zPl1 (h : Int → Int) (k p q r a b : Int) : Int := zPM h k p q r (zTl (h (15 + 6 * p + k)) a) (zTl (h (15 + 6 * q + k)) b)
def zNo3 (f : Int → Int) (x : Int) : Bool := decide (x ≤ f 0) && decide (x ≤ f 1) && decide (x ≤ f 2)
noncomputable def zRst (h : Int → Int) (k p q r i : Int) : Bool := zNo3 (fun c => zAbs (zPl1 h k p q r c (i % 3) - h (15 + 6 * p + k))) (zAbs (zPl1 h k p q r (i / 3) (i % 3) - h (15 + 6 * p + k))) && zNo3 (fun c => zAbs (zPl1 h k p q r (i / 3) c - h (15 + 6 * q + k))) (zAbs (zPl1 h k p q r (i / 3) (i % 3) - h (15 + 6 * q + k)))
section PULL
variable {ar : Nat → Nat × (Nat → Int32)} {d t : Nat} {K : Nat → Nat → Option Nat} {A : Nat → Int → Int} {O : Nat → Int64}
theorem c_midW {v w r : Int} {P : List (Int × Int)} (hb : zBag A P) (hP : zOkP ((v, w) :: P)) (hr : 0 ≤ r ∧ r ≤ 5) : ∃ A1, mGd ar (d + 2) 149 0 [.ref 181, .int (zI v), .int (zI w), .int (zI r), .double 0] [] (zW K A O t) = some (.inl (some (.int (zI (zMid r ((v, w) :: P))))), zW K A1 O t) ∧ zBag A1 P ∧ ∀ c, c ≠ 173 → c ≠ 174 → A1 c = A c := by
  have ht := zOkP_tail hP
  obtain ⟨B1, f1, f2, f3⟩ := c_put (d := d + 1) (K := K) (O := O) (t := t) (ar := ar) (w := w) hb ht.1 ht.2 (hP.2 (v, w) List.mem_cons_self).1
  have cb := c_by (d := d) (K := K) (O := O) (t := t) (ar := ar) f2 hP (by simp) hr
  obtain ⟨B2, h1, h2, h3⟩ := c_take (d := d + 1) (K := K) (O := O) (t := t) (ar := ar) f2 hP
  refine ⟨B2, ?_, h2, fun c c1 c2 => by rw [h3 c c1 c2, f3 c c1 c2]⟩
  simp (disch := first | assumption | omega | exact zr_and | exact zr_or | exact zr_xor | exact zr_shl | exact zr_shr | exact zr_ushr | exact zr_byte | exact isHall3 | exact isLaw12) only [i149_0, i149_9, i149_17, i149_28, f1, cb, h1, mB1_i, mB0_i, mB1n_i, mB0n_i, mB1_x, mB0_x, ↓if_pos, ↓if_neg, if_true, if_false, if_pos, if_neg]
theorem c_choice {own c : Int} (hc : 0 ≤ c ∧ c ≤ 2) : mGd ar (d) 183 0 [.int (zI c), .int (zI own)] [] (zW K A O t) = some (.inl (some (.int (zI (zTl own c)))), zW K A O t) := by
  unfold zTl
  by_cases h0 : c = 0
  · simp (disch := first | assumption | omega | exact zr_and | exact zr_or | exact zr_xor | exact zr_shl | exact zr_shr | exact zr_ushr | exact zr_byte | exact isHall3 | exact isLaw12) only [i183_0, i183_4, i183_6, i183_11, i183_15, i183_17, mB1_i, mB0_i, mB1n_i, mB0n_i, mB1_x, mB0_x, ↓if_pos, ↓if_neg, if_true, if_false, if_pos, if_neg]
  · by_cases h1 : c = 1 <;> simp (disch := first | assumption | omega | exact zr_and | exact zr_or | exact zr_xor | exact zr_shl | exact zr_shr | exact zr_ushr | exact zr_byte | exact isHall3 | exact isLaw12) only [i183_0, i183_4, i183_6, i183_11, i183_15, i183_17, mB1_i, mB0_i, mB1n_i, mB0n_i, mB1_x, mB0_x, ↓if_pos, ↓if_neg, if_true, if_false, if_pos, if_neg]
theorem c_toldBy {own c : Int} (hc : 0 ≤ c ∧ c ≤ 2) : mGd ar (d) 324 0 [.int (zI c), .int (zI own)] [] (zW K A O t) = some (.inl (some (.int (zI (zTl own c)))), zW K A O t) := by
  unfold zTl
  by_cases h0 : c = 0
  · simp (disch := first | assumption | omega | exact zr_and | exact zr_or | exact zr_xor | exact zr_shl | exact zr_shr | exact zr_ushr | exact zr_byte | exact isHall3 | exact isLaw12) only [i324_0, i324_4, i324_8, i324_13, i324_17, i324_19, mB1_i, mB0_i, mB1n_i, mB0n_i, mB1_x, mB0_x, ↓if_pos, ↓if_neg, if_true, if_false, if_pos, if_neg]
  · by_cases h1 : c = 1 <;> simp (disch := first | assumption | omega | exact zr_and | exact zr_or | exact zr_xor | exact zr_shl | exact zr_shr | exact zr_ushr | exact zr_byte | exact isHall3 | exact isLaw12) only [i324_0, i324_4, i324_8, i324_13, i324_17, i324_19, mB1_i, mB0_i, mB1n_i, mB0n_i, mB1_x, mB0_x, ↓if_pos, ↓if_neg, if_true, if_false, if_pos, if_neg]
theorem c_pullAll {p q k : Int} (hI : zInv A) (hp : 0 ≤ p ∧ p < A 186 0) (hq : 0 ≤ q ∧ q < A 186 0) (hne : p ≠ q) (hk : 0 ≤ k ∧ k < 4) : ∃ B, mGd ar (d + 3) 182 0 [.ref 181, .int (zI p), .int (zI q), .int (zI k), .double 0, .double 0, .double 0, .double 0, .double 0] [] (zW K A O t) = some (.inl none, zW K B O t) ∧ (∀ c, c ≠ 173 → c ≠ 174 → c ≠ 182 → B c = A c) ∧ ∀ i, 0 ≤ i → i < 9 → B 182 i = zPl1 (A 186) k p q (A 186 (7 + k)) (i / 3) (i % 3) := by
  obtain ⟨hw, hr, e0, w0⟩ := zInv_f hI
  have wr := hw.2.2.2.2.2.1 k hk.1 hk.2
  have rr := hr.2.2.2.2.2.1 k hk.1 hk.2
  have rwp := hr.2.2.2.2.2.2.2.2.1 p hp.1 hp.2
  have rwq := hr.2.2.2.2.2.2.2.2.1 q hq.1 hq.2
  have wnp := hw.2.2.2.2.2.2.2.1 p k hp.1 hp.2 hk.1 hk.2
  have wnq := hw.2.2.2.2.2.2.2.1 q k hq.1 hq.2 hk.1 hk.2
  have rnp := hr.2.2.2.2.2.2.2.1 p k hp.1 hp.2 hk.1 hk.2
  have rnq := hr.2.2.2.2.2.2.2.1 q k hq.1 hq.2 hk.1 hk.2
  have hb2 := (zLess2_bits w0 (show 0 ≤ p ∧ p < 8 by omega) (show 0 ≤ q ∧ q < 8 by omega)).1
  obtain ⟨B0, f1, f2, f3⟩ := c_fill (d := d + 1) (K := K) (O := O) (t := t) (ar := ar) (A := A) isHall3 (k := k) (s := zLess2 (A 186 0) p q) (zHOk_of_HR hw hr) hk hb2
  rw [zHP_sel hr hk] at f2
  have ce := c_everyone (d := d + 2) (K := K) (O := O) (t := t) (ar := ar) (A := A) isHall3 (by rw [e0]; exact w0)
  rw [e0] at ce
  have l1 : ∀ (m : Nat) (i : Int) (B : Nat → Int → Int) (u7 u8 : Value), i + m = 9 → 0 ≤ i → zBag B (zPo (A 186) k p q) → (∀ c, c ≠ 173 → c ≠ 174 → c ≠ 182 → B c = A c) → (∀ j, 0 ≤ j → j < i → B 182 j = zPl1 (A 186) k p q (A 186 (7 + k)) (j / 3) (j % 3)) → ∃ B', mGd ar (d + 3) 182 56 [.ref 181, .int (zI p), .int (zI q), .int (zI k), .int (zI (A 186 (15 + 6 * p + 4))), .int (zI (A 186 (7 + k))), .int (zI i), u7, u8] [] (zW K B O t) = some (.inl none, zW K B' O t) ∧ (∀ c, c ≠ 173 → c ≠ 174 → c ≠ 182 → B' c = A c) ∧ ∀ j, 0 ≤ j → j < 9 → B' 182 j = zPl1 (A 186) k p q (A 186 (7 + k)) (j / 3) (j % 3) := by
    intro m
    induction m with
    | zero =>
      intro i B u7 u8 hi i0 hb hB hv
      refine ⟨B, ?_, hB, fun j j0 j1 => hv j j0 (by omega)⟩
      simp (disch := first | assumption | omega | exact zr_and | exact zr_or | exact zr_xor | exact zr_shl | exact zr_shr | exact zr_ushr | exact zr_byte | exact isHall3 | exact isLaw12) only [i182_56, i182_16, i182_31, i182_63, i182_76, i182_79, i182_92, i182_105, i182_108, i182_133, i182_145, i182_151, mB1_i, mB0_i, mB1n_i, mB0n_i, mB1_x, mB0_x, ↓if_pos, ↓if_neg, if_true, if_false, if_pos, if_neg]
    | succ m ih =>
      intro i B u7 u8 hi i0 hb hB hv
      have td : Int.tdiv i 3 = i / 3 := Int.tdiv_eq_ediv_of_nonneg i0
      have tm : Int.tmod i 3 = i % 3 := Int.tmod_eq_emod_of_nonneg i0
      have rx := zTl_rng (c := i / 3) wnp
      have ry := zTl_rng (c := i % 3) wnq
      have ok2 := zPo_ok (x := zTl (A 186 (15 + 6 * p + k)) (i / 3)) (y := zTl (A 186 (15 + 6 * q + k)) (i % 3)) hw hk hp hq hne rx ry
      have ok1 := zOkP_tail ok2
      have ok0 := zOkP_tail ok1.1
      have c1 := c_choice (d := d + 2) (K := K) (O := O) (t := t) (ar := ar) (A := B) (own := A 186 (15 + 6 * p + k)) (c := i / 3) (by omega)
      have eB : ∀ c, c < 173 → B c = A c := fun c hc => hB c (by omega) (by omega) (by omega)
      have n1 : B 4 (p * 4 + k) = A 186 (15 + 6 * p + k) := by rw [eB _ (by decide)]; exact rnp
      obtain ⟨B1, g1, g2, g3⟩ := c_put (d := d + 2) (K := K) (O := O) (t := t) (ar := ar) (w := A 186 (15 + 6 * p + 4)) hb ok0.1 ok0.2 rx
      have n2 : B1 4 (q * 4 + k) = A 186 (15 + 6 * q + k) := by rw [g3 _ (by decide) (by decide), eB _ (by decide)]; exact rnq
      have n5 : B1 5 q = A 186 (15 + 6 * q + 4) := by rw [g3 _ (by decide) (by decide), eB _ (by decide)]; exact rwq
      have c2 := c_choice (d := d + 2) (K := K) (O := O) (t := t) (ar := ar) (A := B1) (own := A 186 (15 + 6 * q + k)) (c := i % 3) (by omega)
      obtain ⟨B2, h1, h2, h3⟩ := c_midW (d := d) (K := K) (O := O) (t := t) (ar := ar) (r := A 186 (7 + k)) g2 ok2 wr
      have h1' : mGd ar (d + 2) 149 0 [.ref 181, .int (zI (zTl (A 186 (15 + 6 * q + k)) (i % 3))), .int (zI (A 186 (15 + 6 * q + 4))), .int (zI (A 186 (7 + k))), .double 0] [] (zW K B1 O t) = some (.inl (some (.int (zI (zPl1 (A 186) k p q (A 186 (7 + k)) (i / 3) (i % 3))))), zW K B2 O t) := h1
      have hb3 : zBag (zU B2 182 i (zPl1 (A 186) k p q (A 186 (7 + k)) (i / 3) (i % 3))) ((zTl (A 186 (15 + 6 * p + k)) (i / 3), A 186 (15 + 6 * p + 4)) :: zPo (A 186) k p q) := by
        unfold zBag at h2 ⊢
        rw [zU_r (by decide), zU_r (by decide)]
        exact h2
      obtain ⟨B3, t1, t2, t3⟩ := c_take (d := d + 2) (K := K) (O := O) (t := t) (ar := ar) hb3 ok1.1
      have hB3 : ∀ c, c ≠ 173 → c ≠ 174 → B3 c = zU B2 182 i (zPl1 (A 186) k p q (A 186 (7 + k)) (i / 3) (i % 3)) c := t3
      obtain ⟨B', q1, q2⟩ := ih (i + 1) B3 (.int (zI (zTl (A 186 (15 + 6 * p + k)) (i / 3)))) (.int (zI (zTl (A 186 (15 + 6 * q + k)) (i % 3)))) (by omega) (by omega) t2 (fun c c1 c2 c3 => by rw [hB3 c c1 c2, zU_r c3, h3 c c1 c2, g3 c c1 c2, hB c c1 c2 c3]) (fun j j0 j1 => by
        rw [hB3 _ (by decide) (by decide)]
        by_cases hj : j = i
        · rw [hj, zU_at]
        · rw [zU_s hj, h3 _ (by decide) (by decide), g3 _ (by decide) (by decide)]; exact hv j j0 (by omega))
      refine ⟨B', ?_, q2⟩
      rw [← q1, i182_56 (by omega)]
      simp (disch := first | assumption | omega | exact zr_and | exact zr_or | exact zr_xor | exact zr_shl | exact zr_shr | exact zr_ushr | exact zr_byte | exact isHall3 | exact isLaw12) only [i182_16, i182_31, i182_63, i182_76, i182_79, i182_92, i182_105, i182_108, i182_133, i182_145, i182_151, td, tm, i27_0, n1, c1, g1, n2, n5, c2, h1', t1, mB1_i, mB0_i, mB1n_i, mB0n_i, mB1_x, mB0_x, ↓if_pos, ↓if_neg, if_true, if_false, if_pos, if_neg]
  have e5 : B0 5 p = A 186 (15 + 6 * p + 4) := by rw [f3 _ (by decide) (by decide)]; exact rwp
  have e6 : B0 6 k = A 186 (7 + k) := by rw [f3 _ (by decide) (by decide)]; exact rr
  obtain ⟨B', q1, q2⟩ := l1 9 0 B0 (.double 0) (.double 0) (by omega) (by omega) f2 (fun c c1 c2 c3 => f3 c c1 c2) (fun j j0 j1 => by omega)
  refine ⟨B', ?_, q2⟩
  rw [← q1]
  unfold zLess2 at f1
  simp (disch := first | assumption | omega | exact zr_and | exact zr_or | exact zr_xor | exact zr_shl | exact zr_shr | exact zr_ushr | exact zr_byte | exact isHall3 | exact isLaw12) only [i182_0, i182_16, i182_31, i182_63, i182_76, i182_79, i182_92, i182_105, i182_108, i182_133, i182_145, i182_151, ce, f1, e5, e6, mB1_i, mB0_i, mB1n_i, mB0n_i, mB1_x, mB0_x, ↓if_pos, ↓if_neg, if_true, if_false, if_pos, if_neg]
end PULL
