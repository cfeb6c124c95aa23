/-! CALLS, 7: what one could bring about -/
/-- one taken out and put in anew -/
theorem zSel_swap {α : Type} {s s' p : Int} {f f' : Int → α} (hs : zB s p = true) (hf : ∀ i, i ≠ p → f' i = f i) : ∀ {m : Nat} {q : Int}, q ≤ p → p < q + m → (∀ i, q ≤ i → i < q + m → zB s' i = (zB s i && decide (i ≠ p))) → (zSel s f' q m).Perm (f' p :: zSel s' f q m)
  | 0, q, h1, h2, _ => by omega
  | m + 1, q, h1, h2, hb => by
    rw [zSel_cons, zSel_cons]
    have h0 := hb q (by omega) (by omega)
    by_cases hq : q = p
    · subst hq
      rw [if_pos hs, if_neg (by rw [h0]; simp)]
      have e : zSel s f' (q + 1) m = zSel s' f (q + 1) m := zSel_congr (fun i i1 i2 => by
        have hbi := hb i (by omega) (by omega)
        have hd : decide (i ≠ q) = true := decide_eq_true (by omega)
        rw [hd, Bool.and_true] at hbi
        exact ⟨hbi.symm, fun _ => hf i (by omega)⟩)
      rw [e]
    · have hd : decide (q ≠ p) = true := decide_eq_true hq
      rw [hd, Bool.and_true] at h0
      have ih := zSel_swap hs hf (m := m) (q := q + 1) (by omega) (by omega) (fun i i1 i2 => hb i (by omega) (by omega))
      by_cases hz : zB s q = true
      · rw [if_pos hz, if_pos (by rw [h0]; exact hz), hf q hq]
        exact (ih.cons (f q)).trans (List.Perm.swap _ _ _)
      · rw [if_neg hz, if_neg (by rw [h0]; exact hz)]
        exact ih
def zLess (n p : Int) : Int := zAnd (zAll n) (zXor (zShl 1 p) (-1))
/-- the others of a kind -/
def zWo (h : Int → Int) (k p : Int) : List (Int × Int) := zSel (zLess (h 0) p) (zWP h k) 0 (h 0).toNat
/-- the middle, if one tells v -/
noncomputable def zMd (h : Int → Int) (k p r v : Int) : Int := zMid r ((v, h (15 + 6 * p + 4)) :: zWo h k p)
theorem zMd_perm {h : Int → Int} {k p v : Int} {f : Int → Int × Int} (hw : 0 ≤ h 0 ∧ h 0 ≤ 8) (hp : 0 ≤ p ∧ p < h 0) (h1 : f p = (v, h (15 + 6 * p + 4))) (h2 : ∀ i, i ≠ p → f i = zWP h k i) : (zSel (zAll (h 0)) f 0 (h 0).toNat).Perm ((v, h (15 + 6 * p + 4)) :: zWo h k p) := by
  have hl := zAll_lt hw
  have hf := (zf_less hl (show 0 ≤ p ∧ p < 8 by omega)).2
  have := zSel_swap (s := zAll (h 0)) (s' := zLess (h 0) p) (p := p) (f := zWP h k) (f' := f) (by rw [zB_all hw (by omega)]; exact decide_eq_true hp.2) h2 (m := (h 0).toNat) (q := 0) hp.1 (by omega) (fun i i1 i2 => hf i ⟨i1, by omega⟩)
  rw [h1] at this
  exact this
theorem zWo_ok {h : Int → Int} {k p v w : Int} (hw : zHW0 h) (hk : 0 ≤ k ∧ k < 4) (hp : 0 ≤ p ∧ p < h 0) (hv : 0 ≤ v ∧ v ≤ 99) (hwt : 1 ≤ w ∧ w ≤ 9) : zOkP ((v, w) :: zWo h k p) := by
  have w0 := hw.1
  have hperm := zMd_perm (h := h) (k := k) (p := p) (v := h (15 + 6 * p + k)) (f := zWP h k) w0 hp rfl (fun _ _ => rfl)
  have hlen := hperm.length_eq
  have hle := zSel_le (s := zAll (h 0)) (f := zWP h k) (m := (h 0).toNat) (p := 0)
  have hok := zWP_ok (s := zLess (h 0) p) hw hk
  refine ⟨?_, fun q hq => ?_⟩
  · simp only [List.length_cons] at hlen ⊢; omega
  · rcases List.mem_cons.mp hq with rfl | hq
    · exact ⟨hv, hwt⟩
    · exact hok.2 q hq
theorem zMd_own {h : Int → Int} {k p r : Int} (hw : 0 ≤ h 0 ∧ h 0 ≤ 8) (hp : 0 ≤ p ∧ p < h 0) : zMid r (zAP h k) = zMd h k p r (h (15 + 6 * p + k)) :=
  zMid_perm (zMd_perm (f := zWP h k) hw hp rfl (fun _ _ => rfl))
theorem zMd_rng {h : Int → Int} {k p r v : Int} (hw : zHW0 h) (hk : 0 ≤ k ∧ k < 4) (hp : 0 ≤ p ∧ p < h 0) (hv : 0 ≤ v ∧ v ≤ 99) (hr : 0 ≤ r ∧ r ≤ 5) : 0 ≤ zMd h k p r v ∧ zMd h k p r v ≤ 99 :=
  zMid_rng (zWo_ok hw hk hp hv (hw.2.2.2.2.2.2.2.2.1 p hp.1 hp.2)) (by simp) hr
theorem zMid_w {v w w' : Int} {P : List (Int × Int)} : zMid 0 ((v, w) :: P) = zMid 0 ((v, w') :: P) := by
  unfold zMid; rw [if_pos rfl, if_pos rfl]; rfl
section SHAM
variable {ar : Nat → Nat × (Nat → Int32)} {d t : Nat} {K : Nat → Nat → Option Nat} {A : Nat → Int → Int} {O : Nat → Int64}
/-- the class: the bag of the others -/
def zBo (A : Nat → Int → Int) (k p : Int) (B : Nat → Int → Int) : Prop := zBag B (zWo (A 186) k p) ∧ ∀ c, c ≠ 173 → c ≠ 174 → B c = A c
theorem c_fillWo {k p : Int} (hI : zInv A) (hk : 0 ≤ k ∧ k < 4) (hp : 0 ≤ p ∧ p < A 186 0) {B : Nat → Int → Int} (hB : ∀ c, c ≠ 173 → c ≠ 174 → B c = A c) : ∃ A1, mGd ar (d + 2) 148 0 [.ref 181, .int (zI p), .int (zI k)] [] (zW K B O t) = some (.inl none, zW K A1 O t) ∧ zBo A k p A1 := by
  obtain ⟨hw, hr, e0, w0⟩ := zInv_f hI
  have eB : ∀ c, c < 173 → B c = A c := fun c hc => hB c (by omega) (by omega)
  have hl := zAll_lt w0
  have hz := (zf_less hl (show 0 ≤ p ∧ p < 8 by omega)).1
  have hr2 : zHR0 B 3 (A 186) := zHR0_same5 (fun c h1 h2 => eB c (by omega)) hr
  obtain ⟨A1, f1, f2, f3⟩ := c_fill (d := d) (K := K) (O := O) (t := t) (ar := ar) (A := B) isHall3 (k := k) (s := zLess (A 186 0) p) (zHOk_of_HR hw hr2) hk hz
  rw [zHP_sel hr2 hk] at f2
  have ce := c_everyone (d := d + 1) (K := K) (O := O) (t := t) (ar := ar) (A := B) isHall3 (by rw [hr2.1]; exact w0)
  rw [hr2.1] at ce
  refine ⟨A1, ?_, f2, fun c c1 c2 => by rw [f3 c c1 c2, hB c c1 c2]⟩
  unfold zLess at f1
  simp (disch := first | assumption | omega | exact zr_and | exact zr_or | exact zr_xor | exact zr_shl | exact zr_shr | exact zr_ushr | exact zr_byte | exact isHall3 | exact isLaw12) only [i148_0, i148_16, i148_25, ce, f1, mB1_i, mB0_i, mB1n_i, mB0n_i, mB1_x, mB0_x, ↓if_pos, ↓if_neg, if_true, if_false, if_pos, if_neg]
theorem c_midWith {k p v w r : Int} (hI : zInv A) (hk : 0 ≤ k ∧ k < 4) (hp : 0 ≤ p ∧ p < A 186 0) (hv : 0 ≤ v ∧ v ≤ 99) (hwt : 1 ≤ w ∧ w ≤ 9) (hr : 0 ≤ r ∧ r ≤ 5) {B : Nat → Int → Int} (hB : zBo A k p B) : ∃ A1, mGd ar (d + 2) 149 0 [.ref 181, .int (zI v), .int (zI w), .int (zI r), .double 0] [] (zW K B O t) = some (.inl (some (.int (zI (zMid r ((v, w) :: zWo (A 186) k p))))), zW K A1 O t) ∧ zBo A k p A1 := by
  obtain ⟨hw, -, -, w0⟩ := zInv_f hI
  have ok1 := zWo_ok (v := v) (w := w) hw hk hp hv hwt
  have ok0 : zOkP (zWo (A 186) k p) := ⟨by have := ok1.1; simp only [List.length_cons] at this; omega, fun q hq => ok1.2 q (List.mem_cons_of_mem _ hq)⟩
  obtain ⟨B1, f1, f2, f3⟩ := c_put (d := d + 1) (K := K) (O := O) (t := t) (ar := ar) (w := w) hB.1 ok0 (by have := ok1.1; simp only [List.length_cons] at this; omega) hv
  have cb := c_by (d := d) (K := K) (O := O) (t := t) (ar := ar) f2 ok1 (by simp) hr
  obtain ⟨B2, h1, h2, h3⟩ := c_take (d := d + 1) (K := K) (O := O) (t := t) (ar := ar) f2 ok1
  refine ⟨B2, ?_, h2, fun c c1 c2 => by rw [h3 c c1 c2, f3 c c1 c2, hB.2 c c1 c2]⟩
  simp (disch := first | assumption | omega | exact zr_and | exact zr_or | exact zr_xor | exact zr_shl | exact zr_shr | exact zr_ushr | exact zr_byte | exact isHall3 | exact isLaw12) only [i149_0, i149_9, i149_17, i149_28, f1, cb, h1, mB1_i, mB0_i, mB1n_i, mB0n_i, mB1_x, mB0_x, ↓if_pos, ↓if_neg, if_true, if_false, if_pos, if_neg]
/-- the reference: a middle by another number of one -/
theorem c_middleBy {p v r : Int} (hA : zROk A) (hp : 0 ≤ p ∧ p < A 186 0) (hv : 0 ≤ v ∧ v ≤ 99) (hr : 0 ≤ r ∧ r ≤ 5) : ∃ A', mGd ar (d + 4) 308 0 [.ref 185, .int (zI r), .int (zI p), .int (zI v), .double 0, .double 0] [] (zW K A O t) = some (.inl (some (.int (zI (zMid r (zSel (zAll (A 186 0)) (fun i => if i = p then (v, A 186 (15 + 6 * p + 4)) else zRP A i) 0 (A 186 0).toNat))))), zW K A' O t) ∧ zFr A A' := by
  have w0 := hA.1
  have hl := zAll_lt w0
  have hpos := zAll_pos (n := A 186 0) (by omega)
  have u6 : zU A 193 p v 186 = A 186 := zU_r (by decide)
  have ok1 : zROk (zU A 193 p v) := by
    refine ⟨by rw [u6]; exact w0, fun i i0 i1 => ?_, fun i i0 i1 => ?_⟩
    · rw [u6] at i1
      by_cases hi : i = p
      · rw [hi, zU_at]; exact hv
      · rw [zU_s hi]; exact hA.2.1 i i0 i1
    · rw [u6] at i1 ⊢; exact hA.2.2 i i0 i1
  have ca := c_all (d := d + 2) (K := K) (O := O) (t := t) (ar := ar) (A := zU A 193 p v) (by rw [u6]; exact w0)
  rw [u6] at ca
  obtain ⟨B, g1, g2⟩ := c_middleOf (d := d) (K := K) (O := O) (t := t) (ar := ar) (A := zU A 193 p v) (r := r) (s := zAll (A 186 0)) ok1 (by rw [u6]; omega) hr
  have e : zSel (zAll (A 186 0)) (zRP (zU A 193 p v)) 0 (zU A 193 p v 186 0).toNat = zSel (zAll (A 186 0)) (fun i => if i = p then (v, A 186 (15 + 6 * p + 4)) else zRP A i) 0 (A 186 0).toNat := by
    rw [u6]
    refine zSel_congr (fun i _ _ => ⟨rfl, fun _ => ?_⟩)
    unfold zRP
    rw [u6]
    by_cases hi : i = p
    · rw [if_pos hi, hi, zU_at]
    · rw [if_neg hi, zU_s hi]
  rw [e] at g1
  have e193 : B 193 = zU A 193 p v 193 := g2.2 _ (by decide) (by decide)
  refine ⟨zU B 193 p (A 193 p), ?_, fun j hj => by rw [zU_c (by decide), g2.1 j hj, zU_c (by decide)], fun c c1 c2 => ?_⟩
  · simp (disch := first | assumption | omega | exact zr_and | exact zr_or | exact zr_xor | exact zr_shl | exact zr_shr | exact zr_ushr | exact zr_byte | exact isHall3 | exact isLaw12) only [i308_0, i308_21, i308_24, ca, g1, mB1_i, mB0_i, mB1n_i, mB0n_i, mB1_x, mB0_x, ↓if_pos, ↓if_neg, if_true, if_false, if_pos, if_neg]
  · by_cases hc : c = 193
    · subst hc
      funext j
      by_cases hj : j = p
      · rw [hj, zU_at]
      · rw [zU_s hj, e193, zU_s hj]
    · rw [zU_r hc, g2.2 c c1 c2, zU_r hc]
/-- the row laid for a kind, as a middle by v -/
def zLd (h : Int → Int) (k : Int) (B : Nat → Int → Int) : Prop := B 186 = h ∧ zROk B ∧ ∀ i, 0 ≤ i → i < h 0 → B 193 i = h (15 + 6 * i + k)
theorem zLd_fr {h : Int → Int} {k : Int} {B C : Nat → Int → Int} (hB : zLd h k B) (hf : zFr B C) : zLd h k C := by
  have e6 : C 186 = B 186 := hf.2 _ (by decide) (by decide)
  have e3 : C 193 = B 193 := hf.2 _ (by decide) (by decide)
  exact ⟨by rw [e6]; exact hB.1, by have q := hB.2.1; unfold zROk at q ⊢; rw [e6, e3]; exact q, by rw [e3]; exact hB.2.2⟩
theorem c_midBy {h : Int → Int} {k p v r : Int} (hw : zHW0 h) (hk : 0 ≤ k ∧ k < 4) (hp : 0 ≤ p ∧ p < h 0) (hv : 0 ≤ v ∧ v ≤ 99) (hr : 0 ≤ r ∧ r ≤ 5) {B : Nat → Int → Int} (hB : zLd h k B) : ∃ C, mGd ar (d + 4) 308 0 [.ref 185, .int (zI r), .int (zI p), .int (zI v), .double 0, .double 0] [] (zW K B O t) = some (.inl (some (.int (zI (zMd h k p r v)))), zW K C O t) ∧ zFr B C ∧ zLd h k C := by
  obtain ⟨b1, b2, b3⟩ := hB
  obtain ⟨C, g1, g2⟩ := c_middleBy (d := d) (K := K) (O := O) (t := t) (ar := ar) (A := B) b2 (by rw [b1]; exact hp) hv hr
  rw [b1] at g1
  have e : zSel (zAll (h 0)) (fun i => if i = p then (v, h (15 + 6 * p + 4)) else zRP B i) 0 (h 0).toNat = zSel (zAll (h 0)) (fun i => if i = p then (v, h (15 + 6 * p + 4)) else zWP h k i) 0 (h 0).toNat := by
    refine zSel_congr (fun i i1 i2 => ⟨rfl, fun _ => ?_⟩)
    by_cases hi : i = p
    · rw [if_pos hi, if_pos hi]
    · rw [if_neg hi, if_neg hi]
      unfold zRP zWP
      rw [b1, b3 i i1 (by omega)]
  rw [e, zMid_perm (zMd_perm (v := v) (k := k) (f := fun i => if i = p then (v, h (15 + 6 * p + 4)) else zWP h k i) hw.1 hp (if_pos rfl) (fun i hi => if_neg hi))] at g1
  exact ⟨C, g1, g2, zLd_fr ⟨b1, b2, b3⟩ g2⟩
/-- the middle of all in the row laid -/
theorem c_midAllBy {h : Int → Int} {k r : Int} (hp : 0 < h 0) (hw : zHW0 h) (hr : 0 ≤ r ∧ r ≤ 5) {B : Nat → Int → Int} (hB : zLd h k B) : ∃ C, mGd ar (d + 3) 265 0 [.ref 185, .int (zI r), .int (zI ((zAll (h 0))))] [] (zW K B O t) = some (.inl (some (.int (zI (zMid r (zAP h k))))), zW K C O t) ∧ zFr B C ∧ zLd h k C := by
  obtain ⟨b1, b2, b3⟩ := hB
  have w0 := hw.1
  have hl := zAll_lt w0
  have hpos := zAll_pos (n := h 0) (by omega)
  obtain ⟨C, g1, g2⟩ := c_middleOf (d := d) (K := K) (O := O) (t := t) (ar := ar) (A := B) (r := r) (s := zAll (h 0)) b2 (by rw [b1]; omega) hr
  have e : zSel (zAll (h 0)) (zRP B) 0 (B 186 0).toNat = zAP h k := by
    rw [b1]
    refine zSel_congr (fun i i1 i2 => ⟨rfl, fun _ => ?_⟩)
    unfold zRP zWP
    rw [b1, b3 i i1 (by omega)]
  rw [e] at g1
  exact ⟨C, g1, g2, zLd_fr ⟨b1, b2, b3⟩ g2⟩
end SHAM
