/-! CONTRACTS, 5: what the class's halls and laws and the reference's rows have in common -/
def zPack (w x y z : Int) : Int := w + 128 * x + 16384 * y + 2097152 * z
/-- a row of the reference as a hall is well formed: all but the log; the log -/
def zHW0 (h : Int → Int) : Prop := (0 ≤ h 0 ∧ h 0 ≤ 8) ∧ (0 ≤ h 1 ∧ h 1 ≤ 12) ∧ (h 2 = 0 ∨ h 2 = 1) ∧ (0 ≤ h 3 ∧ h 3 ≤ 9999) ∧ (0 ≤ h 4 ∧ h 4 ≤ 100) ∧ (∀ k, 0 ≤ k → k < 4 → 0 ≤ h (7 + k) ∧ h (7 + k) ≤ 5) ∧ (∀ k, 0 ≤ k → k < 4 → 0 ≤ h (11 + k) ∧ h (11 + k) ≤ 99) ∧ (∀ p k, 0 ≤ p → p < h 0 → 0 ≤ k → k < 4 → 0 ≤ h (15 + 6 * p + k) ∧ h (15 + 6 * p + k) ≤ 99) ∧ (∀ p, 0 ≤ p → p < h 0 → 1 ≤ h (15 + 6 * p + 4) ∧ h (15 + 6 * p + 4) ≤ 9) ∧ (∀ p, 0 ≤ p → p < h 0 → h (15 + 6 * p + 5) = 0 ∨ h (15 + 6 * p + 5) = 1)
def zHWl (h : Int → Int) : Prop := (0 ≤ h 5 ∧ h 5 ≤ 60) ∧ ∀ i, 0 ≤ i → i < h 5 → (0 ≤ h (63 + 6 * i) ∧ h (63 + 6 * i) ≤ 9999) ∧ (∀ k, 1 ≤ k → k ≤ 4 → 0 ≤ h (63 + 6 * i + k) ∧ h (63 + 6 * i + k) ≤ 99) ∧ (0 ≤ h (63 + 6 * i + 5) ∧ h (63 + 6 * i + 5) ≤ 32)
def zHWf (h : Int → Int) : Prop := zHW0 h ∧ zHWl h
/-- the bits of those who are stubborn -/
def zStub (b : Int) (h : Int → Int) : Prop := (0 ≤ b ∧ b ≤ zAll (h 0)) ∧ ∀ p, 0 ≤ p → p < h 0 → (zB b p = true ↔ h (15 + 6 * p + 5) = 1)
/-- the ring of days -/
def zLog (A : Nat → Int → Int) (a : Nat) (h : Int → Int) : Prop := A (a + 5) 0 = h 5 ∧ (0 ≤ A (a + 5) 1 ∧ A (a + 5) 1 < 60) ∧ ∀ i, 0 ≤ i → i < h 5 → A (a + 6) ((A (a + 5) 1 - i) % 60) = h (63 + 6 * i) ∧ A (a + 7) ((A (a + 5) 1 - i) % 60) = zPack (h (63 + 6 * i + 1)) (h (63 + 6 * i + 2)) (h (63 + 6 * i + 3)) (h (63 + 6 * i + 4)) ∧ A (a + 8) ((A (a + 5) 1 - i) % 60) = h (63 + 6 * i + 5)
/-- the hall at a is the row h: all but the log; the log too -/
def zHR0 (A : Nat → Int → Int) (a : Nat) (h : Int → Int) : Prop := A a 0 = h 0 ∧ A a 9 = h 1 ∧ A a 7 = h 3 ∧ A a 6 = h 4 ∧ A a 8 = h 6 ∧ (∀ k, 0 ≤ k → k < 4 → A (a + 3) k = h (7 + k)) ∧ (∀ k, 0 ≤ k → k < 4 → A (a + 4) k = h (11 + k)) ∧ (∀ p k, 0 ≤ p → p < h 0 → 0 ≤ k → k < 4 → A (a + 1) (p * 4 + k) = h (15 + 6 * p + k)) ∧ (∀ p, 0 ≤ p → p < h 0 → A (a + 2) p = h (15 + 6 * p + 4)) ∧ zStub (A a 3) h
def zHR (A : Nat → Int → Int) (a : Nat) (h : Int → Int) : Prop := zHR0 A a h ∧ zLog A a h
/-- one hall is as another one was -/
def zHEq (A' : Nat → Int → Int) (a : Nat) (A : Nat → Int → Int) (b : Nat) : Prop := (A' a 0 = A b 0 ∧ A' a 3 = A b 3 ∧ A' a 6 = A b 6 ∧ A' a 7 = A b 7 ∧ A' a 8 = A b 8 ∧ A' a 9 = A b 9) ∧ (∀ i, 0 ≤ i → i < 32 → A' (a + 1) i = A (b + 1) i) ∧ (∀ i, 0 ≤ i → i < 8 → A' (a + 2) i = A (b + 2) i) ∧ (∀ i, 0 ≤ i → i < 4 → A' (a + 3) i = A (b + 3) i) ∧ (∀ i, 0 ≤ i → i < 4 → A' (a + 4) i = A (b + 4) i) ∧ (A' (a + 5) 0 = A (b + 5) 0 ∧ A' (a + 5) 1 = A (b + 5) 1) ∧ (∀ i, 0 ≤ i → i < 60 → A' (a + 6) i = A (b + 6) i) ∧ (∀ i, 0 ≤ i → i < 60 → A' (a + 7) i = A (b + 7) i) ∧ (∀ i, 0 ≤ i → i < 60 → A' (a + 8) i = A (b + 8) i)
section REL
variable {ar : Nat → Nat × (Nat → Int32)} {d t : Nat} {K : Nat → Nat → Option Nat} {A A' : Nat → Int → Int} {O : Nat → Int64}
theorem zHR0_eq {a b : Nat} {h : Int → Int} (he : zHEq A' a A b) (hw : zHW0 h) (hr : zHR0 A b h) : zHR0 A' a h := by
  obtain ⟨⟨e0, e3, e6, e7, e8, e9⟩, en, ew, er, em, -⟩ := he
  obtain ⟨r0, r9, r7, r6, r8, rr, rm, rn, rw', rs⟩ := hr
  have hw0 := hw.1
  exact ⟨e0.trans r0, e9.trans r9, e7.trans r7, e6.trans r6, e8.trans r8, fun k h1 h2 => (er k h1 h2).trans (rr k h1 h2), fun k h1 h2 => (em k h1 h2).trans (rm k h1 h2), fun p k h1 h2 h3 h4 => (en _ (by omega) (by omega)).trans (rn p k h1 h2 h3 h4), fun p h1 h2 => (ew _ (by omega) (by omega)).trans (rw' p h1 h2), by rw [e3]; exact rs⟩
theorem zHR_eq {a b : Nat} {h : Int → Int} (he : zHEq A' a A b) (hw : zHWf h) (hr : zHR A b h) : zHR A' a h := by
  refine ⟨zHR0_eq he hw.1 hr.1, ?_⟩
  obtain ⟨-, -, -, -, -, ⟨l0, l1⟩, ld, lm, lc⟩ := he
  obtain ⟨q0, q1, q2⟩ := hr.2
  have hw5 := hw.2.1
  refine ⟨l0.trans q0, by rw [l1]; exact q1, fun i h1 h2 => ?_⟩
  rw [l1, ld _ (by omega) (by omega), lm _ (by omega) (by omega), lc _ (by omega) (by omega)]
  exact q2 i h1 h2
theorem zHEq_same {a : Nat} (h : ∀ c, a ≤ c → c ≤ a + 8 → A' c = A c) : zHEq A' a A a := by
  unfold zHEq
  rw [h a (by omega) (by omega), h (a + 1) (by omega) (by omega), h (a + 2) (by omega) (by omega), h (a + 3) (by omega) (by omega), h (a + 4) (by omega) (by omega), h (a + 5) (by omega) (by omega), h (a + 6) (by omega) (by omega), h (a + 7) (by omega) (by omega), h (a + 8) (by omega) (by omega)]
  simp
theorem zHR_same {a : Nat} {h : Int → Int} (he : ∀ c, a ≤ c → c ≤ a + 8 → A' c = A c) (hw : zHWf h) (hr : zHR A a h) : zHR A' a h := zHR_eq (zHEq_same he) hw hr
/-- rows that are the same as far as they count -/
theorem zHW0_congr {h h' : Int → Int} (e : ∀ i, 0 ≤ i → i < 63 → i ≠ 5 → h' i = h i) (hw : zHW0 h) : zHW0 h' := by
  obtain ⟨w0, w1, w2, w3, w4, wr, wm, wn, ww, ws⟩ := hw
  unfold zHW0
  rw [e 0 (by omega) (by omega) (by omega), e 1 (by omega) (by omega) (by omega), e 2 (by omega) (by omega) (by omega), e 3 (by omega) (by omega) (by omega), e 4 (by omega) (by omega) (by omega)]
  refine ⟨w0, w1, w2, w3, w4, fun k h1 h2 => ?_, fun k h1 h2 => ?_, fun p k h1 h2 h3 h4 => ?_, fun p h1 h2 => ?_, fun p h1 h2 => ?_⟩
  · rw [e _ (by omega) (by omega) (by omega)]; exact wr k h1 h2
  · rw [e _ (by omega) (by omega) (by omega)]; exact wm k h1 h2
  · rw [e _ (by omega) (by omega) (by omega)]; exact wn p k h1 h2 h3 h4
  · rw [e _ (by omega) (by omega) (by omega)]; exact ww p h1 h2
  · rw [e _ (by omega) (by omega) (by omega)]; exact ws p h1 h2
theorem zHWl_congr {h h' : Int → Int} (e5 : h' 5 = h 5) (e : ∀ i, 63 ≤ i → i < 423 → h' i = h i) (hw : zHWl h) : zHWl h' := by
  obtain ⟨w5, wl⟩ := hw
  unfold zHWl
  rw [e5]
  refine ⟨w5, fun i h1 h2 => ⟨?_, fun k h3 h4 => ?_, ?_⟩⟩
  · rw [e _ (by omega) (by omega)]; exact (wl i h1 h2).1
  · rw [e _ (by omega) (by omega)]; exact (wl i h1 h2).2.1 k h3 h4
  · rw [e _ (by omega) (by omega)]; exact (wl i h1 h2).2.2
theorem zHWf_congr {h h' : Int → Int} (e : ∀ i, 0 ≤ i → i < 423 → h' i = h i) (hw : zHWf h) : zHWf h' :=
  ⟨zHW0_congr (fun i h1 h2 _ => e i h1 (by omega)) hw.1, zHWl_congr (e 5 (by omega) (by omega)) (fun i h1 h2 => e i (by omega) h2) hw.2⟩
theorem zHR0_congr {a : Nat} {h h' : Int → Int} (e : ∀ i, 0 ≤ i → i < 63 → i ≠ 5 → h' i = h i) (hw : zHW0 h) (hr : zHR0 A a h) : zHR0 A a h' := by
  obtain ⟨r0, r9, r7, r6, r8, rr, rm, rn, rw', ⟨s1, s2⟩⟩ := hr
  have hw0 := hw.1
  unfold zHR0 zStub
  rw [e 0 (by omega) (by omega) (by omega), e 1 (by omega) (by omega) (by omega), e 3 (by omega) (by omega) (by omega), e 4 (by omega) (by omega) (by omega), e 6 (by omega) (by omega) (by omega)]
  refine ⟨r0, r9, r7, r6, r8, fun k h1 h2 => ?_, fun k h1 h2 => ?_, fun p k h1 h2 h3 h4 => ?_, fun p h1 h2 => ?_, ⟨s1, fun p h1 h2 => ?_⟩⟩
  · rw [e _ (by omega) (by omega) (by omega)]; exact rr k h1 h2
  · rw [e _ (by omega) (by omega) (by omega)]; exact rm k h1 h2
  · rw [e _ (by omega) (by omega) (by omega)]; exact rn p k h1 h2 h3 h4
  · rw [e _ (by omega) (by omega) (by omega)]; exact rw' p h1 h2
  · rw [e _ (by omega) (by omega) (by omega)]; exact s2 p h1 h2
theorem zLog_congr {a : Nat} {h h' : Int → Int} (e5 : h' 5 = h 5) (e : ∀ i, 63 ≤ i → i < 423 → h' i = h i) (hw : zHWl h) (hr : zLog A a h) : zLog A a h' := by
  obtain ⟨q0, q1, q2⟩ := hr
  have hw5 := hw.1
  unfold zLog
  rw [e5]
  refine ⟨q0, q1, fun i h1 h2 => ?_⟩
  rw [e _ (by omega) (by omega), e (63 + 6 * i + 1) (by omega) (by omega), e (63 + 6 * i + 2) (by omega) (by omega), e (63 + 6 * i + 3) (by omega) (by omega), e (63 + 6 * i + 4) (by omega) (by omega), e (63 + 6 * i + 5) (by omega) (by omega)]; exact q2 i h1 h2
theorem zHR_congr {a : Nat} {h h' : Int → Int} (e : ∀ i, 0 ≤ i → i < 423 → h' i = h i) (hw : zHWf h) (hr : zHR A a h) : zHR A a h' :=
  ⟨zHR0_congr (fun i h1 h2 _ => e i h1 (by omega)) hw.1 hr.1, zLog_congr (e 5 (by omega) (by omega)) (fun i h1 h2 => e i (by omega) h2) hw.2 hr.2⟩
theorem zHOk_of_HR {a : Nat} {h : Int → Int} (hw : zHW0 h) (hr : zHR0 A a h) : zHOk A a := by
  obtain ⟨r0, -, -, -, -, -, -, rn, rw', -⟩ := hr
  obtain ⟨w0, -, -, -, -, -, -, wn, ww, -⟩ := hw
  refine ⟨by rw [r0]; exact w0, fun p k h1 h2 h3 h4 => ?_, fun p h1 h2 => ?_⟩
  · rw [rn p k h1 (by omega) h3 h4]; exact wn p k h1 (by omega) h3 h4
  · rw [rw' p h1 (by omega)]; exact ww p h1 (by omega)
/-- the people of a kind in a row -/
def zWP (h : Int → Int) (k p : Int) : Int × Int := (h (15 + 6 * p + k), h (15 + 6 * p + 4))
theorem zHP_sel {a : Nat} {h : Int → Int} (hr : zHR0 A a h) {s k : Int} (hk : 0 ≤ k ∧ k < 4) : zSel s (zHP A a k) 0 (A a 0).toNat = zSel s (zWP h k) 0 (h 0).toNat := by
  obtain ⟨r0, -, -, -, -, -, -, rn, rw', -⟩ := hr
  rw [r0]
  refine zSel_congr (fun i h1 h2 => ⟨rfl, fun _ => ?_⟩)
  unfold zHP zWP
  rw [rn i k h1 (by omega) hk.1 hk.2, rw' i h1 (by omega)]
theorem isHall_apart {a b : Nat} (ha : isHall a) (hb : isHall b) (hne : a ≠ b) : a + 9 ≤ b ∨ b + 9 ≤ a := by
  unfold isHall at ha hb; omega
theorem c_copy {a b : Nat} (ha : isHall a) (hb : isHall b) (hne : a ≠ b) : ∃ A', mGd ar (d + 1) 19 0 [.ref a, .ref b] [] (zW K A O t) = some (.inl none, zW K A' O t) ∧ zHEq A' a A b ∧ ∀ c, ¬ (a ≤ c ∧ c ≤ a + 8) → A' c = A c := by
  have hap := isHall_apart ha hb hne
  rw [i19_0 ha hb, i20_0 (isHall_log ha) (isHall_log hb)]
  simp (disch := first | assumption | omega | exact zr_and | exact zr_or | exact zr_xor | exact zr_shl | exact zr_shr | exact zr_ushr | exact zr_byte) only [i19_117, mB1_i, mB0_i, mB1n_i, mB0n_i, mB1_x, mB0_x, if_true, if_false, if_pos, if_neg]
  refine ⟨_, rfl, ⟨⟨?_, ?_, ?_, ?_, ?_, ?_⟩, fun i h1 h2 => ?_, fun i h1 h2 => ?_, fun i h1 h2 => ?_, fun i h1 h2 => ?_, ⟨?_, ?_⟩, fun i h1 h2 => ?_, fun i h1 h2 => ?_, fun i h1 h2 => ?_⟩, fun c hc => ?_⟩
  all_goals simp (disch := first | assumption | omega) only [zC_r, zC_in, zC_out, Nat.add_assoc, Nat.reduceAdd, Int.sub_zero, Int.zero_add, zU_at, zU_c, zU_s, zU_r]
end REL
