/-! CONTRACTS, 4: chosen people; the class's fill; the reference's middles -/
def zSel {α : Type} (s : Int) (f : Int → α) : Int → Nat → List α
  | _, 0 => []
  | p, m + 1 => if zB s p = true then f p :: zSel s f (p + 1) m else zSel s f (p + 1) m
theorem zSel_cons {α : Type} {s : Int} {f : Int → α} {m : Nat} {p : Int} : zSel s f p (m + 1) = if zB s p = true then f p :: zSel s f (p + 1) m else zSel s f (p + 1) m := rfl
theorem zSel_map {α β : Type} {s : Int} {f : Int → α} {h : α → β} : ∀ {m : Nat} {p : Int}, (zSel s f p m).map h = zSel s (fun p => h (f p)) p m
  | 0, _ => rfl
  | m + 1, p => by
    show (if zB s p = true then _ else _ : List α).map h = if zB s p = true then _ else _
    by_cases hb : zB s p = true
    · rw [if_pos hb, if_pos hb, List.map_cons, zSel_map]
    · rw [if_neg hb, if_neg hb, zSel_map]
theorem zSel_congr {α : Type} {s s' : Int} {f f' : Int → α} : ∀ {m : Nat} {p : Int}, (∀ i, p ≤ i → i < p + m → zB s i = zB s' i ∧ (zB s i = true → f i = f' i)) → zSel s f p m = zSel s' f' p m
  | 0, _, _ => rfl
  | m + 1, p, h => by
    have h0 := h p (by omega) (by omega)
    have ih := zSel_congr (m := m) (p := p + 1) (fun i h1 h2 => h i (by omega) (by omega))
    show (if zB s p = true then _ else _ : List α) = if zB s' p = true then _ else _
    by_cases hb : zB s p = true
    · rw [if_pos hb, if_pos (h0.1 ▸ hb), h0.2 hb, ih]
    · rw [if_neg hb, if_neg (h0.1 ▸ hb), ih]
theorem zSel_mem {α : Type} {s : Int} {f : Int → α} {x : α} : ∀ {m : Nat} {p : Int}, x ∈ zSel s f p m → ∃ i, p ≤ i ∧ i < p + m ∧ zB s i = true ∧ f i = x
  | 0, _, h => by cases h
  | m + 1, p, h => by
    have h1 : x ∈ (if zB s p = true then f p :: zSel s f (p + 1) m else zSel s f (p + 1) m) := h
    by_cases hb : zB s p = true
    · rw [if_pos hb] at h1
      rcases List.mem_cons.mp h1 with rfl | h1
      · exact ⟨p, by omega, by omega, hb, rfl⟩
      · obtain ⟨i, a, b, c, e⟩ := zSel_mem h1
        exact ⟨i, by omega, by omega, c, e⟩
    · rw [if_neg hb] at h1
      obtain ⟨i, a, b, c, e⟩ := zSel_mem h1
      exact ⟨i, by omega, by omega, c, e⟩
theorem zSel_in {α : Type} {s : Int} {f : Int → α} : ∀ {m : Nat} {p i : Int}, p ≤ i → i < p + m → zB s i = true → f i ∈ zSel s f p m
  | 0, p, i, h1, h2, _ => by omega
  | m + 1, p, i, h1, h2, h3 => by
    show f i ∈ (if zB s p = true then f p :: zSel s f (p + 1) m else zSel s f (p + 1) m)
    by_cases hp : i = p
    · rw [← hp, if_pos h3]; exact List.mem_cons_self
    · have ih := zSel_in (f := f) (m := m) (p := p + 1) (i := i) (by omega) (by omega) h3
      by_cases hb : zB s p = true
      · rw [if_pos hb]; exact List.mem_cons_of_mem _ ih
      · rw [if_neg hb]; exact ih
theorem zSel_le {α : Type} {s : Int} {f : Int → α} : ∀ {m : Nat} {p : Int}, (zSel s f p m).length ≤ m
  | 0, _ => Nat.le_refl _
  | m + 1, p => by
    show (if zB s p = true then _ else _ : List α).length ≤ _
    have ih := zSel_le (s := s) (f := f) (m := m) (p := p + 1)
    by_cases hb : zB s p = true
    · rw [if_pos hb, List.length_cons]; omega
    · rw [if_neg hb]; omega
theorem zSel_cnt {α : Type} {s n : Int} {f : Int → α} (hs : 0 ≤ s ∧ s ≤ zAll n) (hn : 0 ≤ n ∧ n ≤ 8) : ((zSel s f 0 n.toNat).length : Int) = zCnt s := by
  have h : ∀ n : Fin 9, ∀ s : Fin 256, (s.val : Int) ≤ zAll (n.val : Int) → ((zSel (s.val : Int) (fun _ => ()) 0 n.val).length : Int) = zCnt (s.val : Int) := by decide +kernel
  have hl := zAll_lt hn
  have h1 := h ⟨n.toNat, by omega⟩ ⟨s.toNat, by omega⟩
  simp only [Int.toNat_of_nonneg hs.1, Int.toNat_of_nonneg hn.1] at h1
  rw [← h1 hs.2, ← zSel_map (f := f) (h := fun _ => ()), List.length_map]
theorem zCnt_pos {s n : Int} (hs : 0 < s ∧ s ≤ zAll n) (hn : 0 ≤ n ∧ n ≤ 8) : 0 < zCnt s ∧ zCnt s ≤ n := by
  have h : ∀ n : Fin 9, ∀ s : Fin 256, (s.val : Int) ≤ zAll (n.val : Int) → 0 < s.val → 0 < zCnt (s.val : Int) ∧ zCnt (s.val : Int) ≤ (n.val : Int) := by decide +kernel
  have hl := zAll_lt hn
  have h1 := h ⟨n.toNat, by omega⟩ ⟨s.toNat, by omega⟩
  simp only [Int.toNat_of_nonneg (show 0 ≤ s by omega), Int.toNat_of_nonneg hn.1] at h1
  exact h1 hs.2 (by show 0 < s.toNat; omega)
section MID
variable {ar : Nat → Nat × (Nat → Int32)} {d t : Nat} {K : Nat → Nat → Option Nat} {A : Nat → Int → Int} {O : Nat → Int64}
theorem isHall_lt {a : Nat} (h : isHall a) : 3 ≤ a ∧ a + 8 < 163 := by
  unfold isHall at h; omega
/-! the class -/
def zHP (A : Nat → Int → Int) (a : Nat) (k p : Int) : Int × Int := (A (a + 1) (p * 4 + k), A (a + 2) p)
theorem c_everyone {a : Nat} (ha : isHall a) (hn : 0 ≤ A a 0 ∧ A a 0 ≤ 8) : mGd ar (d) 24 0 [.ref a] [] (zW K A O t) = some (.inl (some (.int (zI (zAll (A a 0))))), zW K A O t) := by
  rw [i24_0 ha, zf_all hn]
def zHOk (A : Nat → Int → Int) (a : Nat) : Prop := (0 ≤ A a 0 ∧ A a 0 ≤ 8) ∧ (∀ p k, 0 ≤ p → p < A a 0 → 0 ≤ k → k < 4 → 0 ≤ A (a + 1) (p * 4 + k) ∧ A (a + 1) (p * 4 + k) ≤ 99) ∧ (∀ p, 0 ≤ p → p < A a 0 → 1 ≤ A (a + 2) p ∧ A (a + 2) p ≤ 9)
theorem zHOk_of {B : Nat → Int → Int} {a : Nat} (h : zHOk A a) (h0 : B a = A a) (h1 : B (a + 1) = A (a + 1)) (h2 : B (a + 2) = A (a + 2)) : zHOk B a := by
  unfold zHOk; rw [h0, h1, h2]; exact h
theorem zHP_of {B : Nat → Int → Int} {a : Nat} (h1 : B (a + 1) = A (a + 1)) (h2 : B (a + 2) = A (a + 2)) : zHP B a = zHP A a := by
  funext k p; unfold zHP; rw [h1, h2]
theorem fill_loop {a : Nat} (ha : isHall a) {k s : Int} (hA : zHOk A a) (hk : 0 ≤ k ∧ k < 4) (hs : 0 ≤ s ∧ s < 256) :
    ∀ (m : Nat) (p : Int) (B : Nat → Int → Int) (P : List (Int × Int)), p + m = A a 0 → 0 ≤ p → zBag B P → zOkP P → (P.length : Int) ≤ p → (∀ c, c ≠ 173 → c ≠ 174 → B c = A c) →
    ∃ A', mGd ar (d + 1) 25 7 [.ref a, .ref 173, .int (zI k), .int (zI s), .int (zI p)] [] (zW K B O t) = some (.inl none, zW K A' O t) ∧ zBag A' (zSel s (zHP A a k) p m ++ P) ∧ ∀ c, c ≠ 173 → c ≠ 174 → A' c = A c := by
  have hlt := isHall_lt ha
  obtain ⟨hA0, hA1, hA2⟩ := hA
  intro m
  induction m with
  | zero =>
    intro p B P hp h0 hb hP hl hB
    have e0 := hB a (by omega) (by omega)
    have e00 : B a 0 = A a 0 := by rw [e0]
    refine ⟨B, ?_, hb, hB⟩
    simp (disch := first | assumption | omega | exact zr_and | exact zr_or | exact zr_xor | exact zr_shl | exact zr_shr | exact zr_ushr | exact zr_byte) only [i25_7, i25_50, mB1_i, mB0_i, mB1n_i, mB0n_i, mB1_x, mB0_x, if_true, if_false, if_pos, if_neg]
  | succ m ih =>
    intro p B P hp h0 hb hP hl hB
    have e0 := hB a (by omega) (by omega)
    have e00 : B a 0 = A a 0 := by rw [e0]
    have e1 := hB (a + 1) (by omega) (by omega)
    have e2 := hB (a + 2) (by omega) (by omega)
    have n1 := hA1 p k (by omega) (by omega) (by omega) (by omega)
    have n2 := hA2 p (by omega) (by omega)
    have hbit := zf_ushr hs (show 0 ≤ p ∧ p < 8 by omega)
    rw [i25_7 ha (by omega) (by omega), if_neg (by omega)]
    show ∃ A', _ ∧ zBag A' ((if zB s p = true then zHP A a k p :: zSel s (zHP A a k) (p + 1) m else zSel s (zHP A a k) (p + 1) m) ++ P) ∧ _
    by_cases hbt : zB s p = true
    · rw [if_pos hbt] at hbit ⊢
      obtain ⟨B1, q1, q2, q3⟩ := c_put (d := d) (K := K) (O := O) (t := t) (ar := ar) (v := A (a + 1) (p * 4 + k)) (w := A (a + 2) p) hb hP (by omega) n1
      obtain ⟨A', g1, g2, g3⟩ := ih (p + 1) B1 (zHP A a k p :: P) (by omega) (by omega) q2 ⟨by rw [List.length_cons]; omega, fun q hq => by
        rcases List.mem_cons.mp hq with rfl | hq
        · exact ⟨n1, n2⟩
        · exact hP.2 q hq⟩ (by rw [List.length_cons]; omega) (fun c h1 h2 => by rw [q3 c h1 h2, hB c h1 h2])
      refine ⟨A', ?_, zBag_perm g2 List.perm_middle, g3⟩
      rw [← g1]
      simp (disch := first | assumption | omega | exact zr_and | exact zr_or | exact zr_xor | exact zr_shl | exact zr_shr | exact zr_ushr | exact zr_byte) only [i25_16, i25_26, i27_0, i25_34, i25_44, hbit, e1, e2, q1, mB1_i, mB0_i, mB1n_i, mB0n_i, mB1_x, mB0_x, if_true, if_false, if_pos, if_neg]
    · rw [if_neg hbt] at hbit ⊢
      obtain ⟨A', g1, g2, g3⟩ := ih (p + 1) B P (by omega) (by omega) hb hP (by omega) hB
      refine ⟨A', ?_, g2, g3⟩
      rw [← g1]
      simp (disch := first | assumption | omega | exact zr_and | exact zr_or | exact zr_xor | exact zr_shl | exact zr_shr | exact zr_ushr | exact zr_byte) only [i25_16, i25_44, hbit, mB1_i, mB0_i, mB1n_i, mB0n_i, mB1_x, mB0_x, if_true, if_false, if_pos, if_neg]
theorem zHP_ok {a : Nat} {s k : Int} (hA : zHOk A a) (hk : 0 ≤ k ∧ k < 4) : zOkP (zSel s (zHP A a k) 0 (A a 0).toNat) := by
  obtain ⟨hA0, hA1, hA2⟩ := hA
  have := zSel_le (s := s) (f := zHP A a k) (m := (A a 0).toNat) (p := 0)
  refine ⟨by omega, fun q hq => ?_⟩
  obtain ⟨i, h1, h2, -, rfl⟩ := zSel_mem hq
  exact ⟨hA1 i k (by omega) (by omega) hk.1 hk.2, hA2 i (by omega) (by omega)⟩
theorem c_fill {a : Nat} (ha : isHall a) {k s : Int} (hA : zHOk A a) (hk : 0 ≤ k ∧ k < 4) (hs : 0 ≤ s ∧ s < 256) :
    ∃ A', mGd ar (d + 1) 25 0 [.ref a, .ref 173, .int (zI k), .int (zI s), .double 0] [] (zW K A O t) = some (.inl none, zW K A' O t) ∧ zBag A' (zSel s (zHP A a k) 0 (A a 0).toNat) ∧ ∀ c, c ≠ 173 → c ≠ 174 → A' c = A c := by
  have hlt := isHall_lt ha
  obtain ⟨B, b1, b2, b3⟩ := c_clear (d := d) (K := K) (O := O) (t := t) (ar := ar) (A := A)
  have e0 : B a = A a := b3 a (by omega)
  have e1 : B (a + 1) = A (a + 1) := b3 _ (by omega)
  have e2 : B (a + 2) = A (a + 2) := b3 _ (by omega)
  have h0 := hA.1
  obtain ⟨A', g1, g2, g3⟩ := fill_loop (d := d) (K := K) (O := O) (t := t) (ar := ar) (A := B) ha (zHOk_of hA e0 e1 e2) hk hs (A a 0).toNat 0 B [] (by rw [e0]; omega) (by omega) b2 ⟨by decide, fun q hq => by cases hq⟩ (by decide) (fun _ _ _ => rfl)
  rw [List.append_nil, zHP_of e1 e2] at g2
  refine ⟨A', ?_, g2, fun c h1 h2 => by rw [g3 c h1 h2, b3 c h1]⟩
  rw [← g1]
  simp (disch := first | assumption | omega | exact zr_and | exact zr_or | exact zr_xor | exact zr_shl | exact zr_shr | exact zr_ushr | exact zr_byte) only [i25_0, i25_4, b1, mB1_i, mB0_i, mB1n_i, mB0n_i, mB1_x, mB0_x, if_true, if_false, if_pos, if_neg]
theorem c_midAll {a : Nat} (ha : isHall a) {k r : Int} (hA : zHOk A a) (hk : 0 ≤ k ∧ k < 4) (hr : 0 ≤ r ∧ r ≤ 5) (hp : 0 < A a 0) :
    ∃ A', mGd ar (d + 2) 23 0 [.ref a, .ref 173, .int (zI k), .int (zI r)] [] (zW K A O t) = some (.inl (some (.int (zI (zMid r (zSel (zAll (A a 0)) (zHP A a k) 0 (A a 0).toNat))))), zW K A' O t) ∧ ∀ c, c ≠ 173 → c ≠ 174 → A' c = A c := by
  have h0 := hA.1
  obtain ⟨A', g1, g2, g3⟩ := c_fill (d := d) (K := K) (O := O) (t := t) (ar := ar) ha hA hk (zAll_lt h0)
  have hlen : 0 < (zSel (zAll (A a 0)) (zHP A a k) 0 (A a 0).toNat).length := by
    have h1 := zSel_in (s := zAll (A a 0)) (f := zHP A a k) (m := (A a 0).toNat) (p := 0) (i := 0) (by omega) (by omega) (by rw [zB_all h0 (by decide)]; exact decide_eq_true hp)
    exact List.length_pos_of_mem h1
  have c1 := c_by (d := d) (K := K) (O := O) (t := t) (ar := ar) g2 (zHP_ok hA hk) hlen hr
  have c2 := c_everyone (d := d + 1) (K := K) (O := O) (t := t) (ar := ar) ha h0
  refine ⟨A', ?_, g3⟩
  simp (disch := first | assumption | omega | exact zr_and | exact zr_or | exact zr_xor | exact zr_shl | exact zr_shr | exact zr_ushr | exact zr_byte) only [i23_0, i23_7, i23_10, i23_15, c2, g1, c1, mB1_i, mB0_i, mB1n_i, mB0n_i, mB1_x, mB0_x, if_true, if_false, if_pos, if_neg]
/-! the reference -/
def zRP (A : Nat → Int → Int) (p : Int) : Int × Int := (A 193 p, A 186 (15 + 6 * p + 4))
theorem c_of {p k : Int} (hp : 0 ≤ p ∧ p ≤ 8) (hk : 0 ≤ k ∧ k ≤ 5) : mGd ar (d + 1) 258 0 [.ref 185, .int (zI p), .int (zI k)] [] (zW K A O t) = some (.inl (some (.int (zI (A 186 (15 + 6 * p + k))))), zW K A O t) := by
  simp (disch := first | assumption | omega | exact zr_and | exact zr_or | exact zr_xor | exact zr_shl | exact zr_shr | exact zr_ushr | exact zr_byte) only [i258_0, i258_9, i234_0, mB1_i, mB0_i, mB1n_i, mB0n_i, mB1_x, mB0_x, if_true, if_false, if_pos, if_neg]
theorem c_all (hn : 0 ≤ A 186 0 ∧ A 186 0 ≤ 8) : mGd ar (d + 1) 264 0 [.ref 185] [] (zW K A O t) = some (.inl (some (.int (zI (zAll (A 186 0))))), zW K A O t) := by
  simp (disch := first | assumption | omega | exact zr_and | exact zr_or | exact zr_xor | exact zr_shl | exact zr_shr | exact zr_ushr | exact zr_byte) only [i264_0, i264_5, i233_0, zf_all, mB1_i, mB0_i, mB1n_i, mB0n_i, mB1_x, mB0_x, if_true, if_false, if_pos, if_neg]
theorem sumOf_loop {s : Int} (hn : 0 ≤ A 186 0 ∧ A 186 0 ≤ 8) (hs : 0 ≤ s ∧ s < 256) {w : Int} (hw : w = 0 ∨ w = 1) :
    ∀ (m : Nat) (p acc : Int), p + m = A 186 0 → 0 ≤ p → mGd ar (d + 2) 266 5 [.ref 185, .int (zI s), .int (zI w), .int (zI acc), .int (zI p)] [] (zW K A O t) = some (.inl (some (.int (zI (acc + (zSel s (fun p => A 193 p * if w = 0 then 1 else A 186 (15 + 6 * p + 4)) p m).sum)))), zW K A O t) := by
  intro m
  induction m with
  | zero =>
    intro p acc hp h0
    simp (disch := first | assumption | omega | exact zr_and | exact zr_or | exact zr_xor | exact zr_shl | exact zr_shr | exact zr_ushr | exact zr_byte) only [i266_5, i233_0, i266_11, i266_59, mB1_i, mB0_i, mB1n_i, mB0n_i, mB1_x, mB0_x, if_true, if_false, if_pos, if_neg]
    rw [show acc + (zSel s (fun p => A 193 p * if w = 0 then 1 else A 186 (15 + 6 * p + 4)) p 0).sum = acc from Int.add_zero _]
  | succ m ih =>
    intro p acc hp h0
    have hh := c_has (d := d + 1) (K := K) (O := O) (t := t) (ar := ar) (A := A) hs (show 0 ≤ p ∧ p < 8 by omega)
    have ho := c_of (d := d) (K := K) (O := O) (t := t) (ar := ar) (A := A) (p := p) (k := 4) (by omega) (by omega)
    rw [i266_5]
    rw [zSel_cons]
    by_cases hb : zB s p = true
    · rw [if_pos hb] at hh ⊢
      rw [List.sum_cons, ← Int.add_assoc, ← ih (p + 1) _ (by omega) (by omega)]
      rcases hw with rfl | rfl
      · simp (disch := first | assumption | omega | exact zr_and | exact zr_or | exact zr_xor | exact zr_shl | exact zr_shr | exact zr_ushr | exact zr_byte) only [i233_0, i266_11, i266_14, hh, i266_21, i266_24, i266_45, i266_46, i266_51, mB1_i, mB0_i, mB1n_i, mB0n_i, mB1_x, mB0_x, if_true, if_false, if_pos, if_neg]
      · simp (disch := first | assumption | omega | exact zr_and | exact zr_or | exact zr_xor | exact zr_shl | exact zr_shr | exact zr_ushr | exact zr_byte) only [i233_0, i266_11, i266_14, hh, i266_21, i266_24, i266_35, ho, i266_42, i266_46, i266_51, mB1_i, mB0_i, mB1n_i, mB0n_i, mB1_x, mB0_x, if_true, if_false, if_pos, if_neg]
    · rw [if_neg hb] at hh ⊢
      rw [← ih (p + 1) _ (by omega) (by omega)]
      simp (disch := first | assumption | omega | exact zr_and | exact zr_or | exact zr_xor | exact zr_shl | exact zr_shr | exact zr_ushr | exact zr_byte) only [i233_0, i266_11, i266_14, hh, i266_21, i266_50, i266_51, Int.add_zero, mB1_i, mB0_i, mB1n_i, mB0n_i, mB1_x, mB0_x, if_true, if_false, if_pos, if_neg]
theorem c_sumOf {s : Int} (hn : 0 ≤ A 186 0 ∧ A 186 0 ≤ 8) (hs : 0 ≤ s ∧ s < 256) : mGd ar (d + 2) 266 0 [.ref 185, .int (zI s), .int (zI 0), .double 0, .double 0] [] (zW K A O t) = some (.inl (some (.int (zI (zS1 (zSel s (zRP A) 0 (A 186 0).toNat))))), zW K A O t) := by
  rw [i266_0, sumOf_loop hn hs (Or.inl rfl) (A 186 0).toNat 0 0 (by omega) (by omega), Int.zero_add]
  unfold zS1
  rw [zSel_map]
  simp only [if_true, Int.mul_one]
  rfl
theorem c_sumOfW {s : Int} (hn : 0 ≤ A 186 0 ∧ A 186 0 ≤ 8) (hs : 0 ≤ s ∧ s < 256) : mGd ar (d + 2) 266 0 [.ref 185, .int (zI s), .int (zI 1), .double 0, .double 0] [] (zW K A O t) = some (.inl (some (.int (zI (zS3 (zSel s (zRP A) 0 (A 186 0).toNat))))), zW K A O t) := by
  rw [i266_0, sumOf_loop hn hs (Or.inr rfl) (A 186 0).toNat 0 0 (by omega) (by omega), Int.zero_add]
  unfold zS3
  rw [zSel_map]
  rfl
theorem weightsOf_loop {s : Int} (hn : 0 ≤ A 186 0 ∧ A 186 0 ≤ 8) (hs : 0 ≤ s ∧ s < 256) :
    ∀ (m : Nat) (p acc : Int), p + m = A 186 0 → 0 ≤ p → mGd ar (d + 2) 268 4 [.ref 185, .int (zI s), .int (zI acc), .int (zI p)] [] (zW K A O t) = some (.inl (some (.int (zI (acc + (zSel s (fun p => A 186 (15 + 6 * p + 4)) p m).sum)))), zW K A O t) := by
  intro m
  induction m with
  | zero =>
    intro p acc hp h0
    simp (disch := first | assumption | omega | exact zr_and | exact zr_or | exact zr_xor | exact zr_shl | exact zr_shr | exact zr_ushr | exact zr_byte) only [i268_4, i233_0, i268_9, i268_39, mB1_i, mB0_i, mB1n_i, mB0n_i, mB1_x, mB0_x, if_true, if_false, if_pos, if_neg]
    rw [show acc + (zSel s (fun p => A 186 (15 + 6 * p + 4)) p 0).sum = acc from Int.add_zero _]
  | succ m ih =>
    intro p acc hp h0
    have hh := c_has (d := d + 1) (K := K) (O := O) (t := t) (ar := ar) (A := A) hs (show 0 ≤ p ∧ p < 8 by omega)
    have ho := c_of (d := d) (K := K) (O := O) (t := t) (ar := ar) (A := A) (p := p) (k := 4) (by omega) (by omega)
    rw [i268_4]
    rw [zSel_cons]
    by_cases hb : zB s p = true
    · rw [if_pos hb] at hh ⊢
      rw [List.sum_cons, ← Int.add_assoc, ← ih (p + 1) _ (by omega) (by omega)]
      simp (disch := first | assumption | omega | exact zr_and | exact zr_or | exact zr_xor | exact zr_shl | exact zr_shr | exact zr_ushr | exact zr_byte) only [i233_0, i268_9, i268_12, hh, i268_18, i268_21, ho, i268_27, i268_31, mB1_i, mB0_i, mB1n_i, mB0n_i, mB1_x, mB0_x, if_true, if_false, if_pos, if_neg]
    · rw [if_neg hb] at hh ⊢
      rw [← ih (p + 1) _ (by omega) (by omega)]
      simp (disch := first | assumption | omega | exact zr_and | exact zr_or | exact zr_xor | exact zr_shl | exact zr_shr | exact zr_ushr | exact zr_byte) only [i233_0, i268_9, i268_12, hh, i268_18, i268_30, i268_31, Int.add_zero, mB1_i, mB0_i, mB1n_i, mB0n_i, mB1_x, mB0_x, if_true, if_false, if_pos, if_neg]
theorem c_weightsOf {s : Int} (hn : 0 ≤ A 186 0 ∧ A 186 0 ≤ 8) (hs : 0 ≤ s ∧ s < 256) : mGd ar (d + 2) 268 0 [.ref 185, .int (zI s), .double 0, .double 0] [] (zW K A O t) = some (.inl (some (.int (zI (zS2 (zSel s (zRP A) 0 (A 186 0).toNat))))), zW K A O t) := by
  rw [i268_0, weightsOf_loop hn hs (A 186 0).toNat 0 0 (by omega) (by omega), Int.zero_add]
  unfold zS2
  rw [zSel_map]
  rfl
theorem ins_loop {m v p s : Int} (hm : A 185 19 = m) (hm8 : 0 ≤ m ∧ m < 8) (hr : ∀ i, 0 ≤ i → i < m → 0 ≤ A 194 i ∧ A 194 i ≤ 99) (hv : 0 ≤ v ∧ v ≤ 99) (hp : 0 ≤ p ∧ p < 8) (hpv : A 193 p = v) :
    ∀ (n : Nat) (x : Int) (B : Nat → Int → Int), x = n → x ≤ m → (∀ c, c ≠ 194 → B c = A c) → (∀ i, 0 ≤ i → i < x → B 194 i = A 194 i) → (∀ i, x ≤ i → i < m → B 194 (i + 1) = A 194 i ∧ v < A 194 i) →
    ∃ (q : Int) (A' : Nat → Int → Int), mGd ar (d) 269 31 [.ref 185, .int (zI s), .int (zI p), .int (zI x)] [] (zW K B O t) = mGd ar (d) 269 94 [.ref 185, .int (zI s), .int (zI p), .int (zI q)] [] (zW K A' O t) ∧ (0 ≤ q ∧ q ≤ m) ∧ (0 < q → A 194 (q - 1) ≤ v) ∧ (∀ i, q ≤ i → i < m → v < A 194 i) ∧ (∀ i, 0 ≤ i → i < q → A' 194 i = A 194 i) ∧ A' 194 q = v ∧ (∀ i, q ≤ i → i < m → A' 194 (i + 1) = A 194 i) ∧ A' 185 19 = m + 1 ∧ (∀ j, j ≠ 19 → A' 185 j = A 185 j) ∧ ∀ c, c ≠ 185 → c ≠ 194 → A' c = A c := by
  have fin : ∀ (x : Int) (B : Nat → Int → Int), 0 ≤ x ∧ x ≤ m → (0 < x → A 194 (x - 1) ≤ v) → (∀ c, c ≠ 194 → B c = A c) → (∀ i, 0 ≤ i → i < x → B 194 i = A 194 i) → (∀ i, x ≤ i → i < m → B 194 (i + 1) = A 194 i ∧ v < A 194 i) →
    ∃ (q : Int) (A' : Nat → Int → Int), mGd ar (d) 269 72 [.ref 185, .int (zI s), .int (zI p), .int (zI x)] [] (zW K B O t) = mGd ar (d) 269 94 [.ref 185, .int (zI s), .int (zI p), .int (zI q)] [] (zW K A' O t) ∧ (0 ≤ q ∧ q ≤ m) ∧ (0 < q → A 194 (q - 1) ≤ v) ∧ (∀ i, q ≤ i → i < m → v < A 194 i) ∧ (∀ i, 0 ≤ i → i < q → A' 194 i = A 194 i) ∧ A' 194 q = v ∧ (∀ i, q ≤ i → i < m → A' 194 (i + 1) = A 194 i) ∧ A' 185 19 = m + 1 ∧ (∀ j, j ≠ 19 → A' 185 j = A 185 j) ∧ ∀ c, c ≠ 185 → c ≠ 194 → A' c = A c := by
    intro x B hx hxv hB h1 h2
    have e1 := hB 185 (by decide)
    have e2 := hB 193 (by decide)
    refine ⟨x, _, i269_72 hp (by omega), hx, hxv, fun i hi hm => (h2 i hi hm).2, ?_, ?_, ?_, ?_, ?_, ?_⟩
    · intro i hi hix
      simp (disch := first | assumption | omega) only [zU_at, zU_c, zU_s, zU_r]
      exact h1 i hi hix
    · simp (disch := first | assumption | omega) only [zU_at, zU_c, zU_s, zU_r]
      rw [e2, hpv]
    · intro i hi him
      simp (disch := first | assumption | omega) only [zU_at, zU_c, zU_s, zU_r]
      exact (h2 i hi him).1
    · simp (disch := first | assumption | omega) only [zU_at, zU_c, zU_s, zU_r]
      rw [e1, hm]
    · intro j hj
      simp (disch := first | assumption | omega) only [zU_at, zU_c, zU_s, zU_r]
      rw [e1]
    · intro c hc1 hc2
      simp (disch := first | assumption | omega) only [zU_at, zU_c, zU_s, zU_r]
      exact hB c hc2
  intro n
  induction n with
  | zero =>
    intro x B hx hxm hB h1 h2
    simp (disch := first | assumption | omega | exact zr_and | exact zr_or | exact zr_xor | exact zr_shl | exact zr_shr | exact zr_ushr | exact zr_byte) only [i269_31, mB1_i, mB0_i, mB1n_i, mB0n_i, mB1_x, mB0_x, if_true, if_false, if_pos, if_neg]
    exact fin x B (by omega) (by omega) hB h1 h2
  | succ n ih =>
    intro x B hx hxm hB h1 h2
    have e := h1 (x - 1) (by omega) (by omega)
    have hr1 := hr (x - 1) (by omega) (by omega)
    have e2 : B 193 p = v := by rw [hB 193 (by decide), hpv]
    by_cases hc : A 194 (x - 1) ≤ v
    · simp (disch := first | assumption | omega | exact zr_and | exact zr_or | exact zr_xor | exact zr_shl | exact zr_shr | exact zr_ushr | exact zr_byte) only [i269_31, i269_35, mB1_i, mB0_i, mB1n_i, mB0n_i, mB1_x, mB0_x, if_true, if_false, if_pos, if_neg]
      exact fin x B (by omega) (fun _ => hc) hB h1 h2
    · rw [i269_31 (by omega)]
      simp (disch := first | assumption | omega | exact zr_and | exact zr_or | exact zr_xor | exact zr_shl | exact zr_shr | exact zr_ushr | exact zr_byte) only [i269_35, i269_52, mB1_i, mB0_i, mB1n_i, mB0n_i, mB1_x, mB0_x, if_true, if_false, if_pos, if_neg]
      refine ih (x + -1) _ (by omega) (by omega) (fun c hc => ?_) (fun i hi hix => ?_) (fun i hi him => ?_)
      · simp (disch := first | assumption | omega) only [zU_at, zU_c, zU_s, zU_r]
        exact hB c hc
      · simp (disch := first | assumption | omega) only [zU_at, zU_c, zU_s, zU_r]
        exact h1 i hi (by omega)
      · by_cases hix : i = x - 1
        · subst hix
          rw [show x - 1 + 1 = x by omega]
          simp (disch := first | assumption | omega) only [zU_at, zU_c, zU_s, zU_r]
          exact ⟨e, by omega⟩
        · simp (disch := first | assumption | omega) only [zU_at, zU_c, zU_s, zU_r]
          exact h2 i (by omega) him
/-- what sorts leaves: its row and how many -/
def zSrt (A A' : Nat → Int → Int) (L : List Int) : Prop := A' 185 19 = L.length ∧ zLst (A' 194) 0 L.length = zSort L ∧ (∀ j, j ≠ 19 → A' 185 j = A 185 j) ∧ ∀ c, c ≠ 185 → c ≠ 194 → A' c = A c
theorem sorts_loop {s : Int} (hn : 0 ≤ A 186 0 ∧ A 186 0 ≤ 8) (hs : 0 ≤ s ∧ s < 256) (hr : ∀ p, 0 ≤ p → p < A 186 0 → 0 ≤ A 193 p ∧ A 193 p ≤ 99) :
    ∀ (m : Nat) (p : Int) (B : Nat → Int → Int) (L : List Int) (u : Value), p + m = A 186 0 → 0 ≤ p → zSrt A B L → (∀ x ∈ L, 0 ≤ x ∧ x ≤ 99) → (L.length : Int) ≤ p →
    ∃ A', mGd ar (d + 1) 269 7 [.ref 185, .int (zI s), .int (zI p), u] [] (zW K B O t) = some (.inl none, zW K A' O t) ∧ zSrt A A' (zSel s (A 193) p m ++ L) := by
  intro m
  induction m with
  | zero =>
    intro p B L u hp h0 hb hL hl
    have e0 : B 186 0 = A 186 0 := by rw [hb.2.2.2 186 (by decide) (by decide)]
    refine ⟨B, ?_, hb⟩
    simp (disch := first | assumption | omega | exact zr_and | exact zr_or | exact zr_xor | exact zr_shl | exact zr_shr | exact zr_ushr | exact zr_byte) only [i269_7, i233_0, i269_12, i269_100, mB1_i, mB0_i, mB1n_i, mB0n_i, mB1_x, mB0_x, if_true, if_false, if_pos, if_neg]
  | succ m ih =>
    intro p B L u hp h0 hb hL hl
    have e0 : B 186 0 = A 186 0 := by rw [hb.2.2.2 186 (by decide) (by decide)]
    have e1 : B 193 = A 193 := hb.2.2.2 193 (by decide) (by decide)
    have n1 := hr p (by omega) (by omega)
    have hh := c_has (d := d) (K := K) (O := O) (t := t) (ar := ar) (A := B) hs (show 0 ≤ p ∧ p < 8 by omega)
    rw [i269_7, zSel_cons]
    by_cases hbt : zB s p = true
    · rw [if_pos hbt] at hh ⊢
      have rB : ∀ i, 0 ≤ i → i < (L.length : Int) → 0 ≤ B 194 i ∧ B 194 i ≤ 99 := fun i h1 h2 => by
        have hm : B 194 i ∈ zLst (B 194) 0 L.length := zLst_mem.mpr ⟨i, h1, by omega, rfl⟩
        rw [hb.2.1] at hm
        exact hL _ (zSort_mem.mp hm)
      have sB : ∀ i j, 0 ≤ i → i < j → j < (L.length : Int) → B 194 i ≤ B 194 j := fun i j h1 h2 h3 => by
        have hm : (zLst (B 194) 0 L.length).Pairwise (· ≤ ·) := by rw [hb.2.1]; exact zSort_sorted
        exact zLst_pair.mp hm i j h1 h2 (by omega)
      obtain ⟨q, B1, q1, hq, q2, q3, q4, q5, q6, q7, q8, q9⟩ := ins_loop (d := d + 1) (K := K) (O := O) (t := t) (ar := ar) (A := B) (s := s) hb.1 (by omega) rB n1 (show 0 ≤ p ∧ p < 8 by omega) (by rw [e1]) L.length L.length B rfl (by omega) (fun _ _ => rfl) (fun _ _ _ => rfl) (fun i h1 h2 => by omega)
      have eq : ((q.toNat : Nat) : Int) = q := by omega
      have hz : zSrt A B1 (A 193 p :: L) := by
        refine ⟨by rw [q7, List.length_cons]; omega, ?_, fun j hj => by rw [q8 j hj, hb.2.2.1 j hj], fun c h1 h2 => by rw [q9 c h1 h2, hb.2.2.2 c h1 h2]⟩
        show zLst (B1 194) 0 (L.length + 1) = zIns (A 193 p) (zSort L)
        rw [← hb.2.1]
        exact zIns_arr (q := q.toNat) (by omega) sB (fun h => by rw [eq]; exact q2 (by omega)) (fun i h1 h2 => q3 i (by omega) h2) (fun i h1 h2 => q4 i h1 (by omega)) (by rw [eq]; exact q5) (fun i h1 h2 => q6 i (by omega) h2)
      obtain ⟨A', g1, g2⟩ := ih (p + 1) B1 (A 193 p :: L) (.int (zI q)) (by omega) (by omega) hz (fun x hx => by
        rcases List.mem_cons.mp hx with rfl | hx
        · exact n1
        · exact hL x hx) (by rw [List.length_cons]; omega)
      have hb1 := hb.1
      refine ⟨A', ?_, g2.1.trans (by simp only [List.length_append, List.length_cons]; omega), ?_, g2.2.2⟩
      · rw [← g1]
        simp (disch := first | assumption | omega | exact zr_and | exact zr_or | exact zr_xor | exact zr_shl | exact zr_shr | exact zr_ushr | exact zr_byte) only [i233_0, i269_12, i269_15, hh, i269_20, i269_26, hb1, q1, i269_94, mB1_i, mB0_i, mB1n_i, mB0n_i, mB1_x, mB0_x, if_true, if_false, if_pos, if_neg]
      · have := g2.2.1
        rw [zSort_of_perm (L' := A 193 p :: zSel s (A 193) (p + 1) m ++ L) List.perm_middle] at this
        rw [← this]
        congr 1
        simp only [List.length_append, List.length_cons]; omega
    · rw [if_neg hbt] at hh ⊢
      obtain ⟨A', g1, g2⟩ := ih (p + 1) B L u (by omega) (by omega) hb hL (by omega)
      refine ⟨A', ?_, g2⟩
      rw [← g1]
      simp (disch := first | assumption | omega | exact zr_and | exact zr_or | exact zr_xor | exact zr_shl | exact zr_shr | exact zr_ushr | exact zr_byte) only [i233_0, i269_12, i269_15, hh, i269_20, i269_23, i269_94, mB1_i, mB0_i, mB1n_i, mB0n_i, mB1_x, mB0_x, if_true, if_false, if_pos, if_neg]
theorem c_sorts {s : Int} (hn : 0 ≤ A 186 0 ∧ A 186 0 ≤ 8) (hs : 0 ≤ s ∧ s < 256) (hr : ∀ p, 0 ≤ p → p < A 186 0 → 0 ≤ A 193 p ∧ A 193 p ≤ 99) :
    ∃ A', mGd ar (d + 1) 269 0 [.ref 185, .int (zI s), .double 0, .double 0] [] (zW K A O t) = some (.inl none, zW K A' O t) ∧ zSrt A A' (zSel s (A 193) 0 (A 186 0).toNat) := by
  obtain ⟨A', g1, g2⟩ := sorts_loop (d := d) (K := K) (O := O) (t := t) (ar := ar) hn hs hr (A 186 0).toNat 0 (zU A 185 19 0) [] (.double 0) (by omega) (by omega) ⟨by simp (disch := first | assumption | omega) only [zU_at, zU_c, zU_s, zU_r]; rfl, rfl, fun j hj => by simp (disch := first | assumption | omega) only [zU_at, zU_c, zU_s, zU_r], fun c h1 h2 => by simp (disch := first | assumption | omega) only [zU_at, zU_c, zU_s, zU_r]⟩ (fun x hx => by cases hx) (by decide)
  rw [List.append_nil] at g2
  refine ⟨A', ?_, g2⟩
  rw [← g1, i269_0]
theorem cnt_loop {x3 b mo : Int} {m : Nat} (hm : A 185 19 = m) (hm8 : m ≤ 8) (hr : ∀ i, 0 ≤ i → i < (m : Int) → 0 ≤ A 194 i ∧ A 194 i ≤ 99) (hx3 : 0 ≤ x3 ∧ x3 < m) :
    ∀ (n : Nat) (o acc : Int), o + n = m → 0 ≤ o → mGd ar (d) 270 20 [.ref 185, .int (zI b), .int (zI mo), .int (zI x3), .int (zI acc), .int (zI o)] [] (zW K A O t) = mGd ar (d) 270 61 [.ref 185, .int (zI b), .int (zI mo), .int (zI x3), .int (zI ((acc + ((zLst (A 194) o n).count (A 194 x3) : Int)))), .int (zI ((m : Int)))] [] (zW K A O t) := by
  intro n
  induction n with
  | zero =>
    intro o acc ho h0
    rw [show acc + (((zLst (A 194) o 0).count (A 194 x3) : Nat) : Int) = acc from Int.add_zero _, show (m : Int) = o by omega]
    simp (disch := first | assumption | omega | exact zr_and | exact zr_or | exact zr_xor | exact zr_shl | exact zr_shr | exact zr_ushr | exact zr_byte) only [i270_20, mB1_i, mB0_i, mB1n_i, mB0n_i, mB1_x, mB0_x, if_true, if_false, if_pos, if_neg]
  | succ n ih =>
    intro o acc ho h0
    have r1 := hr o (by omega) (by omega)
    have r2 := hr x3 (by omega) (by omega)
    rw [i270_20 (by omega) (by omega), show zLst (A 194) o (n + 1) = A 194 o :: zLst (A 194) (o + 1) n from rfl, List.count_cons]
    by_cases h : A 194 o = A 194 x3
    · rw [if_pos (beq_iff_eq.mpr h), show acc + (((zLst (A 194) (o + 1) n).count (A 194 x3) + 1 : Nat) : Int) = (acc + 1) + ((zLst (A 194) (o + 1) n).count (A 194 x3) : Int) by omega, ← ih (o + 1) (acc + 1) (by omega) (by omega)]
      simp (disch := first | assumption | omega | exact zr_and | exact zr_or | exact zr_xor | exact zr_shl | exact zr_shr | exact zr_ushr | exact zr_byte) only [i270_29, i270_47, i270_52, mB1_i, mB0_i, mB1n_i, mB0n_i, mB1_x, mB0_x, if_true, if_false, if_pos, if_neg]
    · rw [if_neg (fun q => h (beq_iff_eq.mp q)), Nat.add_zero, ← ih (o + 1) acc (by omega) (by omega)]
      simp (disch := first | assumption | omega | exact zr_and | exact zr_or | exact zr_xor | exact zr_shl | exact zr_shr | exact zr_ushr | exact zr_byte) only [i270_29, i270_51, i270_52, Int.add_zero, mB1_i, mB0_i, mB1n_i, mB0n_i, mB1_x, mB0_x, if_true, if_false, if_pos, if_neg]
theorem rcom_loop {L : List Int} (hm : A 185 19 = L.length) (hm8 : L.length ≤ 8) (hL : zLst (A 194) 0 L.length = L) (hs : L.Pairwise (· ≤ ·)) (hr : ∀ i, 0 ≤ i → i < (L.length : Int) → 0 ≤ A 194 i ∧ A 194 i ≤ 99) :
    ∀ (n k : Nat) (b mo : Int) (u v : Value), k + n = L.length → (0 ≤ mo ∧ mo ≤ 8) → (∀ i, 0 ≤ i → i < (k : Int) → (L.count (A 194 i) : Int) ≤ mo ∧ (A 194 i < b → (L.count (A 194 i) : Int) < mo)) → (0 < k → (∃ i, 0 ≤ i ∧ i < (k : Int) ∧ A 194 i = b) ∧ mo = L.count b) → (k = 0 → mo = 0) →
    ∃ f, mGd ar (d) 270 6 [.ref 185, .int (zI b), .int (zI mo), .int (zI ((k : Int))), u, v] [] (zW K A O t) = some (.inl (some (.int (zI f))), zW K A O t) ∧ (0 < L.length → zIsCom L f) := by
  intro n
  induction n with
  | zero =>
    intro k b mo u v hk hmo h1 h2 h3
    refine ⟨b, ?_, fun hp => ?_⟩
    · simp (disch := first | assumption | omega | exact zr_and | exact zr_or | exact zr_xor | exact zr_shl | exact zr_shr | exact zr_ushr | exact zr_byte) only [i270_6, i270_86, mB1_i, mB0_i, mB1n_i, mB0n_i, mB1_x, mB0_x, if_true, if_false, if_pos, if_neg]
    · obtain ⟨⟨i0, j1, j2, j3⟩, a2⟩ := h2 (by omega)
      have a1 : b ∈ L := by rw [← hL]; exact zLst_mem.mpr ⟨i0, j1, by omega, j3⟩
      have hall : ∀ y ∈ L, (L.count y : Int) ≤ mo ∧ (y < b → (L.count y : Int) < mo) := fun y hy => by
        rw [← hL] at hy
        obtain ⟨i, i1, i2, rfl⟩ := zLst_mem.mp hy
        exact h1 i i1 (by omega)
      have hpos : 0 < L.count b := List.count_pos_iff.mpr a1
      refine ⟨a1, fun y => ?_, fun y hy => ?_⟩
      · by_cases hm : y ∈ L
        · have := (hall y hm).1; omega
        · rw [List.count_eq_zero_of_not_mem hm]; omega
      · by_cases hm : y ∈ L
        · have := (hall y hm).2 hy; omega
        · rw [List.count_eq_zero_of_not_mem hm]; omega
  | succ n ih =>
    intro k b mo u v hk hmo h1 h2 h3
    have hkL : A 194 k ∈ L := by
      have : A 194 k ∈ zLst (A 194) 0 L.length := zLst_mem.mpr ⟨k, by omega, by omega, rfl⟩
      rwa [hL] at this
    have hpos : 0 < L.count (A 194 k) := List.count_pos_iff.mpr hkL
    have hle := List.count_le_length (a := A 194 k) (l := L)
    have hc := cnt_loop (d := d) (K := K) (O := O) (t := t) (ar := ar) (b := b) (mo := mo) (x3 := k) hm hm8 hr (by omega) L.length 0 0 (by omega) (by omega)
    rw [hL, Int.zero_add] at hc
    rw [i270_6 (by omega) (by omega)]
    by_cases hgt : mo < (L.count (A 194 k) : Int)
    · obtain ⟨f, g1, g2⟩ := ih (k + 1) (A 194 k) (L.count (A 194 k)) (.int (zI (L.count (A 194 k) : Int))) (.int (zI (L.length : Int))) (by omega) (by omega) (fun i i1 i2 => by
        by_cases hi : i = k
        · rw [hi]; exact ⟨by omega, fun h => by omega⟩
        · have := h1 i i1 (by omega); exact ⟨by omega, fun _ => by omega⟩) (fun _ => ⟨⟨k, by omega, by omega, rfl⟩, rfl⟩) (by omega)
      refine ⟨f, ?_, g2⟩
      rw [← g1, show ((k + 1 : Nat) : Int) = (k : Int) + 1 by omega]
      simp (disch := first | assumption | omega | exact zr_and | exact zr_or | exact zr_xor | exact zr_shl | exact zr_shr | exact zr_ushr | exact zr_byte) only [i270_14, hc, i270_61, i270_70, i270_80, mB1_i, mB0_i, mB1n_i, mB0n_i, mB1_x, mB0_x, if_true, if_false, if_pos, if_neg]
    · have hk0 : 0 < k := by
        rcases Nat.eq_zero_or_pos k with h | h
        · have := h3 h; omega
        · exact h
      obtain ⟨f, g1, g2⟩ := ih (k + 1) b mo (.int (zI (L.count (A 194 k) : Int))) (.int (zI (L.length : Int))) (by omega) hmo (fun i i1 i2 => by
        by_cases hi : i = k
        · rw [hi]
          refine ⟨by omega, fun h => ?_⟩
          obtain ⟨⟨i0, j1, j2, j3⟩, a2⟩ := h2 hk0
          rw [← hL] at hs
          have := zLst_pair.mp hs i0 k j1 (by omega) (by omega)
          omega
        · exact h1 i i1 (by omega)) (fun _ => by
          obtain ⟨⟨i0, j1, j2, j3⟩, a2⟩ := h2 hk0
          exact ⟨⟨i0, j1, by omega, j3⟩, a2⟩) (by omega)
      refine ⟨f, ?_, g2⟩
      rw [← g1, show ((k + 1 : Nat) : Int) = (k : Int) + 1 by omega]
      simp (disch := first | assumption | omega | exact zr_and | exact zr_or | exact zr_xor | exact zr_shl | exact zr_shr | exact zr_ushr | exact zr_byte) only [i270_14, hc, i270_61, i270_67, i270_80, mB1_i, mB0_i, mB1n_i, mB0n_i, mB1_x, mB0_x, if_true, if_false, if_pos, if_neg]
theorem c_rcom {L : List Int} (hm : A 185 19 = L.length) (hm8 : L.length ≤ 8) (hL : zLst (A 194) 0 L.length = L) (hs : L.Pairwise (· ≤ ·)) (hr : ∀ x ∈ L, 0 ≤ x ∧ x ≤ 99) (hp : 0 < L.length) : mGd ar (d) 270 0 [.ref 185, .double 0, .double 0, .double 0, .double 0, .double 0] [] (zW K A O t) = some (.inl (some (.int (zI (zCom L)))), zW K A O t) := by
  have hr2 : ∀ i, 0 ≤ i → i < (L.length : Int) → 0 ≤ A 194 i ∧ A 194 i ≤ 99 := fun i h1 h2 => by
    have hm : A 194 i ∈ zLst (A 194) 0 L.length := zLst_mem.mpr ⟨i, h1, by omega, rfl⟩
    rw [hL] at hm
    exact hr _ hm
  obtain ⟨f, g1, g2⟩ := rcom_loop (d := d) (K := K) (O := O) (t := t) (ar := ar) hm hm8 hL hs hr2 L.length 0 0 0 (.double 0) (.double 0) (by omega) (by omega) (fun i h1 h2 => by omega) (by omega) (fun _ => rfl)
  rw [zCom_eq (g2 hp), i270_0]
  exact g1
/-- of a call that may use the reference's sorted row -/
def zFr (A A' : Nat → Int → Int) : Prop := (∀ j, j ≠ 19 → A' 185 j = A 185 j) ∧ ∀ c, c ≠ 185 → c ≠ 194 → A' c = A c
theorem zFr_refl : zFr A A := ⟨fun _ _ => rfl, fun _ _ _ => rfl⟩
def zROk (A : Nat → Int → Int) : Prop := (0 ≤ A 186 0 ∧ A 186 0 ≤ 8) ∧ (∀ p, 0 ≤ p → p < A 186 0 → 0 ≤ A 193 p ∧ A 193 p ≤ 99) ∧ (∀ p, 0 ≤ p → p < A 186 0 → 1 ≤ A 186 (15 + 6 * p + 4) ∧ A 186 (15 + 6 * p + 4) ≤ 9)
theorem zRP_ok {s : Int} (h : zROk A) : zOkP (zSel s (zRP A) 0 (A 186 0).toNat) := by
  obtain ⟨h0, h1, h2⟩ := h
  have := zSel_le (s := s) (f := zRP A) (m := (A 186 0).toNat) (p := 0)
  refine ⟨by omega, fun q hq => ?_⟩
  obtain ⟨i, a1, a2, -, rfl⟩ := zSel_mem hq
  exact ⟨h1 i (by omega) (by omega), h2 i (by omega) (by omega)⟩
theorem c_middleOf {r s : Int} (hA : zROk A) (hs : 0 < s ∧ s ≤ zAll (A 186 0)) (hr : 0 ≤ r ∧ r ≤ 5) : ∃ A', mGd ar (d + 3) 265 0 [.ref 185, .int (zI r), .int (zI s)] [] (zW K A O t) = some (.inl (some (.int (zI (zMid r (zSel s (zRP A) 0 (A 186 0).toNat))))), zW K A' O t) ∧ zFr A A' := by
  have hn := hA.1
  have hl := zAll_lt hn
  have hs2 : 0 ≤ s ∧ s < 256 := by omega
  have hok := zRP_ok (s := s) hA
  have hcnt := zSel_cnt (f := zRP A) (n := A 186 0) (s := s) (by omega) hn
  have hpos := zCnt_pos hs hn
  have h8 := hok.1
  obtain ⟨s1, s2, s3⟩ := zOk_sums hok.2
  have c1 := c_sumOf (d := d) (K := K) (O := O) (t := t) (ar := ar) hn hs2
  have c2 := c_sumOfW (d := d) (K := K) (O := O) (t := t) (ar := ar) hn hs2
  have c3 := c_weightsOf (d := d) (K := K) (O := O) (t := t) (ar := ar) hn hs2
  have c4 := c_bits (d := d + 2) (K := K) (O := O) (t := t) (ar := ar) (A := A) hs2
  have hLm : (zSel s (zRP A) 0 (A 186 0).toNat).map (fun q => q.1) = zSel s (A 193) 0 (A 186 0).toNat := zSel_map
  have hLl : (zSel s (A 193) 0 (A 186 0).toNat).length = (zSel s (zRP A) 0 (A 186 0).toNat).length := by rw [← hLm, List.length_map]
  unfold zMid
  by_cases r0 : r = 0
  · refine ⟨A, ?_, zFr_refl⟩
    rw [if_pos r0]
    have t1 : Int.tdiv (zS1 (zSel s (zRP A) 0 (A 186 0).toNat)) (zCnt s) = zS1 (zSel s (zRP A) 0 (A 186 0).toNat) / (zSel s (zRP A) 0 (A 186 0).toNat).length := by rw [hcnt]; exact Int.tdiv_eq_ediv_of_nonneg (by omega)
    simp (disch := first | assumption | omega | exact zr_and | exact zr_or | exact zr_xor | exact zr_shl | exact zr_shr | exact zr_ushr | exact zr_byte) only [i265_0, i265_4, c1, i265_10, c4, i265_14, t1, mB1_i, mB0_i, mB1n_i, mB0n_i, mB1_x, mB0_x, if_true, if_false, if_pos, if_neg]
  by_cases r5 : r = 5
  · refine ⟨A, ?_, zFr_refl⟩
    rw [if_neg r0, if_neg (by omega), if_neg (by omega), if_neg (by omega), if_neg (by omega)]
    have t1 : Int.tdiv (zS3 (zSel s (zRP A) 0 (A 186 0).toNat)) (zS2 (zSel s (zRP A) 0 (A 186 0).toNat)) = zS3 (zSel s (zRP A) 0 (A 186 0).toNat) / zS2 (zSel s (zRP A) 0 (A 186 0).toNat) := Int.tdiv_eq_ediv_of_nonneg (by omega)
    simp (disch := first | assumption | omega | exact zr_and | exact zr_or | exact zr_xor | exact zr_shl | exact zr_shr | exact zr_ushr | exact zr_byte) only [i265_0, i265_16, i265_21, c2, i265_27, c3, i265_32, t1, mB1_i, mB0_i, mB1n_i, mB0n_i, mB1_x, mB0_x, if_true, if_false, if_pos, if_neg]
  obtain ⟨B, g1, g2⟩ := c_sorts (d := d + 1) (K := K) (O := O) (t := t) (ar := ar) hn hs2 hA.2.1
  obtain ⟨b1, b2, b3, b4⟩ := g2
  rw [hLl] at b1 b2
  have hV : zSort (zSel s (A 193) 0 (A 186 0).toNat) = zV (zSel s (zRP A) 0 (A 186 0).toNat) := by unfold zV; rw [hLm]
  rw [hV] at b2
  refine ⟨B, ?_, b3, b4⟩
  have a0 : ∀ i, 0 ≤ i → i < ((zSel s (zRP A) 0 (A 186 0).toNat).length : Int) → B 194 i = zAt (zV (zSel s (zRP A) 0 (A 186 0).toNat)) i := fun i h1 h2 => zLst_at0 b2 h1 h2
  have t2 : Int.tdiv (B 185 19 - 1) 2 = (B 185 19 - 1) / 2 := Int.tdiv_eq_ediv_of_nonneg (by omega)
  have t3 : Int.tdiv (B 185 19) 2 = B 185 19 / 2 := Int.tdiv_eq_ediv_of_nonneg (by omega)
  rw [if_neg r0]
  have run : mGd ar (d + 3) 265 0 [.ref 185, .int (zI r), .int (zI s)] [] (zW K A O t) = mGd ar (d + 3) 265 39 [.ref 185, .int (zI r), .int (zI s)] [] (zW K B O t) := by
    simp (disch := first | assumption | omega | exact zr_and | exact zr_or | exact zr_xor | exact zr_shl | exact zr_shr | exact zr_ushr | exact zr_byte) only [i265_0, i265_16, i265_34, g1, mB1_i, mB0_i, mB1n_i, mB0n_i, mB1_x, mB0_x, if_true, if_false, if_pos, if_neg]
  rw [run, i265_39 (by omega)]
  by_cases r1 : r = 1
  · rw [if_pos r1, if_pos r1, i265_68 (by omega) (by omega), t2, a0 _ (by omega) (by omega), b1]
  rw [if_neg r1, if_neg r1]
  by_cases r2 : r = 2
  · rw [if_pos r2, if_pos r2, i265_82 (by omega) (by omega), t3, a0 _ (by omega) (by omega), b1]
  rw [if_neg r2, if_neg r2]
  by_cases r3 : r = 3
  · have q1 := zAt_rng hok (i := 0) (by omega) (by omega)
    have q2 := zAt_rng hok (i := (zSel s (zRP A) 0 (A 186 0).toNat).length - 1) (by omega) (by omega)
    have q3 := a0 0 (by omega) (by omega)
    have q4 := a0 ((zSel s (zRP A) 0 (A 186 0).toNat).length - 1) (by omega) (by omega)
    rw [← b1] at q4
    rw [if_pos r3, if_pos r3, i265_94 (by omega) (by rw [q3, q4, b1]; omega), q3, q4, b1]
    rw [Int.tdiv_eq_ediv_of_nonneg (by omega)]
  rw [if_neg r3, if_neg r3]
  have hVl : (zV (zSel s (zRP A) 0 (A 186 0).toNat)).length = (zSel s (zRP A) 0 (A 186 0).toNat).length := by unfold zV; rw [zSort_len, List.length_map]
  have c5 := c_rcom (d := d + 2) (K := K) (O := O) (t := t) (ar := ar) (A := B) (L := zV (zSel s (zRP A) 0 (A 186 0).toNat)) (by rw [hVl]; exact b1) (by rw [hVl]; exact h8) (by rw [hVl]; exact b2) zSort_sorted (fun x hx => by
    obtain ⟨q, hq, e⟩ := List.mem_map.mp (zSort_mem.mp hx)
    rw [← e]
    exact (hok.2 q hq).1) (by rw [hVl]; omega)
  rw [if_pos (show r = 4 by omega)]
  simp (disch := first | assumption | omega | exact zr_and | exact zr_or | exact zr_xor | exact zr_shl | exact zr_shr | exact zr_ushr | exact zr_byte) only [i265_115, c5, i265_119, mB1_i, mB0_i, mB1n_i, mB0n_i, mB1_x, mB0_x, if_true, if_false, if_pos, if_neg]
theorem lays_loop {k : Int} (hn : 0 ≤ A 186 0 ∧ A 186 0 ≤ 8) (hk : 0 ≤ k ∧ k < 4) :
    ∀ (m : Nat) (p : Int) (B : Nat → Int → Int), p + m = A 186 0 → 0 ≤ p → (∀ c, c ≠ 193 → B c = A c) → (∀ i, 0 ≤ i → i < p → B 193 i = A 186 (15 + 6 * i + k)) →
    ∃ A', mGd ar (d + 2) 263 2 [.ref 185, .int (zI k), .int (zI p)] [] (zW K B O t) = some (.inl none, zW K A' O t) ∧ (∀ c, c ≠ 193 → A' c = A c) ∧ ∀ i, 0 ≤ i → i < A 186 0 → A' 193 i = A 186 (15 + 6 * i + k) := by
  intro m
  induction m with
  | zero =>
    intro p B hp h0 hB h1
    have e0 : B 186 0 = A 186 0 := by rw [hB 186 (by decide)]
    refine ⟨B, ?_, hB, fun i i1 i2 => h1 i i1 (by omega)⟩
    simp (disch := first | assumption | omega | exact zr_and | exact zr_or | exact zr_xor | exact zr_shl | exact zr_shr | exact zr_ushr | exact zr_byte) only [i263_2, i233_0, i263_7, i263_28, mB1_i, mB0_i, mB1n_i, mB0n_i, mB1_x, mB0_x, if_true, if_false, if_pos, if_neg]
  | succ m ih =>
    intro p B hp h0 hB h1
    have e1 := hB 186 (by decide)
    have e0 : B 186 0 = A 186 0 := by rw [e1]
    have ho := c_of (d := d) (K := K) (O := O) (t := t) (ar := ar) (A := B) (p := p) (k := k) (by omega) (by omega)
    obtain ⟨A', g1, g2⟩ := ih (p + 1) (zU B 193 p (A 186 (15 + 6 * p + k))) (by omega) (by omega) (fun c hc => by simp (disch := first | assumption | omega) only [zU_at, zU_c, zU_s, zU_r]; exact hB c hc) (fun i i1 i2 => by
      by_cases hi : i = p
      · rw [hi]; simp (disch := first | assumption | omega) only [zU_at, zU_c, zU_s, zU_r]
      · simp (disch := first | assumption | omega) only [zU_at, zU_c, zU_s, zU_r]; exact h1 i i1 (by omega))
    refine ⟨A', ?_, g2⟩
    rw [← g1, i263_2]
    rw [e1] at ho
    simp (disch := first | assumption | omega | exact zr_and | exact zr_or | exact zr_xor | exact zr_shl | exact zr_shr | exact zr_ushr | exact zr_byte) only [i233_0, i263_7, i263_10, ho, i263_21, mB1_i, mB0_i, mB1n_i, mB0n_i, mB1_x, mB0_x, if_true, if_false, if_pos, if_neg]
theorem c_lays {k : Int} (hn : 0 ≤ A 186 0 ∧ A 186 0 ≤ 8) (hk : 0 ≤ k ∧ k < 4) : ∃ A', mGd ar (d + 2) 263 0 [.ref 185, .int (zI k), .double 0] [] (zW K A O t) = some (.inl none, zW K A' O t) ∧ (∀ c, c ≠ 193 → A' c = A c) ∧ ∀ i, 0 ≤ i → i < A 186 0 → A' 193 i = A 186 (15 + 6 * i + k) := by
  rw [i263_0]
  exact lays_loop hn hk (A 186 0).toNat 0 A (by omega) (by omega) (fun _ _ => rfl) (fun i h1 h2 => by omega)
end MID
