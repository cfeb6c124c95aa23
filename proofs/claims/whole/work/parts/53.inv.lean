/-! CALLS, 1: what class and reference have in common between calls -/
def zSb (u : Int) : Int := if u < 128 then u else u - 256
def zTp (A : Nat → Int → Int) : Prop := (0 ≤ A 1 1 ∧ A 1 1 ≤ 400) ∧ A 185 9 = A 1 1 ∧ ∀ i, 0 ≤ i → i < A 1 1 → (0 ≤ A 2 i ∧ A 2 i ≤ 255) ∧ A 191 i = zSb (A 2 i)
/-- the hall of the j-th act that is remembered -/
def zAh (A : Nat → Int → Int) (j : Int) : Nat := 21 + 9 * ((A 19 1 - A 19 0 + j) % 12).toNat
def zActs (A : Nat → Int → Int) : Prop := A 185 7 = A 19 0 ∧ (0 ≤ A 19 0 ∧ A 19 0 ≤ 12) ∧ (0 ≤ A 19 1 ∧ A 19 1 < 12) ∧ ∀ j, 0 ≤ j → j < A 19 0 → zHWf (fun i => A 190 (423 * j + i)) ∧ zHR A (zAh A j) (fun i => A 190 (423 * j + i)) ∧ A 190 (423 * j + 2) = A 186 2
def zImg (A : Nat → Int → Int) : Prop := (A 0 14 = 0 ∨ A 0 14 = 1) ∧ A 185 6 = A 0 14 ∧ (A 0 14 = 1 → zHWf (A 187) ∧ zHR A 129 (A 187) ∧ ∃ L, zLawC A 138 L ∧ zLawR (A 187) L ∧ A 138 0 = A 187 2)
def zInv (A : Nat → Int → Int) : Prop := (zHWf (A 186) ∧ zHR A 3 (A 186)) ∧ (∃ L, zLawC A 12 L ∧ zLawR (A 186) L ∧ A 12 0 = A 186 2) ∧ zTp A ∧ zActs A ∧ zImg A ∧ (A 185 14 = A 0 15 ∧ -1 ≤ A 0 15 ∧ A 0 15 ≤ 400) ∧ ∀ i, 0 ≤ i → i < 9 → A 176 i = 0
/-- what the class may use -/
def zSc (c : Nat) : Prop := c = 17 ∨ c = 18 ∨ (145 ≤ c ∧ c < 176) ∨ (177 ≤ c ∧ c < 185)
def zFc (A A' : Nat → Int → Int) : Prop := ∀ c, ¬ zSc c → A' c = A c
/-- what the reference may use -/
def zFm (A A' : Nat → Int → Int) : Prop := (∀ c, c < 185 ∨ c = 187 ∨ c = 190 ∨ c = 191 → A' c = A c) ∧ A' 186 = A 186 ∧ ∀ j, j = 6 ∨ j = 7 ∨ j = 9 ∨ j = 14 → A' 185 j = A 185 j
theorem zFc_refl {A : Nat → Int → Int} : zFc A A := fun _ _ => rfl
theorem zFc_trans {A B C : Nat → Int → Int} (h1 : zFc A B) (h2 : zFc B C) : zFc A C := fun c hc => by rw [h2 c hc, h1 c hc]
theorem zFm_trans {A B C : Nat → Int → Int} (h1 : zFm A B) (h2 : zFm B C) : zFm A C :=
  ⟨fun c hc => by rw [h2.1 c hc, h1.1 c hc], by rw [h2.2.1, h1.2.1], fun j hj => by rw [h2.2.2 j hj, h1.2.2 j hj]⟩
theorem zFm_u {A : Nat → Int → Int} {v : Int} : zFm A (zU A 185 0 v) :=
  ⟨fun c hc => zU_r (by omega), zU_r (by decide), fun j hj => zU_s (by omega)⟩
theorem zAh_hall {A : Nat → Int → Int} {j : Int} : isHall (zAh A j) := by
  unfold zAh isHall; omega
theorem zAh_lt {A : Nat → Int → Int} {j : Int} : 21 ≤ zAh A j ∧ zAh A j + 8 < 129 := by
  unfold zAh; omega
theorem zInv_q {A A1 A2 : Nat → Int → Int} (h : zInv A) (hc : zFc A A1) (hm : zFm A1 A2) : zInv A2 := by
  have e : ∀ c, c < 17 ∨ (18 < c ∧ c < 143) ∨ c = 176 → A2 c = A c := fun c hx => by rw [hm.1 c (by omega), hc c (by unfold zSc; omega)]
  have e6 : A2 186 = A 186 := by rw [hm.2.1, hc 186 (by unfold zSc; omega)]
  have e7 : A2 187 = A 187 := by rw [hm.1 187 (by omega), hc 187 (by unfold zSc; omega)]
  have e90 : A2 190 = A 190 := by rw [hm.1 190 (by omega), hc 190 (by unfold zSc; omega)]
  have e91 : A2 191 = A 191 := by rw [hm.1 191 (by omega), hc 191 (by unfold zSc; omega)]
  have e5 : ∀ j, j = 6 ∨ j = 7 ∨ j = 9 ∨ j = 14 → A2 185 j = A 185 j := fun j hj => by rw [hm.2.2 j hj, hc 185 (by unfold zSc; omega)]
  obtain ⟨⟨h1, h2⟩, ⟨L, l1, l2, l3⟩, h4, h5, h6, h7, h8⟩ := h
  refine ⟨⟨by rw [e6]; exact h1, ?_⟩, ⟨L, zLawC_same l1 (fun c c1 c2 => e c (by omega)), by rw [e6]; exact l2, by rw [e6, e 12 (by omega)]; exact l3⟩, ?_, ?_, ?_, ?_, ?_⟩
  · rw [e6]; exact zHR_same (fun c c1 c2 => e c (by omega)) h1 h2
  · unfold zTp; rw [e 1 (by omega), e 2 (by omega), e5 9 (by omega), e91]; exact h4
  · obtain ⟨a1, a2, a3, a4⟩ := h5
    unfold zActs zAh
    rw [e 19 (by omega), e5 7 (by omega), e90, e6]
    refine ⟨a1, a2, a3, fun j j0 j1 => ?_⟩
    obtain ⟨b1, b2, b3⟩ := a4 j j0 j1
    have hz := zAh_lt (A := A) (j := j)
    refine ⟨b1, zHR_same (a := zAh A j) (fun c c1 c2 => e c (by omega)) b1 b2, b3⟩
  · obtain ⟨a1, a2, a3⟩ := h6
    unfold zImg
    rw [e 0 (by omega), e5 6 (by omega), e7]
    refine ⟨a1, a2, fun hk => ?_⟩
    obtain ⟨b1, b2, L', b3, b4, b5⟩ := a3 hk
    exact ⟨b1, zHR_same (fun c c1 c2 => e c (by omega)) b1 b2, L', zLawC_same b3 (fun c c1 c2 => e c (by omega)), b4, by rw [e 138 (by omega)]; exact b5⟩
  · rw [e 0 (by omega), e5 14 (by omega)]; exact h7
  · rw [e 176 (by omega)]; exact h8
/-- a call of class and reference: they answer alike, or the class throws what the reference tells -/
def zQ (ar : Nat → Nat × (Nat → Int32)) (K : Nat → Nat → Option Nat) (O : Nat → Int64) (t D M1 : Nat) (l1 : List Value) (M2 : Nat) (l2 : List Value) (code : Nat → Int) (A : Nat → Int → Int) : Prop :=
  ∃ A1 : Nat → Int → Int, (∃ b : Int, mGd ar D M1 0 l1 [] (zW K A O t) = some (.inl (some (.int (zI b))), zW K A1 O t) ∧ (-2147483648 ≤ b ∧ b < 2147483648) ∧ ∀ O' t', ∃ A2, mGd ar D M2 0 l2 [] (zW K A1 O' t') = some (.inl (some (.int (zI b))), zW K A2 O' t') ∧ A2 185 0 = 0 ∧ zInv A2) ∨
    ∃ E : Nat, mGd ar D M1 0 l1 [] (zW K A O t) = some (.inr E, zW K A1 O (t + 1)) ∧ (0 < code E ∧ code E ≤ 3) ∧ ∀ O' t', ∃ b A2, mGd ar D M2 0 l2 [] (zW K A1 O' t') = some (.inl (some (.int (zI b))), zW K A2 O' t') ∧ A2 185 0 = code E ∧ zInv A2
section INV
variable {ar : Nat → Nat × (Nat → Int32)} {d t : Nat} {K : Nat → Nat → Option Nat} {A : Nat → Int → Int} {O : Nat → Int64}
theorem zQ_ok {D M1 M2 : Nat} {l1 l2 : List Value} {code : Nat → Int} {A1 : Nat → Int → Int} {b : Int} (hI : zInv A) (h1 : mGd ar D M1 0 l1 [] (zW K A O t) = some (.inl (some (.int (zI b))), zW K A1 O t)) (hc : zFc A A1) (hb : -2147483648 ≤ b ∧ b < 2147483648) (h2 : ∀ O' t', ∃ A2, mGd ar D M2 0 l2 [] (zW K A1 O' t') = some (.inl (some (.int (zI b))), zW K A2 O' t') ∧ A2 185 0 = 0 ∧ zFm A1 A2) : zQ ar K O t D M1 l1 M2 l2 code A :=
  ⟨A1, Or.inl ⟨b, h1, hb, fun O' t' => by
    obtain ⟨A2, g1, g2, g3⟩ := h2 O' t'
    exact ⟨A2, g1, g2, zInv_q hI hc g3⟩⟩⟩
theorem zQ_ex {D M1 M2 : Nat} {l1 l2 : List Value} {code : Nat → Int} {E : Nat} (hI : zInv A) (h1 : mGd ar D M1 0 l1 [] (zW K A O t) = some (.inr E, zW K A O (t + 1))) (hE : 0 < code E ∧ code E ≤ 3) (h2 : ∀ O' t', ∃ b A2, mGd ar D M2 0 l2 [] (zW K A O' t') = some (.inl (some (.int (zI b))), zW K A2 O' t') ∧ A2 185 0 = code E ∧ zFm A A2) : zQ ar K O t D M1 l1 M2 l2 code A :=
  ⟨A, Or.inr ⟨E, h1, hE, fun O' t' => by
    obtain ⟨b, A2, g1, g2, g3⟩ := h2 O' t'
    exact ⟨b, A2, g1, g2, zInv_q hI zFc_refl g3⟩⟩⟩
/-! small helpers of both -/
theorem c_nPerson {p : Int} (hp : 0 ≤ p ∧ p < A 3 0) (h8 : A 3 0 ≤ 8) : mGd ar (d) 106 0 [.ref 0, .int (zI p)] [] (zW K A O t) = some (.inl none, zW K A O t) := by simp (disch := first | assumption | omega | exact zr_and | exact zr_or | exact zr_xor | exact zr_shl | exact zr_shr | exact zr_ushr | exact zr_byte) only [i106_0, i106_4, i106_15, i106_26, mB1_i, mB0_i, mB1n_i, mB0n_i, mB1_x, mB0_x, ↓if_pos, ↓if_neg, if_true, if_false, if_pos, if_neg]
theorem c_nPersonX {p : Int} (hr : -2147483648 ≤ p ∧ p < 2147483648) (hp : ¬ (0 ≤ p ∧ p < A 3 0)) (h8 : 0 ≤ A 3 0 ∧ A 3 0 ≤ 8) : mGd ar (d) 106 0 [.ref 0, .int (zI p)] [] (zW K A O t) = some (.inr 2, zW K A O (t + 1)) := by
  by_cases h : p < 0 <;> simp (disch := first | assumption | omega | exact zr_and | exact zr_or | exact zr_xor | exact zr_shl | exact zr_shr | exact zr_ushr | exact zr_byte) only [i106_0, i106_4, i106_15, i106_26, mB1_i, mB0_i, mB1n_i, mB0n_i, mB1_x, mB0_x, ↓if_pos, ↓if_neg, if_true, if_false, if_pos, if_neg]
theorem c_nKind {p : Int} (hp : 0 ≤ p ∧ p < 4) : mGd ar (d) 107 0 [.ref 0, .int (zI p)] [] (zW K A O t) = some (.inl none, zW K A O t) := by simp (disch := first | assumption | omega | exact zr_and | exact zr_or | exact zr_xor | exact zr_shl | exact zr_shr | exact zr_ushr | exact zr_byte) only [i107_0, i107_4, i107_9, i107_20, mB1_i, mB0_i, mB1n_i, mB0n_i, mB1_x, mB0_x, ↓if_pos, ↓if_neg, if_true, if_false, if_pos, if_neg]
theorem c_nKindX {p : Int} (hr : -2147483648 ≤ p ∧ p < 2147483648) (hp : ¬ (0 ≤ p ∧ p < 4)) : mGd ar (d) 107 0 [.ref 0, .int (zI p)] [] (zW K A O t) = some (.inr 2, zW K A O (t + 1)) := by
  by_cases h : p < 0 <;> simp (disch := first | assumption | omega | exact zr_and | exact zr_or | exact zr_xor | exact zr_shl | exact zr_shr | exact zr_ushr | exact zr_byte) only [i107_0, i107_4, i107_9, i107_20, mB1_i, mB0_i, mB1n_i, mB0n_i, mB1_x, mB0_x, ↓if_pos, ↓if_neg, if_true, if_false, if_pos, if_neg]
theorem c_nRule {p : Int} (hp : 0 ≤ p ∧ p < 6) : mGd ar (d) 114 0 [.ref 0, .int (zI p)] [] (zW K A O t) = some (.inl none, zW K A O t) := by simp (disch := first | assumption | omega | exact zr_and | exact zr_or | exact zr_xor | exact zr_shl | exact zr_shr | exact zr_ushr | exact zr_byte) only [i114_0, i114_4, i114_10, i114_21, mB1_i, mB0_i, mB1n_i, mB0n_i, mB1_x, mB0_x, ↓if_pos, ↓if_neg, if_true, if_false, if_pos, if_neg]
theorem c_nRuleX {p : Int} (hr : -2147483648 ≤ p ∧ p < 2147483648) (hp : ¬ (0 ≤ p ∧ p < 6)) : mGd ar (d) 114 0 [.ref 0, .int (zI p)] [] (zW K A O t) = some (.inr 2, zW K A O (t + 1)) := by
  by_cases h : p < 0 <;> simp (disch := first | assumption | omega | exact zr_and | exact zr_or | exact zr_xor | exact zr_shl | exact zr_shr | exact zr_ushr | exact zr_byte) only [i114_0, i114_4, i114_10, i114_21, mB1_i, mB0_i, mB1n_i, mB0n_i, mB1_x, mB0_x, ↓if_pos, ↓if_neg, if_true, if_false, if_pos, if_neg]
theorem c_nPeople (hp : 0 < A 3 0) (h8 : A 3 0 ≤ 8) : mGd ar (d) 115 0 [.ref 0] [] (zW K A O t) = some (.inl none, zW K A O t) := by simp (disch := first | assumption | omega | exact zr_and | exact zr_or | exact zr_xor | exact zr_shl | exact zr_shr | exact zr_ushr | exact zr_byte) only [i115_0, i115_10, i115_21, mB1_i, mB0_i, mB1n_i, mB0n_i, mB1_x, mB0_x, ↓if_pos, ↓if_neg, if_true, if_false, if_pos, if_neg]
theorem c_nPeopleX (hp : A 3 0 = 0) : mGd ar (d) 115 0 [.ref 0] [] (zW K A O t) = some (.inr 4, zW K A O (t + 1)) := by simp (disch := first | assumption | omega | exact zr_and | exact zr_or | exact zr_xor | exact zr_shl | exact zr_shr | exact zr_ushr | exact zr_byte) only [i115_0, i115_10, i115_21, mB1_i, mB0_i, mB1n_i, mB0n_i, mB1_x, mB0_x, ↓if_pos, ↓if_neg, if_true, if_false, if_pos, if_neg]
theorem c_nNumber {p x y : Int} (hp : x ≤ p ∧ p ≤ y) (hx : -1000 ≤ x ∧ y ≤ 1000) : mGd ar (d) 120 0 [.ref 0, .int (zI p), .int (zI x), .int (zI y)] [] (zW K A O t) = some (.inl none, zW K A O t) := by simp (disch := first | assumption | omega | exact zr_and | exact zr_or | exact zr_xor | exact zr_shl | exact zr_shr | exact zr_ushr | exact zr_byte) only [i120_0, i120_5, i120_10, i120_21, mB1_i, mB0_i, mB1n_i, mB0n_i, mB1_x, mB0_x, ↓if_pos, ↓if_neg, if_true, if_false, if_pos, if_neg]
theorem c_nNumberX {p x y : Int} (hr : -2147483648 ≤ p ∧ p < 2147483648) (hp : ¬ (x ≤ p ∧ p ≤ y)) (hx : (-1000 ≤ x ∧ x ≤ 1000) ∧ -1000 ≤ y ∧ y ≤ 1000) : mGd ar (d) 120 0 [.ref 0, .int (zI p), .int (zI x), .int (zI y)] [] (zW K A O t) = some (.inr 0, zW K A O (t + 1)) := by
  by_cases h : p < x <;> simp (disch := first | assumption | omega | exact zr_and | exact zr_or | exact zr_xor | exact zr_shl | exact zr_shr | exact zr_ushr | exact zr_byte) only [i120_0, i120_5, i120_10, i120_21, mB1_i, mB0_i, mB1n_i, mB0n_i, mB1_x, mB0_x, ↓if_pos, ↓if_neg, if_true, if_false, if_pos, if_neg]
theorem c_noPerson {p : Int} (hr : -2147483648 ≤ p ∧ p < 2147483648) (h8 : 0 ≤ A 186 0 ∧ A 186 0 ≤ 8) : mGd ar (d + 1) 255 0 [.ref 185, .int (zI p)] [] (zW K A O t) = some (.inl (some (.int (zI (if 0 ≤ p ∧ p < A 186 0 then 0 else 1)))), zW K A O t) := by
  have c1 := c_in (d := d) (K := K) (O := O) (t := t) (ar := ar) (A := A) (x := p) (a := 0) (b := A 186 0 - 1) hr (by omega) (by omega)
  by_cases h : 0 ≤ p ∧ p < A 186 0
  · rw [if_pos (by omega)] at c1
    rw [if_pos h]
    simp (disch := first | assumption | omega | exact zr_and | exact zr_or | exact zr_xor | exact zr_shl | exact zr_shr | exact zr_ushr | exact zr_byte) only [i255_0, i255_6, i255_11, i255_14, i255_18, i255_19, i233_0, c1, mB1_i, mB0_i, mB1n_i, mB0n_i, mB1_x, mB0_x, ↓if_pos, ↓if_neg, if_true, if_false, if_pos, if_neg]
  · rw [if_neg (by omega)] at c1
    rw [if_neg h]
    simp (disch := first | assumption | omega | exact zr_and | exact zr_or | exact zr_xor | exact zr_shl | exact zr_shr | exact zr_ushr | exact zr_byte) only [i255_0, i255_6, i255_11, i255_14, i255_18, i255_19, i233_0, c1, mB1_i, mB0_i, mB1n_i, mB0n_i, mB1_x, mB0_x, ↓if_pos, ↓if_neg, if_true, if_false, if_pos, if_neg]
theorem c_noKind {p : Int} (hr : -2147483648 ≤ p ∧ p < 2147483648) : mGd ar (d + 1) 257 0 [.int (zI p)] [] (zW K A O t) = some (.inl (some (.int (zI (if 0 ≤ p ∧ p < 4 then 0 else 1)))), zW K A O t) := by
  have c1 := c_in (d := d) (K := K) (O := O) (t := t) (ar := ar) (A := A) (x := p) (a := 0) (b := 3) hr (by omega) (by omega)
  by_cases h : 0 ≤ p ∧ p < 4
  · rw [if_pos (by omega)] at c1
    rw [if_pos h]
    simp (disch := first | assumption | omega | exact zr_and | exact zr_or | exact zr_xor | exact zr_shl | exact zr_shr | exact zr_ushr | exact zr_byte) only [i257_0, i257_6, i257_9, i257_13, i257_14, c1, mB1_i, mB0_i, mB1n_i, mB0n_i, mB1_x, mB0_x, ↓if_pos, ↓if_neg, if_true, if_false, if_pos, if_neg]
  · rw [if_neg (by omega)] at c1
    rw [if_neg h]
    simp (disch := first | assumption | omega | exact zr_and | exact zr_or | exact zr_xor | exact zr_shl | exact zr_shr | exact zr_ushr | exact zr_byte) only [i257_0, i257_6, i257_9, i257_13, i257_14, c1, mB1_i, mB0_i, mB1n_i, mB0n_i, mB1_x, mB0_x, ↓if_pos, ↓if_neg, if_true, if_false, if_pos, if_neg]
theorem c_noNumber {p : Int} (hr : -2147483648 ≤ p ∧ p < 2147483648) : mGd ar (d + 1) 277 0 [.int (zI p)] [] (zW K A O t) = some (.inl (some (.int (zI (if 0 ≤ p ∧ p ≤ 99 then 0 else 1)))), zW K A O t) := by
  have c1 := c_in (d := d) (K := K) (O := O) (t := t) (ar := ar) (A := A) (x := p) (a := 0) (b := 99) hr (by omega) (by omega)
  by_cases h : 0 ≤ p ∧ p ≤ 99
  · rw [if_pos (by omega)] at c1
    rw [if_pos h]
    simp (disch := first | assumption | omega | exact zr_and | exact zr_or | exact zr_xor | exact zr_shl | exact zr_shr | exact zr_ushr | exact zr_byte) only [i277_0, i277_7, i277_10, i277_14, i277_15, c1, mB1_i, mB0_i, mB1n_i, mB0n_i, mB1_x, mB0_x, ↓if_pos, ↓if_neg, if_true, if_false, if_pos, if_neg]
  · rw [if_neg (by omega)] at c1
    rw [if_neg h]
    simp (disch := first | assumption | omega | exact zr_and | exact zr_or | exact zr_xor | exact zr_shl | exact zr_shr | exact zr_ushr | exact zr_byte) only [i277_0, i277_7, i277_10, i277_14, i277_15, c1, mB1_i, mB0_i, mB1n_i, mB0n_i, mB1_x, mB0_x, ↓if_pos, ↓if_neg, if_true, if_false, if_pos, if_neg]
theorem c_noEase {p : Int} (hr : -2147483648 ≤ p ∧ p < 2147483648) : mGd ar (d + 1) 318 0 [.int (zI p)] [] (zW K A O t) = some (.inl (some (.int (zI (if 0 ≤ p ∧ p ≤ 20 then 0 else 1)))), zW K A O t) := by
  have c1 := c_in (d := d) (K := K) (O := O) (t := t) (ar := ar) (A := A) (x := p) (a := 0) (b := 20) hr (by omega) (by omega)
  by_cases h : 0 ≤ p ∧ p ≤ 20
  · rw [if_pos (by omega)] at c1
    rw [if_pos h]
    simp (disch := first | assumption | omega | exact zr_and | exact zr_or | exact zr_xor | exact zr_shl | exact zr_shr | exact zr_ushr | exact zr_byte) only [i318_0, i318_7, i318_10, i318_14, i318_15, c1, mB1_i, mB0_i, mB1n_i, mB0n_i, mB1_x, mB0_x, ↓if_pos, ↓if_neg, if_true, if_false, if_pos, if_neg]
  · rw [if_neg (by omega)] at c1
    rw [if_neg h]
    simp (disch := first | assumption | omega | exact zr_and | exact zr_or | exact zr_xor | exact zr_shl | exact zr_shr | exact zr_ushr | exact zr_byte) only [i318_0, i318_7, i318_10, i318_14, i318_15, c1, mB1_i, mB0_i, mB1n_i, mB0n_i, mB1_x, mB0_x, ↓if_pos, ↓if_neg, if_true, if_false, if_pos, if_neg]
theorem c_thr0 {c : Int} : mGd ar (d) 252 0 [.ref 185, .int (zI 0), .int (zI c)] [] (zW K A O t) = some (.inl (some (.int (zI 0))), zW K A O t) := by simp (disch := first | assumption | omega | exact zr_and | exact zr_or | exact zr_xor | exact zr_shl | exact zr_shr | exact zr_ushr | exact zr_byte) only [i252_0, i252_4, i252_9, mB1_i, mB0_i, mB1n_i, mB0n_i, mB1_x, mB0_x, ↓if_pos, ↓if_neg, if_true, if_false, if_pos, if_neg]
theorem c_thr1 {c : Int} : mGd ar (d) 252 0 [.ref 185, .int (zI 1), .int (zI c)] [] (zW K A O t) = some (.inl (some (.int (zI 1))), zW K (zU A 185 0 c) O t) := by simp (disch := first | assumption | omega | exact zr_and | exact zr_or | exact zr_xor | exact zr_shl | exact zr_shr | exact zr_ushr | exact zr_byte) only [i252_0, i252_4, i252_9, mB1_i, mB0_i, mB1n_i, mB0n_i, mB1_x, mB0_x, ↓if_pos, ↓if_neg, if_true, if_false, if_pos, if_neg]
theorem zU_uu {a : Nat} {i v w : Int} : zU (zU A a i v) a i w = zU A a i w := by
  funext c j; unfold zU; split <;> simp_all
/-- the facts that each call begins with -/
theorem zInv_f (hI : zInv A) : zHW0 (A 186) ∧ zHR0 A 3 (A 186) ∧ A 3 0 = A 186 0 ∧ (0 ≤ A 186 0 ∧ A 186 0 ≤ 8) := ⟨hI.1.1.1, hI.1.2.1, hI.1.2.1.1, hI.1.1.1.1⟩
/-- number -/
theorem q_number {p k : Int} (hI : zInv A) (hp : -2147483648 ≤ p ∧ p < 2147483648) (hk : -2147483648 ≤ k ∧ k < 2147483648) : zQ ar K O t (d + 3) 105 [.ref 0, .int (zI p), .int (zI k)] 254 [.ref 185, .int (zI p), .int (zI k)] (fun E => if E = 2 then 1 else 0) A := by
  obtain ⟨hw, hr, e0, w0⟩ := zInv_f hI
  have ah : isHall 3 := by unfold isHall; omega
  have np : ∀ (B : Nat → Int → Int) (O' : Nat → Int64) (t' : Nat), B 186 = A 186 → mGd ar (d + 2) 255 0 [.ref 185, .int (zI p)] [] (zW K B O' t') = some (.inl (some (.int (zI (if 0 ≤ p ∧ p < A 186 0 then 0 else 1)))), zW K B O' t') := fun B O' t' e => by
    rw [← e]; exact c_noPerson (d := d + 1) hp (by rw [e]; exact w0)
  have nk : ∀ (B : Nat → Int → Int) (O' : Nat → Int64) (t' : Nat), mGd ar (d + 2) 257 0 [.int (zI k)] [] (zW K B O' t') = some (.inl (some (.int (zI (if 0 ≤ k ∧ k < 4 then 0 else 1)))), zW K B O' t') := fun B O' t' => c_noKind (d := d + 1) hk
  have u6 : ∀ v, zU A 185 0 v 186 = A 186 := fun v => zU_r (by decide)
  by_cases h1 : 0 ≤ p ∧ p < A 186 0
  · by_cases h2 : 0 ≤ k ∧ k < 4
    · have rn := hr.2.2.2.2.2.2.2.1 p k h1.1 h1.2 h2.1 h2.2
      have wn := hw.2.2.2.2.2.2.2.1 p k h1.1 h1.2 h2.1 h2.2
      have c1 := c_nPerson (d := d + 2) (K := K) (O := O) (t := t) (ar := ar) (A := A) (p := p) (by omega) (by omega)
      have c2 := c_nKind (d := d + 2) (K := K) (O := O) (t := t) (ar := ar) (A := A) h2
      refine zQ_ok (b := A 186 (15 + 6 * p + k)) (A1 := A) hI ?_ zFc_refl (by omega) (fun O' t' => ⟨zU A 185 0 0, ?_, zU_at, zFm_u⟩)
      · simp (disch := first | assumption | omega | exact zr_and | exact zr_or | exact zr_xor | exact zr_shl | exact zr_shr | exact zr_ushr | exact zr_byte) only [i105_0, i105_5, i105_10, i105_19, c1, c2, i27_0, rn, mB1_i, mB0_i, mB1n_i, mB0n_i, mB1_x, mB0_x, ↓if_pos, ↓if_neg, if_true, if_false, if_pos, if_neg]
      · have n1 := np (zU A 185 0 0) O' t' (u6 0)
        have n2 := nk (zU A 185 0 0) O' t'
        rw [if_pos h1] at n1
        rw [if_pos h2] at n2
        have ho := c_of (d := d + 1) (K := K) (O := O') (t := t') (ar := ar) (A := zU A 185 0 0) (p := p) (k := k) (by omega) (by omega)
        rw [u6] at ho
        simp (disch := first | assumption | omega | exact zr_and | exact zr_or | exact zr_xor | exact zr_shl | exact zr_shr | exact zr_ushr | exact zr_byte) only [i254_0, i254_11, i254_14, i254_18, i254_21, i254_25, i254_26, i254_30, i254_33, i254_37, i254_43, n1, n2, c_thr0, ho, mB1_i, mB0_i, mB1n_i, mB0n_i, mB1_x, mB0_x, ↓if_pos, ↓if_neg, if_true, if_false, if_pos, if_neg]
    · have c1 := c_nPerson (d := d + 2) (K := K) (O := O) (t := t) (ar := ar) (A := A) (p := p) (by omega) (by omega)
      have c2 := c_nKindX (d := d + 2) (K := K) (O := O) (t := t) (ar := ar) (A := A) hk h2
      refine zQ_ex (E := 2) hI ?_ (by decide) (fun O' t' => ⟨0, zU A 185 0 1, ?_, zU_at, zFm_u⟩)
      · simp (disch := first | assumption | omega | exact zr_and | exact zr_or | exact zr_xor | exact zr_shl | exact zr_shr | exact zr_ushr | exact zr_byte) only [i105_0, i105_5, i105_10, i105_19, c1, c2, mB1_i, mB0_i, mB1n_i, mB0n_i, mB1_x, mB0_x, ↓if_pos, ↓if_neg, if_true, if_false, if_pos, if_neg]
      · have n1 := np (zU A 185 0 0) O' t' (u6 0)
        have n2 := nk (zU A 185 0 0) O' t'
        rw [if_pos h1] at n1
        rw [if_neg h2] at n2
        simp (disch := first | assumption | omega | exact zr_and | exact zr_or | exact zr_xor | exact zr_shl | exact zr_shr | exact zr_ushr | exact zr_byte) only [i254_0, i254_11, i254_14, i254_18, i254_21, i254_25, i254_26, i254_30, i254_33, i254_37, i254_43, n1, n2, c_thr1, zU_uu, mB1_i, mB0_i, mB1n_i, mB0n_i, mB1_x, mB0_x, ↓if_pos, ↓if_neg, if_true, if_false, if_pos, if_neg]
  · have c1 := c_nPersonX (d := d + 2) (K := K) (O := O) (t := t) (ar := ar) (A := A) (p := p) hp (by omega) (by omega)
    refine zQ_ex (E := 2) hI ?_ (by decide) (fun O' t' => ⟨0, zU A 185 0 1, ?_, zU_at, zFm_u⟩)
    · simp (disch := first | assumption | omega | exact zr_and | exact zr_or | exact zr_xor | exact zr_shl | exact zr_shr | exact zr_ushr | exact zr_byte) only [i105_0, i105_5, i105_10, i105_19, c1, mB1_i, mB0_i, mB1n_i, mB0n_i, mB1_x, mB0_x, ↓if_pos, ↓if_neg, if_true, if_false, if_pos, if_neg]
    · have n1 := np (zU A 185 0 0) O' t' (u6 0)
      rw [if_neg h1] at n1
      simp (disch := first | assumption | omega | exact zr_and | exact zr_or | exact zr_xor | exact zr_shl | exact zr_shr | exact zr_ushr | exact zr_byte) only [i254_0, i254_11, i254_14, i254_18, i254_21, i254_25, i254_26, i254_30, i254_33, i254_37, i254_43, n1, c_thr1, zU_uu, mB1_i, mB0_i, mB1n_i, mB0n_i, mB1_x, mB0_x, ↓if_pos, ↓if_neg, if_true, if_false, if_pos, if_neg]
end INV
