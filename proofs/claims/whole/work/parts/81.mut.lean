/-! CALLS THAT CHANGE, 2: seed, rule -/
/-- behind the class's half of an act; behind the reference's half -/
def zRc (A A1 : Nat → Int → Int) : Prop := A1 19 1 = (A 19 1 + 1) % 12 ∧ A1 19 0 = min 12 (A 19 0 + 1) ∧ zHR A1 (21 + 9 * (A 19 1).toNat) (A 186) ∧ ∀ c, ¬ (3 ≤ c ∧ c ≤ 11) → c ≠ 19 → ¬ (21 + 9 * (A 19 1).toNat ≤ c ∧ c ≤ 21 + 9 * (A 19 1).toNat + 8) → ¬ zSc c → A1 c = A c
def zRm (A1 A2 : Nat → Int → Int) : Prop := A2 185 7 = min 12 (A1 185 7 + 1) ∧ (∀ x, 0 ≤ x → x < 423 * (min 12 (A1 185 7 + 1) - 1) → A2 190 x = if A1 185 7 = 12 then A1 190 (x + 423) else A1 190 x) ∧ (∀ i, 0 ≤ i → i < 423 → A2 190 (423 * (min 12 (A1 185 7 + 1) - 1) + i) = A1 186 i) ∧ (∀ c, c < 185 ∨ c = 187 ∨ c = 191 → A2 c = A1 c) ∧ (∀ j, j = 6 ∨ j = 9 ∨ j = 14 → A2 185 j = A1 185 j) ∧ (∀ i, i = 2 ∨ 423 ≤ i → A2 186 i = A1 186 i)
theorem zInv_act {A A1 A2 : Nat → Int → Int} (hI : zInv A) (hc : zRc A A1) (hm : zRm A1 A2) (hw : zHWf (A2 186)) (hr : zHR A2 3 (A2 186)) : zInv A2 := by
  obtain ⟨c1, c2, c3, c4⟩ := hc
  obtain ⟨m1, m2, m3, m4, m5, m6⟩ := hm
  have ha := hI.2.2.2.1
  have ha' := ha
  obtain ⟨a1, a2, a3, -⟩ := ha'
  have s : ∀ c, c < 3 ∨ (12 ≤ c ∧ c ≤ 16) ∨ c = 20 ∨ (129 ≤ c ∧ c < 143) ∨ c = 176 ∨ c = 185 ∨ c = 186 ∨ c = 187 ∨ c = 190 ∨ c = 191 → A1 c = A c := fun c hx => c4 c (by omega) (by omega) (by omega) (by unfold zSc; omega)
  have e7 : A1 185 7 = A 19 0 := by rw [s 185 (by omega), a1]
  rw [e7] at m1 m2 m3
  refine zInv_hall hI hw hr (by rw [m6 2 (Or.inl rfl), s 186 (by omega)]) (fun i hi => by rw [m6 i (Or.inr hi), s 186 (by omega)]) ?_ (fun c hx => by rw [m4 c (by omega), s c (by omega)]) (fun j hj => by rw [m5 j hj, s 185 (by omega)])
  have e19 : A2 19 = A1 19 := m4 19 (by omega)
  refine zActs_new ha hI.1.1 (by rw [m6 2 (Or.inl rfl), s 186 (by omega)]) (by rw [e19]; exact c1) (by rw [e19]; exact c2) (zHR_same (fun c h1 h2 => m4 c (by omega)) hI.1.1 c3) (fun c h1 h2 h3 => by rw [m4 c (by omega), c4 c (by omega) (by omega) h3 (by unfold zSc; omega)]) (by rw [m1, a1]) (fun x x0 x1 => ?_) (fun i i0 i1 => ?_)
  · rw [e19, c2] at x1
    rw [m2 x x0 x1, s 190 (by omega)]
  · rw [e19, c2, m3 i i0 i1, s 186 (by omega)]
theorem zQ_act {ar : Nat → Nat × (Nat → Int32)} {K : Nat → Nat → Option Nat} {O : Nat → Int64} {t D M1 M2 : Nat} {l1 l2 : List Value} {code : Nat → Int} {A A1 : Nat → Int → Int} {b : Int} (hI : zInv A) (h1 : mGd ar D M1 0 l1 [] (zW K A O t) = some (.inl (some (.int (zI b))), zW K A1 O t)) (hc : zRc A A1) (hb : -2147483648 ≤ b ∧ b < 2147483648) (h2 : ∀ O' t', ∃ A2, mGd ar D M2 0 l2 [] (zW K A1 O' t') = some (.inl (some (.int (zI b))), zW K A2 O' t') ∧ A2 185 0 = 0 ∧ zRm A1 A2 ∧ zHWf (A2 186) ∧ zHR A2 3 (A2 186)) : zQ ar K O t D M1 l1 M2 l2 code A :=
  ⟨A1, Or.inl ⟨b, h1, hb, fun O' t' => by
    obtain ⟨A2, g1, g2, g3, g4, g5⟩ := h2 O' t'
    exact ⟨A2, g1, g2, zInv_act hI hc g3 g4 g5⟩⟩⟩
section MUT
variable {ar : Nat → Nat × (Nat → Int32)} {d t : Nat} {K : Nat → Nat → Option Nat} {A : Nat → Int → Int} {O : Nat → Int64}
/-- both remember -/
theorem k_remember (hK : mKok K) (hI : zInv A) : ∃ C, mGd ar (d + 2) 121 0 [.ref 19, .ref 3] [] (zW K A O t) = some (.inl none, zW K C O t) ∧ zRc A C ∧ ∀ c, 3 ≤ c → c ≤ 11 → C c = A c := by
  obtain ⟨-, a2, a3, -⟩ := hI.2.2.2.1
  obtain ⟨C, g1, g2, g3, g4, g5⟩ := c_remember (d := d) (K := K) (O := O) (t := t) (ar := ar) hK.1 a2 a3
  exact ⟨C, g1, ⟨g3, g4, zHR_eq g2 hI.1.1 hI.1.2, fun c _ c2 c3 _ => g5 c c2 c3⟩, fun c c1 c2 => g5 c (by omega) (by omega)⟩
theorem k_remembers {A1 : Nat → Int → Int} (h7 : 0 ≤ A1 185 7 ∧ A1 185 7 ≤ 12) : ∃ C, mGd ar (d) 278 0 [.ref 185, .double 0] [] (zW K (zU A1 185 0 0) O t) = some (.inl none, zW K C O t) ∧ zRm A1 C ∧ C 185 0 = 0 ∧ C 186 = A1 186 := by
  obtain ⟨C, g1, g2, g3, g4, g5, g6⟩ := c_remembers (d := d) (K := K) (O := O) (t := t) (ar := ar) (A := zU A1 185 0 0) (by rw [zU_s (by decide)]; exact h7)
  rw [zU_s (by decide), zU_r (by decide)] at g5
  rw [zU_s (by decide), zU_r (by decide)] at g6
  rw [zU_s (by decide)] at g4
  have e6 : C 186 = A1 186 := by rw [g2 186 (by decide) (by decide), zU_r (by decide)]
  exact ⟨C, g1, ⟨g4, g5, g6, fun c hc => by rw [g2 c (by omega) (by omega), zU_r (by omega)], fun j hj => by rw [g3 j (by omega), zU_s (by omega)], fun i _ => by rw [e6]⟩, by rw [g3 0 (by decide), zU_at], e6⟩
theorem zRm_u {A1 C : Nat → Int → Int} {i v : Int} (h : zRm A1 C) (hi : i ≠ 2 ∧ i < 423) : zRm A1 (zU C 186 i v) := by
  obtain ⟨m1, m2, m3, m4, m5, m6⟩ := h
  exact ⟨by rw [zU_c (by decide)]; exact m1, by rw [zU_r (by decide)]; exact m2, by rw [zU_r (by decide)]; exact m3, fun c hc => by rw [zU_r (by omega)]; exact m4 c hc, fun j hj => by rw [zU_c (by decide)]; exact m5 j hj, fun j hj => by rw [zU_s (by omega)]; exact m6 j hj⟩
end MUT
