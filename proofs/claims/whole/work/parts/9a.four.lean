/-! TEXTS, 5: numbers of the hall's text, side by side -/
/-- what a text of the hall may change in the class; in the reference -/
def zKf (A A' : Nat → Int → Int) : Prop := ∀ c, c ≠ 1 → ¬ (145 ≤ c ∧ c ≤ 153) → c ≠ 170 → c ≠ 171 → A' c = A c
def zLf (B B' : Nat → Int → Int) : Prop := (∀ j, j ≠ 10 → j ≠ 12 → B' 185 j = B 185 j) ∧ (∀ c, c ≠ 185 → c ≠ 186 → B' c = B c) ∧ ∀ i, i = 1 ∨ i = 2 ∨ 63 ≤ i → B' 186 i = B 186 i
theorem zKf_refl {A : Nat → Int → Int} : zKf A A := fun _ _ _ _ _ => rfl
theorem zKf_trans {A B C : Nat → Int → Int} (h1 : zKf A B) (h2 : zKf B C) : zKf A C := fun c a b e f => by rw [h2 c a b e f, h1 c a b e f]
theorem zLf_trans {A B C : Nat → Int → Int} (h1 : zLf A B) (h2 : zLf B C) : zLf A C := ⟨fun j a b => by rw [h2.1 j a b, h1.1 j a b], fun c a b => by rw [h2.2.1 c a b, h1.2.1 c a b], fun i hi => by rw [h2.2.2 i hi, h1.2.2 i hi]⟩
theorem zLf_fp {A B : Nat → Int → Int} (h : zFp A B) : zLf A B := ⟨h.1, fun c a _ => h.2 c a, fun i _ => by rw [h.2 186 (by decide)]⟩
theorem zLf_u {A : Nat → Int → Int} {i v : Int} (h : i ≠ 1 ∧ i ≠ 2 ∧ i < 63) : zLf A (zU A 186 i v) := ⟨fun j _ _ => zU_c (by decide), fun c _ a => zU_r a, fun j hj => zU_s (by omega)⟩
theorem zTr_lf {B C : Nat → Int → Int} {T : Int → Int} {n : Int} (h : zTr B T n) (hf : zLf B C) : zTr C T n := by
  unfold zTr
  rw [hf.1 11 (by decide) (by decide), hf.2.1 191 (by decide) (by decide)]
  exact h
def zCp (A : Nat → Int → Int) (T : Int → Int) (n p : Int) (h : Int → Int) : Prop := zTx A T n ∧ (0 ≤ p ∧ p ≤ n) ∧ zTk A T n p ∧ zHWf h ∧ zHR A 145 h
/-- a piece of the hall's text, read by both -/
def zPh (ar : Nat → Nat × (Nat → Int32)) (K : Nat → Nat → Option Nat) (O : Nat → Int64) (t D1 M1 : Nat) (l1 : List Value) (D2 M2 : Nat) (l2 : List Value) (A : Nat → Int → Int) (T : Int → Int) (n p : Int) (h : Int → Int) : Prop :=
  ∃ (A' : Nat → Int → Int) (r p' : Int) (h' : Int → Int), mGd ar D1 M1 0 l1 [] (zW K A O t) = some (.inl (some (.int (zI r))), zW K A' O t) ∧ (r = 0 ∨ r = 1) ∧ (r = 1 → zCp A' T n p' h' ∧ p ≤ p') ∧ (r = 0 → 0 ≤ A' 1 3 ∧ A' 1 3 ≤ n) ∧ zTx A' T n ∧ zKf A A' ∧ ∀ (O' : Nat → Int64) (t' : Nat) (B : Nat → Int → Int), zTr B T n → B 185 10 = p → B 186 = h → ∃ B', mGd ar D2 M2 0 l2 [] (zW K B O' t') = some (.inl (some (.int (zI r))), zW K B' O' t') ∧ zLf B B' ∧ (r = 1 → B' 185 10 = p' ∧ B' 186 = h') ∧ (r = 0 → B' 185 12 = A' 1 3)
section FOUR
variable {ar : Nat → Nat × (Nat → Int32)} {d t : Nat} {K : Nat → Nat → Option Nat} {A : Nat → Int → Int} {O : Nat → Int64}
theorem zPh_no {D1 M1 D2 M2 : Nat} {l1 l2 : List Value} {T : Int → Int} {n p : Int} {h : Int → Int} {A' : Nat → Int → Int} (h1 : mGd ar D1 M1 0 l1 [] (zW K A O t) = some (.inl (some (.int (zI 0))), zW K A' O t)) (h3 : 0 ≤ A' 1 3 ∧ A' 1 3 ≤ n) (hx : zTx A' T n) (hk : zKf A A') (h2 : ∀ (O' : Nat → Int64) (t' : Nat) (B : Nat → Int → Int), zTr B T n → B 185 10 = p → B 186 = h → ∃ B', mGd ar D2 M2 0 l2 [] (zW K B O' t') = some (.inl (some (.int (zI 0))), zW K B' O' t') ∧ zLf B B' ∧ B' 185 12 = A' 1 3) : zPh ar K O t D1 M1 l1 D2 M2 l2 A T n p h :=
  ⟨A', 0, 0, h, h1, Or.inl rfl, fun q => by omega, fun _ => h3, hx, hk, fun O' t' B b1 b2 b3 => by
    obtain ⟨B', g1, g2, g3⟩ := h2 O' t' B b1 b2 b3
    exact ⟨B', g1, g2, fun q => by omega, fun _ => g3⟩⟩
theorem zPh_ok {D1 M1 D2 M2 : Nat} {l1 l2 : List Value} {T : Int → Int} {n p p' : Int} {h h' : Int → Int} {A' : Nat → Int → Int} (h1 : mGd ar D1 M1 0 l1 [] (zW K A O t) = some (.inl (some (.int (zI 1))), zW K A' O t)) (hc : zCp A' T n p' h') (hpp : p ≤ p') (hk : zKf A A') (h2 : ∀ (O' : Nat → Int64) (t' : Nat) (B : Nat → Int → Int), zTr B T n → B 185 10 = p → B 186 = h → ∃ B', mGd ar D2 M2 0 l2 [] (zW K B O' t') = some (.inl (some (.int (zI 1))), zW K B' O' t') ∧ zLf B B' ∧ B' 185 10 = p' ∧ B' 186 = h') : zPh ar K O t D1 M1 l1 D2 M2 l2 A T n p h :=
  ⟨A', 1, p', h', h1, Or.inr rfl, fun _ => ⟨hc, hpp⟩, fun q => by omega, hc.1, hk, fun O' t' B b1 b2 b3 => by
    obtain ⟨B', g1, g2, g3⟩ := h2 O' t' B b1 b2 b3
    exact ⟨B', g1, g2, fun _ => g3, fun q => by omega⟩⟩
theorem c_takeH {T : Int → Int} {n p lo hi : Int} (hx : zTx A T n) (hk : zTk A T n p) (hp : 0 ≤ p ∧ p ≤ n) (hl : (-1000 ≤ lo ∧ lo ≤ 1000) ∧ -1000 ≤ hi ∧ hi ≤ 1000) : (zNm T n p lo hi ∧ ∃ C, mGd ar (d + 1) 81 0 [.ref 170, .int (zI lo), .int (zI hi)] [] (zW K A O t) = some (.inl (some (.int (zI 1))), zW K C O t) ∧ C 170 1 = zVl T n p ∧ zTk C T n (zBh T n p) ∧ zTx C T n ∧ (∀ c, c ≠ 1 → c ≠ 170 → C c = A c)) ∨ (¬ zNm T n p lo hi ∧ mGd ar (d + 1) 81 0 [.ref 170, .int (zI lo), .int (zI hi)] [] (zW K A O t) = some (.inl (some (.int (zI 0))), zW K A O t)) := by
  obtain ⟨r, r1, r2, r3⟩ := c_isNumber (d := d) (K := K) (O := O) (t := t) (ar := ar) hk hp.2 hl
  have hb := zBg_rng (T := T) hp.2
  have hbh := zBh_rng (T := T) hp.2
  by_cases h : zNm T n p lo hi
  · left
    have e1 : r = 1 := r3.2 h
    have e5 : (zU A 170 1 (A 1 5)) 1 4 = zBh T n p := by rw [zU_r (by decide), hk.2.1]
    obtain ⟨C, q1, q2, q3, q4, q5⟩ := c_advance (d := d) (K := K) (O := O) (t := t) (ar := ar) (A := zU A 170 1 (A 1 5)) (zTx_u hx (by simp (disch := first | assumption | omega) only [zU_at, zU_c, zU_s, zU_r]) (by simp (disch := first | assumption | omega) only [zU_at, zU_c, zU_s, zU_r])) e5 (by omega)
    refine ⟨h, C, ?_, ?_, q2, q3, fun c c1 c2 => by rw [q5 c c1, zU_r c2]⟩
    · rw [i81h_0, r1, mB1_i, i81h_9 (by omega), if_neg (by omega), i81h_14, q1, mB0_i, i81h_32]
    · rw [q5 170 (by decide), zU_at, hk.2.2.2]
  · right
    have e0 : r = 0 := by
      rcases r2 with q | q
      · exact q
      · exact absurd (r3.1 q) h
    exact ⟨h, by rw [i81h_0, r1, mB1_i, i81h_9 (by omega), if_pos e0, i81h_12]⟩
/-- four numbers -/
theorem four_loop {T : Int → Int} {n : Int} : ∀ (m : Nat) (k p : Int) (B : Nat → Int → Int) (w : Int → Int), k + m = 4 → 0 ≤ k → zTx B T n → zTk B T n p → (0 ≤ p ∧ p ≤ n) → (∀ c, c ≠ 1 → c ≠ 170 → c ≠ 171 → B c = A c) → (∀ j, 0 ≤ j → j < k → B 171 j = w j ∧ 0 ≤ w j ∧ w j ≤ 99) →
    ∃ (A' : Nat → Int → Int) (r p' : Int) (w' : Int → Int), mGd ar (d + 2) 80 2 [.ref 170, .int (zI k)] [] (zW K B O t) = some (.inl (some (.int (zI r))), zW K A' O t) ∧ (r = 0 ∨ r = 1) ∧ zTx A' T n ∧ (r = 1 → (0 ≤ p' ∧ p' ≤ n) ∧ p ≤ p' ∧ zTk A' T n p' ∧ (∀ j, 0 ≤ j → j < k → w' j = w j) ∧ ∀ j, 0 ≤ j → j < 4 → A' 171 j = w' j ∧ 0 ≤ w' j ∧ w' j ≤ 99) ∧ (r = 0 → 0 ≤ A' 1 3 ∧ A' 1 3 ≤ n) ∧ (∀ c, c ≠ 1 → c ≠ 170 → c ≠ 171 → A' c = A c) ∧
      ∀ (at' : Int) (v3 : Value) (O' : Nat → Int64) (t' : Nat) (B : Nat → Int → Int), (0 ≤ at' ∧ at' < 1000) → zTr B T n → B 185 10 = p → ∃ B', mGd ar (d + 3) 235 2 [.ref 185, .int (zI at'), .int (zI k), v3] [] (zW K B O' t') = some (.inl (some (.int (zI r))), zW K B' O' t') ∧ (∀ j, j ≠ 10 → j ≠ 12 → B' 185 j = B 185 j) ∧ (∀ c, c ≠ 185 → c ≠ 186 → B' c = B c) ∧ (r = 1 → B' 185 10 = p' ∧ ∀ i, B' 186 i = if at' + k ≤ i ∧ i < at' + 4 then w' (i - at') else B 186 i) ∧ (r = 0 → B' 185 12 = A' 1 3 ∧ ∀ i, ¬ (at' ≤ i ∧ i < at' + 4) → B' 186 i = B 186 i) := by
  intro m
  induction m with
  | zero =>
    intro k p B w hm k0 hx hk hp hc hw
    have : k = 4 := by omega
    subst this
    refine ⟨B, 1, p, w, by rw [i80_2 (by omega), if_pos (by omega), i80_35], by omega, hx, fun _ => ⟨hp, by omega, hk, fun _ _ _ => rfl, hw⟩, fun q => by omega, hc, fun at' v3 O' t' B' ha hr h10 => ⟨B', by rw [i235_2 (by omega), if_pos (by omega), i235_36], fun _ _ _ => rfl, fun _ _ _ => rfl, fun _ => ⟨h10, fun i => by rw [if_neg (by omega)]⟩, fun q => by omega⟩⟩
  | succ m ih =>
    intro k p B w hm k0 hx hk hp hc hw
    have hbg := zBg_rng (T := T) hp.2
    have hbh := zBh_rng (T := T) hp.2
    rcases c_takeH (d := d) (K := K) (O := O) (t := t) (ar := ar) (lo := 0) (hi := 99) hx hk hp (by omega) with ⟨hN, C, q1, q2, q3, q4, q5⟩ | ⟨hN, q1⟩
    · have hv : 0 ≤ zVl T n p ∧ zVl T n p ≤ 99 := ⟨hN.2.1, hN.2.2⟩
      obtain ⟨A', r, p', w', e1, e2, e3, e4, e5, e6, e7⟩ := ih (k + 1) (zBh T n p) (zU C 171 k (zVl T n p)) (fun j => if j = k then zVl T n p else w j) (by omega) (by omega) (zTx_u q4 (by simp (disch := first | assumption | omega) only [zU_at, zU_c, zU_s, zU_r]) (by simp (disch := first | assumption | omega) only [zU_at, zU_c, zU_s, zU_r])) (by unfold zTk; rw [zU_r (by decide)]; exact q3) (by omega) (fun c c1 c2 c3 => by rw [zU_r c3, q5 c c1 c2, hc c c1 c2 c3]) (fun j j0 j1 => by
        by_cases hj : j = k
        · rw [hj, zU_at, if_pos rfl]; exact ⟨rfl, hv⟩
        · rw [zU_s hj, if_neg hj, q5 171 (by decide) (by decide)]; exact hw j j0 (by omega))
      refine ⟨A', r, p', w', ?_, e2, e3, fun q => ?_, e5, e6, ?_⟩
      · rw [i80_2 (by omega), if_neg (by omega), i80_7, q1, mB1n_i, i80_14 (by omega), if_neg (by omega), i80_19 (by omega), q2]
        exact e1
      · obtain ⟨f1, f0, f2, f3, f4⟩ := e4 q
        exact ⟨f1, by omega, f2, fun j j0 j1 => by rw [f3 j j0 (by omega), if_neg (by omega)], f4⟩
      · intro at' v3 O' t' B' ha hr h10
        obtain ⟨D, v, g1, g2, g3, g4, g5⟩ := c_figures (d := d) (K := K) (O := O') (t := t') (ar := ar) (lo := 0) (hi := 99) hr h10 hp (by omega) (by omega)
        obtain ⟨g6, g7⟩ := g3 hN
        subst g6
        obtain ⟨B2, x1, x2, x3, x4, x5⟩ := e7 at' (.int (zI (zVl T n p))) O' t' (zU D 186 (at' + k) (zVl T n p)) ha (by
          have := zTr_fp hr g5
          unfold zTr at this ⊢
          rw [zU_r (by decide), zU_r (by decide)]; exact this) (by rw [zU_r (by decide)]; exact g7)
        refine ⟨B2, ?_, fun j j1 j2 => by rw [x2 j j1 j2, zU_r (by decide), g5.1 j j1 j2], fun c c1 c2 => by rw [x3 c c1 c2, zU_r c2, g5.2 c c1], fun q => ?_, fun q => ?_⟩
        · rw [i235_2 (by omega), if_neg (by omega), i235_7, g1, mB1_i, i235_14 (by omega), if_pos (by omega), i235_21 (by omega)]
          exact x1
        · refine ⟨(x4 q).1, fun i => ?_⟩
          rw [(x4 q).2 i]
          have f3 := (e4 q).2.2.2.1 k k0 (by omega)
          rw [if_pos rfl] at f3
          by_cases hi : i = at' + k
          · rw [if_neg (by omega), if_pos (by omega), hi, zU_at, show at' + k - at' = k by omega, f3]
          · rw [zU_s hi, g5.2 186 (by decide)]
            by_cases hj : at' + (k + 1) ≤ i ∧ i < at' + 4
            · rw [if_pos hj, if_pos (by omega)]
            · rw [if_neg hj, if_neg (by omega)]
        · refine ⟨(x5 q).1, fun i hi => ?_⟩
          rw [(x5 q).2 i hi, zU_s (by omega), g5.2 186 (by decide)]
    · refine ⟨B, 0, 0, w, ?_, by omega, hx, fun q => by omega, fun _ => by rw [hk.1]; omega, hc, ?_⟩
      · rw [i80_2 (by omega), if_neg (by omega), i80_7, q1, mB1n_i, i80_14 (by omega), if_pos rfl, i80_17]
      · intro at' v3 O' t' B' ha hr h10
        obtain ⟨D, v, g1, g2, g3, g4, g5⟩ := c_figures (d := d) (K := K) (O := O') (t := t') (ar := ar) (lo := 0) (hi := 99) hr h10 hp (by omega) (by omega)
        have hv := g4 hN
        subst hv
        refine ⟨D, ?_, g5.1, fun c c1 _ => g5.2 c c1, fun q => by omega, fun _ => ⟨by rw [g2, hk.1], fun i _ => by rw [g5.2 186 (by decide)]⟩⟩
        rw [i235_2 (by omega), if_neg (by omega), i235_7, g1, mB1_i, i235_14 (by omega), if_neg (by omega), i235_19]
end FOUR
