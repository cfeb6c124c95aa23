/-! TEXTS, 9: hall -/
section HALLT
variable {ar : Nat → Nat × (Nat → Int32)} {d t : Nat} {K : Nat → Nat → Option Nat} {A : Nat → Int → Int} {O : Nat → Int64}
theorem hread_loop (hS : zArs ar) {T : Int → Int} {n : Int} : ∀ (m : Nat) (ln p : Int) (A : Nat → Int → Int) (h : Int → Int), ln + m = 14 → 0 ≤ ln → zCp A T n p h → ∃ (A' : Nat → Int → Int) (f : Int) (h' : Int → Int), mGd ar (d + 9) 66 21 [.ref 170, .int (zI 14), .int (zI ln)] [] (zW K A O t) = some (.inl (some (.int (zI f))), zW K A' O t) ∧ (f = -1 ∨ (0 ≤ f ∧ f ≤ n)) ∧ zTx A' T n ∧ zKf A A' ∧ (f = -1 → zHWf h' ∧ zHR A' 145 h') ∧ ∀ (O' : Nat → Int64) (t' : Nat) (B : Nat → Int → Int), zTr B T n → B 185 10 = p → B 186 = h → ∃ B' r, mGd ar (d + 10) 224 28 [.ref 185, .int (zI 1), .int (zI ln)] [] (zW K B O' t') = some (.inl (some (.int (zI r))), zW K B' O' t') ∧ zLf B B' ∧ (f = -1 → (0 ≤ r ∧ r ≤ 14) ∧ B' 186 = h') ∧ (f ≠ -1 → r = -1 ∧ B' 185 12 = f) := by
  intro m
  induction m with
  | zero =>
    intro ln p A h hm l0 hC
    obtain ⟨hx, hp, hk, hwf, hr⟩ := hC
    have hb := zBg_rng (T := T) hp.2
    refine ⟨A, zBg T n p, h, by rw [i66h_21 (by omega) (by omega), if_pos (by omega), i66h_86, hk.1], by omega, hx, zKf_refl, fun q => by omega, fun O' t' B b1 b2 b3 => ?_⟩
    obtain ⟨B2, y1, y2, y3, y4⟩ := c_letters (d := d + 6) (K := K) (O := O') (t := t') (ar := ar) (A := B) b1 b2 hp
    refine ⟨B2, -1, ?_, zLf_fp y4, fun q => by omega, fun _ => ⟨rfl, y3⟩⟩
    rw [i224_28, i228_0, y1, mB0_i, i228_4 (by omega), if_neg (by omega), i228_9, i228_16 (by omega) (by omega), if_pos (by omega), i228_45, i228_46 (by omega), mB1_i, i224_34 (by omega), if_pos rfl, i224_37]
  | succ m ih =>
    intro ln p A h hm l0 hC
    obtain ⟨A1, r, p1, h1, e1, e2, e3, e4, e5, e6, e7⟩ := pair_line (d := d) (K := K) (O := O) (t := t) (ar := ar) hS (ln := ln) hC (by omega)
    rcases e2 with r0 | r0
    · subst r0
      have hf := e4 rfl
      refine ⟨A1, A1 1 3, h, ?_, by omega, e5, e6, fun q => by omega, fun O' t' B b1 b2 b3 => ?_⟩
      · rw [i66h_21 (by omega) (by omega), if_neg (by omega), i66h_26, e1, mB1n_i, i66h_30 (by omega), if_pos rfl, i66h_33]
      · obtain ⟨B', x1, x2, x3, x4⟩ := e7 O' t' B b1 b2 b3
        refine ⟨B', -1, ?_, x2, fun q => by omega, fun _ => ⟨rfl, x4 rfl⟩⟩
        rw [i224_28, x1, mB1_i, i224_34 (by omega), if_pos rfl, i224_37]
    · subst r0
      obtain ⟨hC1, hpp⟩ := e3 rfl
      obtain ⟨hx1, hp1, hk1, hwf1, hr1⟩ := id hC1
      have hb1 := zBg_rng (T := T) hp1.2
      have hbh1 := zBh_rng (T := T) hp1.2
      have hn := hx1.1
      obtain ⟨s, s1, s2, s3⟩ := c_isEnd (d := d + 8) (K := K) (O := O) (t := t) (ar := ar) (A := A1) hk1
      have refS : ∀ (O' : Nat → Int64) (t' : Nat) (B : Nat → Int → Int), zTr B T n → B 185 10 = p → B 186 = h → ∃ B2, mGd ar (d + 10) 224 28 [.ref 185, .int (zI 1), .int (zI ln)] [] (zW K B O' t') = (if zBg T n p1 = n then some (.inl (some (.int (zI (ln + 1)))), zW K B2 O' t') else mGd ar (d + 10) 224 58 [.ref 185, .int (zI 1), .int (zI ln)] [] (zW K B2 O' t')) ∧ zLf B B2 ∧ B2 185 10 = zBg T n p1 ∧ B2 185 12 = zBg T n p1 ∧ B2 186 = h1 := fun O' t' B b1 b2 b3 => by
        obtain ⟨B', x1, x2, x3, x4⟩ := e7 O' t' B b1 b2 b3
        obtain ⟨x5, x6⟩ := x3 rfl
        obtain ⟨B2, y1, y2, y3, y4⟩ := c_blanks (d := d + 8) (K := K) (O := O') (t := t') (ar := ar) (A := B') (zTr_lf b1 x2) x5 hp1
        have y11 : B2 185 11 = n := by rw [y4.1 11 (by decide) (by decide), x2.1 11 (by decide) (by decide), b1.2.1]
        refine ⟨B2, ?_, zLf_trans x2 (zLf_fp y4), y2, y3, by rw [y4.2 186 (by decide), x6]⟩
        rw [i224_28, x1, mB1_i, i224_34 (by omega), if_neg (by omega), i224_39, y1, mB0_i, i224_43 (by omega) (by omega), y2, y11, i224_54]
      by_cases hE : zBg T n p1 = n
      · have es : s = 1 := s3.2 ((zKd_0 hp1.2).2 hE)
        refine ⟨A1, -1, h1, ?_, by omega, e5, e6, fun _ => ⟨hwf1, hr1⟩, fun O' t' B b1 b2 b3 => ?_⟩
        · rw [i66h_21 (by omega) (by omega), if_neg (by omega), i66h_26, e1, mB1n_i, i66h_30 (by omega), if_neg (by omega), i66h_41, s1, mB1_i, i66h_48 (by omega), if_neg (by omega), i66h_51]
        · obtain ⟨B2, x1, x2, x3, x4, x5⟩ := refS O' t' B b1 b2 b3
          rw [if_pos hE] at x1
          exact ⟨B2, ln + 1, x1, x2, fun _ => ⟨by omega, x5⟩, fun q => absurd rfl q⟩
      · have es : s = 0 := by
          rcases s2 with q | q
          · exact q
          · exact absurd ((zKd_0 hp1.2).1 (s3.1 q)) hE
        obtain ⟨g, g1, g2, g3⟩ := c_isSign (d := d + 8) (K := K) (O := O) (t := t) (ar := ar) (A := A1) (c := 59) hx1 hk1 hp1 (by decide)
        have cls : mGd ar (d + 9) 66 21 [.ref 170, .int (zI 14), .int (zI ln)] [] (zW K A O t) = if g = 0 then some (.inl (some (.int (zI (zBg T n p1)))), zW K A1 O t) else mGd ar (d + 9) 66 73 [.ref 170, .int (zI 14), .int (zI ln)] [] (zW K A1 O t) := by
          rw [i66h_21 (by omega) (by omega), if_neg (by omega), i66h_26, e1, mB1n_i, i66h_30 (by omega), if_neg (by omega), i66h_41, s1, mB1_i, i66h_48 (by omega), if_pos es, i66h_53, g1, mB1_i, i66h_62 (by omega), i66h_65, hk1.1]
        have refT : ∀ (O' : Nat → Int64) (t' : Nat) (B : Nat → Int → Int), zTr B T n → B 185 10 = p → B 186 = h → ∃ B2, mGd ar (d + 10) 224 28 [.ref 185, .int (zI 1), .int (zI ln)] [] (zW K B O' t') = (if g = 0 then some (.inl (some (.int (zI (-1)))), zW K B2 O' t') else mGd ar (d + 10) 224 71 [.ref 185, .int (zI 1), .int (zI ln)] [] (zW K B2 O' t')) ∧ zLf B B2 ∧ B2 185 10 = zBg T n p1 ∧ B2 185 12 = zBg T n p1 ∧ B2 186 = h1 := fun O' t' B b1 b2 b3 => by
          obtain ⟨B2, x1, x2, x3, x4, x5⟩ := refS O' t' B b1 b2 b3
          rw [if_neg hE] at x1
          have ca := c_isAt (d := d + 9) (K := K) (O := O') (t := t') (ar := ar) (A := B2) (lo := 59) (hi := 59) (zTr_lf b1 x2) x3 (by omega) (by omega) (by omega)
          refine ⟨B2, ?_, x2, x3, x4, x5⟩
          rw [x1, i224_58, ca, mB1_i]
          rcases g2 with q | q
          · have : ¬ zSi T n p1 59 := fun z => by have := g3.2 z; omega
            rw [if_neg (fun z => this ⟨z.1, by omega⟩), i224_66 (by omega), if_pos rfl, if_pos q, i224_69]
          · have hz := g3.1 q
            rw [if_pos ⟨hz.1, by rw [hz.2]; decide, by rw [hz.2]; decide⟩, i224_66 (by omega), if_neg (by omega), if_neg (by omega)]
        rcases g2 with g0 | g0
        · rw [if_pos g0] at cls
          refine ⟨A1, zBg T n p1, h, cls, by omega, e5, e6, fun q => by omega, fun O' t' B b1 b2 b3 => ?_⟩
          obtain ⟨B2, x1, x2, x3, x4, x5⟩ := refT O' t' B b1 b2 b3
          rw [if_pos g0] at x1
          exact ⟨B2, -1, x1, x2, fun q => by omega, fun _ => ⟨rfl, x4⟩⟩
        · rw [if_neg (by omega)] at cls
          have hz := g3.1 g0
          have hbe := (zSi_kd hp1.2 (by decide) hz).2
          obtain ⟨C, v1, v2, v3, v4, v5⟩ := c_advance (d := d + 8) (K := K) (O := O) (t := t) (ar := ar) (A := A1) hx1 hk1.2.1 (by omega)
          obtain ⟨A2, f, h2, q1, q2, q3, q4, q5, q6⟩ := ih (ln + 1) (zBh T n p1) C h1 (by omega) (by omega) ⟨v3, by omega, v2, hwf1, zHR_same (fun c c1 c2 => v5 c (by omega)) hwf1 hr1⟩
          refine ⟨A2, f, h2, ?_, q2, q3, zKf_trans e6 (zKf_trans (fun c c1 _ _ _ => v5 c c1) q4), q5, fun O' t' B b1 b2 b3 => ?_⟩
          · rw [cls, i66h_73, v1, mB0_i, i66h_80]
            exact q1
          · obtain ⟨B2, x1, x2, x3, x4, x5⟩ := refT O' t' B b1 b2 b3
            rw [if_neg (by omega)] at x1
            obtain ⟨B3, r, z1, z2, z3, z4⟩ := q6 O' t' (zU B2 185 10 (zBg T n p1 + 1)) (zTr_fp (zTr_lf b1 x2) zFp_10) (by rw [zU_at, hbe]) (by rw [zU_r (by decide)]; exact x5)
            refine ⟨B3, r, ?_, zLf_trans x2 (zLf_trans (zLf_fp zFp_10) z2), z3, z4⟩
            rw [x1, i224_71, x3]
            exact z1
/-- both read a text of the hall -/
theorem hread_all (hS : zArs ar) {T : Int → Int} {n : Int} {h : Int → Int} (hx : zTx A T n) (hwf : zHWf h) (hr : zHR A 145 h) : ∃ (A' : Nat → Int → Int) (f : Int) (h' : Int → Int), mGd ar (d + 10) 66 0 [.ref 170, .int (zI 14), .double 0] [] (zW K A O t) = some (.inl (some (.int (zI f))), zW K A' O t) ∧ (f = -1 ∨ (0 ≤ f ∧ f ≤ n)) ∧ zKf A A' ∧ (∀ j, j = 1 → A' 1 j = A 1 j) ∧ (f = -1 → zHWf h' ∧ zHR A' 145 h') ∧ ∀ (O' : Nat → Int64) (t' : Nat) (B : Nat → Int → Int), B 185 9 = n → (∀ i, 0 ≤ i → i < n → B 191 i = zSb (T i) ∧ 0 ≤ T i ∧ T i ≤ 255) → B 186 = h → ∃ B' r, mGd ar (d + 11) 224 0 [.ref 185, .int (zI 1), .double 0] [] (zW K B O' t') = some (.inl (some (.int (zI r))), zW K B' O' t') ∧ (∀ j, j = 6 ∨ j = 7 ∨ j = 14 → B' 185 j = B 185 j) ∧ B' 185 0 = 0 ∧ B' 185 9 = 0 ∧ (∀ c, c ≠ 185 → c ≠ 186 → B' c = B c) ∧ (∀ i, i = 1 ∨ i = 2 ∨ 63 ≤ i → B' 186 i = B 186 i) ∧ (f = -1 → (0 ≤ r ∧ r ≤ 14) ∧ B' 186 = h') ∧ (f ≠ -1 → r = -1 ∧ B' 185 12 = f) := by
  have hn := hx.1
  obtain ⟨A1, v1, v2, v3, v4, v5⟩ := c_advance (d := d + 8) (K := K) (O := O) (t := t) (ar := ar) (A := zU A 1 4 0) (p := 0) (zTx_u hx (by simp (disch := first | assumption | omega) only [zU_at, zU_c, zU_s, zU_r]) (by simp (disch := first | assumption | omega) only [zU_at, zU_c, zU_s, zU_r])) zU_at (by omega)
  have kf1 : zKf A A1 := fun c c1 _ _ _ => by rw [v5 c c1, zU_r c1]
  have hr1 : zHR A1 145 h := zHR_same (fun c c1 c2 => by rw [v5 c (by omega), zU_r (by omega)]) hwf hr
  obtain ⟨s, s1, s2, s3⟩ := c_isEnd (d := d + 9) (K := K) (O := O) (t := t) (ar := ar) (A := A1) v2
  have hb := zBg_rng (T := T) (n := n) (p := 0) (by omega)
  have cls : mGd ar (d + 10) 66 0 [.ref 170, .int (zI 14), .double 0] [] (zW K A O t) = if s = 0 then mGd ar (d + 10) 66 21 [.ref 170, .int (zI 14), .int (zI 0)] [] (zW K A1 O t) else some (.inl (some (.int (zI (-1)))), zW K A1 O t) := by
    rw [i66h_0, i67_0, v1, mB0_i, i67_9, mB0_i, i66h_7, s1, mB1_i, i66h_14 (by omega)]
    rcases s2 with q | q
    · rw [if_pos q, if_pos q, i66h_19]
    · rw [if_neg (by omega), if_neg (by omega), i66h_17]
  have refS : ∀ (O' : Nat → Int64) (t' : Nat) (B : Nat → Int → Int), B 185 9 = n → (∀ i, 0 ≤ i → i < n → B 191 i = zSb (T i) ∧ 0 ≤ T i ∧ T i ≤ 255) → B 186 = h → ∃ B2, mGd ar (d + 11) 224 0 [.ref 185, .int (zI 1), .double 0] [] (zW K B O' t') = (if s = 0 then mGd ar (d + 11) 224 28 [.ref 185, .int (zI 1), .int (zI 0)] [] (zW K B2 O' t') else some (.inl (some (.int (zI 0))), zW K B2 O' t')) ∧ zTr B2 T n ∧ B2 185 10 = zBg T n 0 ∧ B2 185 0 = 0 ∧ B2 185 9 = 0 ∧ (∀ j, j = 6 ∨ j = 7 ∨ j = 14 → B2 185 j = B 185 j) ∧ (∀ c, c ≠ 185 → B2 c = B c) := fun O' t' B b1 b2 b3 => by
    have e9 : (zU B 185 0 0) 185 9 = n := by rw [zU_s (by decide), b1]
    generalize hB1 : zU (zU (zU (zU (zU B 185 0 0) 185 11 n) 185 9 0) 185 10 0) 185 16 0 = B1
    have tr1 : zTr B1 T n := ⟨hn, by rw [← hB1]; simp (disch := first | assumption | omega) only [zU_at, zU_c, zU_s, zU_r], fun i i0 i1 => by rw [← hB1, zU_r (by decide), zU_r (by decide), zU_r (by decide), zU_r (by decide), zU_r (by decide)]; exact b2 i i0 i1⟩
    obtain ⟨B2, y1, y2, y3, y4⟩ := c_blanks (d := d + 9) (K := K) (O := O') (t := t') (ar := ar) (A := B1) (p := 0) tr1 (by rw [← hB1]; simp (disch := first | assumption | omega) only [zU_at, zU_c, zU_s, zU_r]) (by omega)
    have y11 : B2 185 11 = n := by rw [y4.1 11 (by decide) (by decide), tr1.2.1]
    refine ⟨B2, ?_, zTr_fp tr1 y4, y2, by rw [y4.1 0 (by decide) (by decide), ← hB1]; simp (disch := first | assumption | omega) only [zU_at, zU_c, zU_s, zU_r], by rw [y4.1 9 (by decide) (by decide), ← hB1]; simp (disch := first | assumption | omega) only [zU_at, zU_c, zU_s, zU_r], fun j hj => by rw [y4.1 j (by omega) (by omega), ← hB1, zU_s (by omega), zU_s (by omega), zU_s (by omega), zU_s (by omega), zU_s (by omega)], fun c hc => by rw [y4.2 c hc, ← hB1, zU_r hc, zU_r hc, zU_r hc, zU_r hc, zU_r hc]⟩
    rw [i224_0, i225_0, e9, mB0_i, i224_4, hB1, y1, mB0_i, i224_13 (by omega) (by omega), y2, y11]
    rcases s2 with q | q
    · have : ¬ zBg T n 0 = n := fun z => by have := s3.2 ((zKd_0 (by omega)).2 z); omega
      rw [if_neg this, if_pos q, i224_26]
    · rw [if_pos ((zKd_0 (by omega)).1 (s3.1 q)), if_neg (by omega), i224_24]
  rcases s2 with s0 | s0
  · rw [if_pos s0] at cls
    obtain ⟨A2, f, h2, q1, q2, q3, q4, q5, q6⟩ := hread_loop (d := d + 1) (K := K) (O := O) (t := t) (ar := ar) hS 14 0 (zBg T n 0) A1 h (by omega) (by omega) ⟨v3, by omega, zTk_bg (by omega) v2, hwf, hr1⟩
    refine ⟨A2, f, h2, by rw [cls]; exact q1, q2, zKf_trans kf1 q4, fun j hj => by rw [hj, q3.2.1, hx.2.1], q5, fun O' t' B b1 b2 b3 => ?_⟩
    obtain ⟨B2, x1, x2, x3, x4, x5, x6, x7⟩ := refS O' t' B b1 b2 b3
    rw [if_pos s0] at x1
    obtain ⟨B3, r, z1, z2, z3, z4⟩ := q6 O' t' B2 x2 x3 (by rw [x7 186 (by decide), b3])
    exact ⟨B3, r, by rw [x1]; exact z1, fun j hj => by rw [z2.1 j (by omega) (by omega), x6 j hj], by rw [z2.1 0 (by decide) (by decide), x4], by rw [z2.1 9 (by decide) (by decide), x5], fun c c1 c2 => by rw [z2.2.1 c c1 c2, x7 c c1], fun i hi => by rw [z2.2.2 i hi, x7 186 (by decide)], z3, z4⟩
  · rw [if_neg (by omega)] at cls
    refine ⟨A1, -1, h, cls, by omega, kf1, fun j hj => by rw [hj, v3.2.1, hx.2.1], fun _ => ⟨hwf, hr1⟩, fun O' t' B b1 b2 b3 => ?_⟩
    obtain ⟨B2, x1, x2, x3, x4, x5, x6, x7⟩ := refS O' t' B b1 b2 b3
    rw [if_neg (by omega)] at x1
    exact ⟨B2, 0, x1, x6, x4, x5, fun c c1 _ => x7 c c1, fun i _ => by rw [x7 186 (by decide)], fun _ => ⟨by omega, by rw [x7 186 (by decide), b3]⟩, fun q => absurd rfl q⟩
theorem rkeep_loop : ∀ (m : Nat) (x : Int) (B : Nat → Int → Int) (v2 : Value), x + m = 1272 → 0 ≤ x → (∀ c, c ≠ 188 → B c = A c) → (∀ i, 0 ≤ i → i < x → B 188 i = A 186 i) → ∃ C, mGd ar (d) 223 2 [.ref 185, .int (zI x), v2] [] (zW K B O t) = mGd ar (d) 223 27 [.ref 185, .int (zI 1272), v2] [] (zW K C O t) ∧ (∀ c, c ≠ 188 → C c = A c) ∧ (∀ i, 0 ≤ i → i < 1272 → C 188 i = A 186 i) := by
  intro m
  induction m with
  | zero =>
    intro x B v2 hm x0 hc hi
    have : x = 1272 := by omega
    subst this
    exact ⟨B, by rw [i223_2 (by omega), if_pos (by omega)], hc, hi⟩
  | succ m ih =>
    intro x B v2 hm x0 hc hi
    obtain ⟨C, q1, q2⟩ := ih (x + 1) (zU B 188 x (B 186 x)) v2 (by omega) (by omega) (fun c h => by rw [zU_r h, hc c h]) (fun i i0 i1 => by
      by_cases he : i = x
      · rw [he, zU_at, hc 186 (by decide)]
      · rw [zU_s he, hi i i0 (by omega)])
    exact ⟨C, by rw [← q1, i223_2 (by omega), if_neg (by omega), i223_9 (by omega) (by omega)], q2⟩
theorem rback_loop {x1 : Int} : ∀ (m : Nat) (x : Int) (B : Nat → Int → Int), x + m = 1272 → 0 ≤ x → (∀ c, c ≠ 186 → B c = A c) → (∀ i, 0 ≤ i → i < x → B 186 i = A 188 i) → (∀ i, i < 0 ∨ 1272 ≤ i → B 186 i = A 186 i) → ∃ C, mGd ar (d) 223 92 [.ref 185, .int (zI x1), .int (zI x)] [] (zW K B O t) = some (.inl (some (.int (zI 0))), zW K C O t) ∧ (∀ c, c ≠ 186 → C c = A c) ∧ (∀ i, 0 ≤ i → i < 1272 → C 186 i = A 188 i) ∧ (∀ i, i < 0 ∨ 1272 ≤ i → C 186 i = A 186 i) := by
  intro m
  induction m with
  | zero =>
    intro x B hm x0 hc hi ho
    have : x = 1272 := by omega
    subst this
    exact ⟨B, by rw [i223_92 (by omega), if_pos (by omega), i223_117], hc, hi, ho⟩
  | succ m ih =>
    intro x B hm x0 hc hi ho
    obtain ⟨C, q1, q2⟩ := ih (x + 1) (zU B 186 x (B 188 x)) (by omega) (by omega) (fun c h => by rw [zU_r h, hc c h]) (fun i i0 i1 => by
      by_cases he : i = x
      · rw [he, zU_at, hc 188 (by decide)]
      · rw [zU_s he, hi i i0 (by omega)]) (fun i h => by rw [zU_s (by omega), ho i h])
    exact ⟨C, by rw [← q1, i223_92 (by omega), if_neg (by omega), i223_99 (by omega) (by omega)], q2⟩
end HALLT
