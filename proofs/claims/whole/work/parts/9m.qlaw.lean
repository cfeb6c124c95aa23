/-! TEXTS, 17: law -/
theorem zHW0_law {h : Int → Int} (hw : zHW0 h) : zHW0 (zPt h 2 1) := by
  have f : ∀ i, i ≠ 2 → zPt h 2 1 i = h i := fun i hi => zPt_ne hi
  obtain ⟨w0, w1, w2, w3, w4, wr, wm, wn, ww, ws⟩ := hw
  unfold zHW0
  rw [f 0 (by omega), f 1 (by omega), zPt_at, f 3 (by omega), f 4 (by omega)]
  refine ⟨w0, w1, Or.inr rfl, w3, w4, fun j h1 h2 => ?_, fun j h1 h2 => ?_, fun q j h1 h2 h3 h4 => ?_, fun q h1 h2 => ?_, fun q h1 h2 => ?_⟩
  · rw [f _ (by omega)]; exact wr j h1 h2
  · rw [f _ (by omega)]; exact wm j h1 h2
  · rw [f _ (by omega)]; exact wn q j h1 h2 h3 h4
  · rw [f _ (by omega)]; exact ww q h1 h2
  · rw [f _ (by omega)]; exact ws q h1 h2
theorem zHR0_law {A : Nat → Int → Int} {h : Int → Int} (hw : zHW0 h) (hr : zHR0 A 3 h) : zHR0 A 3 (zPt h 2 1) := by
  have f : ∀ i, i ≠ 2 → zPt h 2 1 i = h i := fun i hi => zPt_ne hi
  obtain ⟨r0, r9, r7, r6, r8, rr, rm, rn, rw', ⟨s1, s2⟩⟩ := hr
  have w0 := hw.1
  unfold zHR0 zStub
  rw [f 0 (by omega), f 1 (by omega), f 3 (by omega), f 4 (by omega), f 6 (by omega)]
  refine ⟨r0, r9, r7, r6, r8, fun j h1 h2 => ?_, fun j h1 h2 => ?_, fun q j h1 h2 h3 h4 => ?_, fun q h1 h2 => ?_, ⟨s1, fun q h1 h2 => ?_⟩⟩
  · rw [f _ (by omega)]; exact rr j h1 h2
  · rw [f _ (by omega)]; exact rm j h1 h2
  · rw [f _ (by omega)]; exact rn q j h1 h2 h3 h4
  · rw [f _ (by omega)]; exact rw' q h1 h2
  · rw [f _ (by omega)]; exact s2 q h1 h2
section QLAW
variable {ar : Nat → Nat × (Nat → Int32)} {d t : Nat} {K : Nat → Nat → Option Nat} {A : Nat → Int → Int} {O : Nat → Int64}
theorem lread_loop (hS : zArs ar) {T : Int → Int} {n : Int} : ∀ (m : Nat) (p : Int) (A : Nat → Int → Int) (L : zLines), (L.length : Int) + m = 12 → zCw A T n p L → ∃ (A' : Nat → Int → Int) (f p' : Int) (L' : zLines), mGd ar (d + 62) 66 21 [.ref 172, .int (zI 12), .int (zI ((L.length : Int)))] [] (zW K A O t) = some (.inl (some (.int (zI f))), zW K A' O t) ∧ (f = -1 ∨ (0 ≤ f ∧ f ≤ n)) ∧ zTx A' T n ∧ zKw A A' ∧ (f = -1 → zCw A' T n p' L') ∧ ∀ (O' : Nat → Int64) (t' : Nat) (B : Nat → Int → Int), zRw2 B T n p L → ∃ B' r, mGd ar (d + 63) 224 28 [.ref 185, .int (zI 0), .int (zI (L.length : Int))] [] (zW K B O' t') = some (.inl (some (.int (zI r))), zW K B' O' t') ∧ zLw B B' ∧ (f = -1 → r = L'.length ∧ zLwR (fun i => B' 186 (i + 849)) 0 0 L') ∧ (f ≠ -1 → r = -1 ∧ B' 185 12 = f) := by
  intro m
  induction m with
  | zero =>
    intro p A L hm hC
    obtain ⟨hx, hp, hk, -⟩ := hC
    have hb := zBg_rng (T := T) hp.2
    refine ⟨A, zBg T n p, 0, [], by rw [i66l_21 (by omega) (by omega), if_pos (by omega), i66l_86, hk.1], by omega, hx, zKw_refl, fun q => by omega, fun O' t' B hB => ?_⟩
    obtain ⟨B2, y1, y2, y3, y4⟩ := c_letters (d := d + 59) (K := K) (O := O') (t := t') (ar := ar) (A := B) hB.1 hB.2.1 hp
    refine ⟨B2, -1, ?_, zLw_fp y4, fun q => by omega, fun _ => ⟨rfl, y3⟩⟩
    rw [i224_28, i228_0, y1, mB0_i, i228_4 (by omega), if_pos rfl, i228_14, i228_16 (by omega) (by omega), if_pos (by omega), i228_45, i228_46 (by omega), mB1_i, i224_34 (by omega), if_pos rfl, i224_37]
  | succ m ih =>
    intro p A L hm hC
    obtain ⟨A1, r, p1, L1, e1, e2, e3, e4, e5, e6, e7⟩ := pair_lline (d := d) (K := K) (O := O) (t := t) (ar := ar) hS hC (by omega)
    rcases e2 with r0 | r0
    · subst r0
      have hf := e4 rfl
      refine ⟨A1, A1 1 3, 0, [], ?_, by omega, e5, e6, fun q => by omega, fun O' t' B hB => ?_⟩
      · rw [i66l_21 (by omega) (by omega), if_neg (by omega), i66l_26, e1, mB1n_i, i66l_30 (by omega), if_pos rfl, i66l_33]
      · obtain ⟨B', x1, x2, x3, x4⟩ := e7 O' t' B hB
        refine ⟨B', -1, ?_, x2, fun q => by omega, fun _ => ⟨rfl, x4 rfl⟩⟩
        rw [i224_28, x1, mB1_i, i224_34 (by omega), if_pos rfl, i224_37]
    · subst r0
      obtain ⟨hC1, hLL⟩ := e3 rfl
      obtain ⟨hx1, hp1, hk1, k1, k2, k3, k4, k5, k6⟩ := id hC1
      have hb1 := zBg_rng (T := T) hp1.2
      have hbh1 := zBh_rng (T := T) hp1.2
      have hn := hx1.1
      obtain ⟨s, s1, s2, s3⟩ := c_isEnd (d := d + 61) (K := K) (O := O) (t := t) (ar := ar) (A := A1) hk1
      have refS : ∀ (O' : Nat → Int64) (t' : Nat) (B : Nat → Int → Int), zRw2 B T n p L → ∃ B2, mGd ar (d + 63) 224 28 [.ref 185, .int (zI 0), .int (zI (L.length : Int))] [] (zW K B O' t') = (if zBg T n p1 = n then some (.inl (some (.int (zI ((L.length : Int) + 1)))), zW K B2 O' t') else mGd ar (d + 63) 224 58 [.ref 185, .int (zI 0), .int (zI (L.length : Int))] [] (zW K B2 O' t')) ∧ zLw B B2 ∧ B2 185 12 = zBg T n p1 ∧ zRw2 B2 T n (zBg T n p1) L1 := fun O' t' B hB => by
        obtain ⟨B', x1, x2, x3, x4⟩ := e7 O' t' B hB
        obtain ⟨x5, x6, x7, x8⟩ := x3 rfl
        obtain ⟨B2, y1, y2, y3, y4⟩ := c_blanks (d := d + 61) (K := K) (O := O') (t := t') (ar := ar) (A := B') x5 x6 hp1
        have y11 : B2 185 11 = n := by rw [y4.1 11 (by decide) (by decide), x5.2.1]
        refine ⟨B2, ?_, zLw_trans x2 (zLw_fp y4), y3, zTr_fp x5 y4, y2, by rw [y4.1 16 (by decide) (by decide), x7], by rw [y4.2 186 (by decide)]; exact x8⟩
        rw [i224_28, x1, mB1_i, i224_34 (by omega), if_neg (by omega), i224_39, y1, mB0_i, i224_43 (by omega) (by omega), y2, y11, i224_54]
      by_cases hE : zBg T n p1 = n
      · have es : s = 1 := s3.2 ((zKd_0 hp1.2).2 hE)
        refine ⟨A1, -1, p1, L1, ?_, by omega, e5, e6, fun _ => hC1, fun O' t' B hB => ?_⟩
        · rw [i66l_21 (by omega) (by omega), if_neg (by omega), i66l_26, e1, mB1n_i, i66l_30 (by omega), if_neg (by omega), i66l_41, s1, mB1_i, i66l_48 (by omega), if_neg (by omega), i66l_51]
        · obtain ⟨B2, x1, x2, x3, x4⟩ := refS O' t' B hB
          rw [if_pos hE] at x1
          exact ⟨B2, (L.length : Int) + 1, x1, x2, fun _ => ⟨by omega, x4.2.2.2⟩, fun q => absurd rfl q⟩
      · have es : s = 0 := by
          rcases s2 with q | q
          · exact q
          · exact absurd ((zKd_0 hp1.2).1 (s3.1 q)) hE
        obtain ⟨g, g1, g2, g3⟩ := c_isSign (d := d + 61) (K := K) (O := O) (t := t) (ar := ar) (A := A1) (c := 59) hx1 hk1 hp1 (by decide)
        have cls : mGd ar (d + 62) 66 21 [.ref 172, .int (zI 12), .int (zI ((L.length : Int)))] [] (zW K A O t) = if g = 0 then some (.inl (some (.int (zI (zBg T n p1)))), zW K A1 O t) else mGd ar (d + 62) 66 73 [.ref 172, .int (zI 12), .int (zI ((L.length : Int)))] [] (zW K A1 O t) := by
          rw [i66l_21 (by omega) (by omega), if_neg (by omega), i66l_26, e1, mB1n_i, i66l_30 (by omega), if_neg (by omega), i66l_41, s1, mB1_i, i66l_48 (by omega), if_pos es, i66l_53, g1, mB1_i, i66l_62 (by omega), i66l_65, hk1.1]
        have refT : ∀ (O' : Nat → Int64) (t' : Nat) (B : Nat → Int → Int), zRw2 B T n p L → ∃ B2, mGd ar (d + 63) 224 28 [.ref 185, .int (zI 0), .int (zI (L.length : Int))] [] (zW K B O' t') = (if g = 0 then some (.inl (some (.int (zI (-1)))), zW K B2 O' t') else mGd ar (d + 63) 224 71 [.ref 185, .int (zI 0), .int (zI (L.length : Int))] [] (zW K B2 O' t')) ∧ zLw B B2 ∧ B2 185 12 = zBg T n p1 ∧ zRw2 B2 T n (zBg T n p1) L1 := fun O' t' B hB => by
          obtain ⟨B2, x1, x2, x3, x4⟩ := refS O' t' B hB
          rw [if_neg hE] at x1
          have ca := c_isAt (d := d + 62) (K := K) (O := O') (t := t') (ar := ar) (A := B2) (lo := 59) (hi := 59) x4.1 x4.2.1 (by omega) (by omega) (by omega)
          refine ⟨B2, ?_, x2, x3, x4⟩
          rw [x1, i224_58, ca, mB1_i]
          rcases g2 with q | q
          · have : ¬ zSi T n p1 59 := fun z => by have := g3.2 z; omega
            rw [if_neg (fun z => this ⟨z.1, by omega⟩), i224_66 (by omega), if_pos rfl, if_pos q, i224_69]
          · have hz := g3.1 q
            rw [if_pos ⟨hz.1, by rw [hz.2]; decide, by rw [hz.2]; decide⟩, i224_66 (by omega), if_neg (by omega), if_neg (by omega)]
        rcases g2 with g0 | g0
        · rw [if_pos g0] at cls
          refine ⟨A1, zBg T n p1, 0, [], cls, by omega, e5, e6, fun q => by omega, fun O' t' B hB => ?_⟩
          obtain ⟨B2, x1, x2, x3, x4⟩ := refT O' t' B hB
          rw [if_pos g0] at x1
          exact ⟨B2, -1, x1, x2, fun q => by omega, fun _ => ⟨rfl, x3⟩⟩
        · rw [if_neg (by omega)] at cls
          have hz := g3.1 g0
          have hbe := (zSi_kd hp1.2 (by decide) hz).2
          obtain ⟨C, v1, v2, v3, v4, v5⟩ := c_advance (d := d + 61) (K := K) (O := O) (t := t) (ar := ar) (A := A1) hx1 hk1.2.1 (by omega)
          have hCC : zCw C T n (zBh T n p1) L1 := ⟨v3, by omega, v2, by rw [v5 163 (by decide)]; exact k1, by rw [v5 163 (by decide)]; exact k2, zLwC_cg (A := A1) (fun i _ _ => ⟨by rw [v5 (163 + 1) (by decide)], by rw [v5 (163 + 2) (by decide)], by rw [v5 (163 + 3) (by decide)]⟩) (fun i _ _ => by rw [v5 (163 + 4) (by decide)]) k3, k4, k5, by omega⟩
          obtain ⟨A2, f, p2, L2, q1, q2, q3, q4, q5, q6⟩ := ih (zBh T n p1) C L1 (by omega) hCC
          refine ⟨A2, f, p2, L2, ?_, q2, q3, zKw_trans e6 (zKw_trans (zKw_1 (fun c c1 _ => v5 c c1)) q4), q5, fun O' t' B hB => ?_⟩
          · rw [cls, i66l_73, v1, mB0_i, i66l_80, show (L.length : Int) + 1 = (L1.length : Int) by omega]
            exact q1
          · obtain ⟨B2, x1, x2, x3, x4⟩ := refT O' t' B hB
            rw [if_neg (by omega)] at x1
            obtain ⟨B3, r, z1, z2, z3, z4⟩ := q6 O' t' (zU B2 185 10 (zBg T n p1 + 1)) ⟨zTr_fp x4.1 zFp_10, by rw [zU_at, hbe], by rw [zU_s (by decide)]; exact x4.2.2.1, by rw [zU_r (by decide)]; exact x4.2.2.2⟩
            refine ⟨B3, r, ?_, zLw_trans x2 (zLw_trans (zLw_fp zFp_10) z2), z3, z4⟩
            rw [x1, i224_71, x4.2.1, show (L.length : Int) + 1 = (L1.length : Int) by omega]
            exact z1
/-- both read a text of the law -/
theorem lread_all (hS : zArs ar) {T : Int → Int} {n : Int} (hx : zTx A T n) (h1 : A 163 1 = 0) (h2 : A 163 2 = 0) : ∃ (A' : Nat → Int → Int) (f p' : Int) (L' : zLines), mGd ar (d + 63) 66 0 [.ref 172, .int (zI 12), .double 0] [] (zW K A O t) = some (.inl (some (.int (zI f))), zW K A' O t) ∧ (f = -1 ∨ (0 ≤ f ∧ f ≤ n)) ∧ zKw A A' ∧ (f = -1 → zCw A' T n p' L') ∧ ∀ (O' : Nat → Int64) (t' : Nat) (B : Nat → Int → Int), B 185 9 = n → (∀ i, 0 ≤ i → i < n → B 191 i = zSb (T i) ∧ 0 ≤ T i ∧ T i ≤ 255) → ∃ B' r, mGd ar (d + 64) 224 0 [.ref 185, .int (zI 0), .double 0] [] (zW K B O' t') = some (.inl (some (.int (zI r))), zW K B' O' t') ∧ (∀ j, j = 6 ∨ j = 7 ∨ j = 14 → B' 185 j = B 185 j) ∧ B' 185 0 = 0 ∧ B' 185 9 = 0 ∧ (∀ c, c ≠ 185 → c ≠ 186 → B' c = B c) ∧ (∀ i, i < 1273 → B' 186 i = B 186 i) ∧ (f = -1 → r = L'.length ∧ zLwR (fun i => B' 186 (i + 849)) 0 0 L') ∧ (f ≠ -1 → r = -1 ∧ B' 185 12 = f) := by
  have hn := hx.1
  obtain ⟨A1, v1, v2, v3, v4, v5⟩ := c_advance (d := d + 61) (K := K) (O := O) (t := t) (ar := ar) (A := zU A 1 4 0) (p := 0) (zTx_u hx (by simp (disch := first | assumption | omega) only [zU_at, zU_c, zU_s, zU_r]) (by simp (disch := first | assumption | omega) only [zU_at, zU_c, zU_s, zU_r])) zU_at (by omega)
  have kf1 : zKw A A1 := zKw_1 (fun c c1 _ => by rw [v5 c c1, zU_r c1])
  obtain ⟨s, s1, s2, s3⟩ := c_isEnd (d := d + 62) (K := K) (O := O) (t := t) (ar := ar) (A := A1) v2
  have hb := zBg_rng (T := T) (n := n) (p := 0) (by omega)
  have c1 : A1 163 1 = 0 := by rw [v5 163 (by decide), zU_r (by decide), h1]
  have c2 : A1 163 2 = 0 := by rw [v5 163 (by decide), zU_r (by decide), h2]
  have cls : mGd ar (d + 63) 66 0 [.ref 172, .int (zI 12), .double 0] [] (zW K A O t) = if s = 0 then mGd ar (d + 63) 66 21 [.ref 172, .int (zI 12), .int (zI 0)] [] (zW K A1 O t) else some (.inl (some (.int (zI (-1)))), zW K A1 O t) := by
    rw [i66l_0, i67_0, v1, mB0_i, i67_9, mB0_i, i66l_7, s1, mB1_i, i66l_14 (by omega)]
    rcases s2 with q | q
    · rw [if_pos q, if_pos q, i66l_19]
    · rw [if_neg (by omega), if_neg (by omega), i66l_17]
  have refS : ∀ (O' : Nat → Int64) (t' : Nat) (B : Nat → Int → Int), B 185 9 = n → (∀ i, 0 ≤ i → i < n → B 191 i = zSb (T i) ∧ 0 ≤ T i ∧ T i ≤ 255) → ∃ B2, mGd ar (d + 64) 224 0 [.ref 185, .int (zI 0), .double 0] [] (zW K B O' t') = (if s = 0 then mGd ar (d + 64) 224 28 [.ref 185, .int (zI 0), .int (zI 0)] [] (zW K B2 O' t') else some (.inl (some (.int (zI 0))), zW K B2 O' t')) ∧ zTr B2 T n ∧ B2 185 10 = zBg T n 0 ∧ B2 185 16 = 0 ∧ B2 185 0 = 0 ∧ B2 185 9 = 0 ∧ (∀ j, j = 6 ∨ j = 7 ∨ j = 14 → B2 185 j = B 185 j) ∧ (∀ c, c ≠ 185 → B2 c = B c) := fun O' t' B b1 b2 => by
    have e9 : (zU B 185 0 0) 185 9 = n := by rw [zU_s (by decide), b1]
    generalize hB1 : zU (zU (zU (zU (zU B 185 0 0) 185 11 n) 185 9 0) 185 10 0) 185 16 0 = B1
    have tr1 : zTr B1 T n := ⟨hn, by rw [← hB1]; simp (disch := first | assumption | omega) only [zU_at, zU_c, zU_s, zU_r], fun i i0 i1 => by rw [← hB1, zU_r (by decide), zU_r (by decide), zU_r (by decide), zU_r (by decide), zU_r (by decide)]; exact b2 i i0 i1⟩
    obtain ⟨B2, y1, y2, y3, y4⟩ := c_blanks (d := d + 62) (K := K) (O := O') (t := t') (ar := ar) (A := B1) (p := 0) tr1 (by rw [← hB1]; simp (disch := first | assumption | omega) only [zU_at, zU_c, zU_s, zU_r]) (by omega)
    have y11 : B2 185 11 = n := by rw [y4.1 11 (by decide) (by decide), tr1.2.1]
    refine ⟨B2, ?_, zTr_fp tr1 y4, y2, by rw [y4.1 16 (by decide) (by decide), ← hB1]; simp (disch := first | assumption | omega) only [zU_at, zU_c, zU_s, zU_r], by rw [y4.1 0 (by decide) (by decide), ← hB1]; simp (disch := first | assumption | omega) only [zU_at, zU_c, zU_s, zU_r], by rw [y4.1 9 (by decide) (by decide), ← hB1]; simp (disch := first | assumption | omega) only [zU_at, zU_c, zU_s, zU_r], fun j hj => by rw [y4.1 j (by omega) (by omega), ← hB1, zU_s (by omega), zU_s (by omega), zU_s (by omega), zU_s (by omega), zU_s (by omega)], fun c hc => by rw [y4.2 c hc, ← hB1, zU_r hc, zU_r hc, zU_r hc, zU_r hc, zU_r hc]⟩
    rw [i224_0, i225_0, e9, mB0_i, i224_4, hB1, y1, mB0_i, i224_13 (by omega) (by omega), y2, y11]
    rcases s2 with q | q
    · have : ¬ zBg T n 0 = n := fun z => by have := s3.2 ((zKd_0 (by omega)).2 z); omega
      rw [if_neg this, if_pos q, i224_26]
    · rw [if_pos ((zKd_0 (by omega)).1 (s3.1 q)), if_neg (by omega), i224_24]
  rcases s2 with s0 | s0
  · rw [if_pos s0] at cls
    obtain ⟨A2, f, p2, L2, q1, q2, q3, q4, q5, q6⟩ := lread_loop (d := d + 1) (K := K) (O := O) (t := t) (ar := ar) hS 12 (zBg T n 0) A1 [] (by rfl) ⟨v3, by omega, zTk_bg (by omega) v2, by rw [c1]; rfl, by rw [c2]; rfl, trivial, trivial, by decide, by show (0 : Int) ≤ _; omega⟩
    refine ⟨A2, f, p2, L2, by rw [cls]; exact q1, q2, zKw_trans kf1 q4, q5, fun O' t' B b1 b2 => ?_⟩
    obtain ⟨B2, x1, x2, x3, x4, x5, x6, x7, x8⟩ := refS O' t' B b1 b2
    rw [if_pos s0] at x1
    obtain ⟨B3, r, z1, z2, z3, z4⟩ := q6 O' t' B2 ⟨x2, x3, by rw [x4]; rfl, trivial⟩
    exact ⟨B3, r, by rw [x1]; exact z1, fun j hj => by rw [z2.1 j (by omega) (by omega) (by omega) (by omega), x7 j hj], by rw [z2.1 0 (by decide) (by decide) (by decide) (by decide), x5], by rw [z2.1 9 (by decide) (by decide) (by decide) (by decide), x6], fun c c1 c2 => by rw [z2.2.1 c c1 c2, x8 c c1], fun i hi => by rw [z2.2.2 i hi, x8 186 (by decide)], z3, z4⟩
  · rw [if_neg (by omega)] at cls
    refine ⟨A1, -1, 0, [], cls, by omega, kf1, fun _ => ⟨v3, by omega, v2, by rw [c1]; rfl, by rw [c2]; rfl, trivial, trivial, by decide, by show (0 : Int) ≤ 0; omega⟩, fun O' t' B b1 b2 => ?_⟩
    obtain ⟨B2, x1, x2, x3, x4, x5, x6, x7, x8⟩ := refS O' t' B b1 b2
    rw [if_neg (by omega)] at x1
    exact ⟨B2, 0, x1, x7, x5, x6, fun c c1 _ => x8 c c1, fun i _ => by rw [x8 186 (by decide)], fun _ => ⟨rfl, trivial⟩, fun q => absurd rfl q⟩
theorem rlaw_loop {x1 : Int} : ∀ (m : Nat) (x : Int) (B : Nat → Int → Int), x + m = 849 → 0 ≤ x → (∀ c, c ≠ 186 → B c = A c) → (∀ i, 0 ≤ i → i < x → B 186 (423 + i) = A 186 (1272 + i)) → (∀ i, i < 423 ∨ 1272 ≤ i → B 186 i = A 186 i) → ∃ C, mGd ar (d) 253 52 [.ref 185, .int (zI x1), .int (zI x)] [] (zW K B O t) = some (.inl (some (.int (zI x1))), zW K (zU (zU C 186 2 1) 185 7 0) O t) ∧ (∀ c, c ≠ 186 → C c = A c) ∧ (∀ i, 0 ≤ i → i < 849 → C 186 (423 + i) = A 186 (1272 + i)) ∧ (∀ i, i < 423 ∨ 1272 ≤ i → C 186 i = A 186 i) := by
  intro m
  induction m with
  | zero =>
    intro x B hm x0 hc hi ho
    have : x = 849 := by omega
    subst this
    exact ⟨B, by rw [i253_52 (by omega), if_pos (by omega), i253_85], hc, hi, ho⟩
  | succ m ih =>
    intro x B hm x0 hc hi ho
    obtain ⟨C, q1, q2⟩ := ih (x + 1) (zU B 186 (423 + x) (B 186 (1272 + x))) (by omega) (by omega) (fun c h => by rw [zU_r h, hc c h]) (fun i i0 i1 => by
      by_cases he : i = x
      · rw [he, zU_at, ho _ (by omega)]
      · rw [zU_s (by omega), hi i i0 (by omega)]) (fun i h => by rw [zU_s (by omega), ho i h])
    exact ⟨C, by rw [← q1, i253_52 (by omega), if_neg (by omega), i253_59 (by omega) (by omega)], q2⟩
end QLAW
