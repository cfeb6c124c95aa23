/-! TEXTS, 6: a line that tells a person -/
theorem zB_hi {n s : Int} (hn : 0 ≤ n ∧ n < 8) (hs : 0 ≤ s ∧ s ≤ zAll n) : zB s n = false ∧ zAll n ≤ zAll (n + 1) := by
  have h : ∀ n : Fin 8, ∀ s : Fin 256, (s.val : Int) ≤ zAll (n.val : Int) → zB (s.val : Int) (n.val : Int) = false ∧ zAll (n.val : Int) ≤ zAll ((n.val : Int) + 1) := by decide +kernel
  have hl := zAll_lt (n := n) (by omega)
  have := h ⟨n.toNat, by omega⟩ ⟨s.toNat, by omega⟩
  simp only [Int.toNat_of_nonneg hs.1, Int.toNat_of_nonneg hn.1] at this
  exact this hs.2
/-- a row when one has come -/
def zJo (h w : Int → Int) (g i : Int) : Int := if i = 0 then h 0 + 1 else if i = 15 + 6 * h 0 + 5 then 0 else if i = 15 + 6 * h 0 + 4 then g else if 15 + 6 * h 0 ≤ i ∧ i < 15 + 6 * h 0 + 4 then w (i - (15 + 6 * h 0)) else h i
theorem zJo_old {h w : Int → Int} {g i : Int} (h1 : i ≠ 0) (h2 : i < 15 + 6 * h 0 ∨ 15 + 6 * h 0 + 6 ≤ i) : zJo h w g i = h i := by
  unfold zJo
  rw [if_neg h1, if_neg (by omega), if_neg (by omega), if_neg (by omega)]
theorem zJo_0 {h w : Int → Int} {g : Int} : zJo h w g 0 = h 0 + 1 := if_pos rfl
theorem zJo_w {h w : Int → Int} {g j : Int} (h0 : 0 ≤ h 0) (hj : 0 ≤ j ∧ j < 4) : zJo h w g (15 + 6 * h 0 + j) = w j := by
  unfold zJo
  rw [if_neg (by omega), if_neg (by omega), if_neg (by omega), if_pos (by omega), show 15 + 6 * h 0 + j - (15 + 6 * h 0) = j by omega]
theorem zJo_g {h w : Int → Int} {g : Int} (h0 : 0 ≤ h 0) : zJo h w g (15 + 6 * h 0 + 4) = g := by
  unfold zJo
  rw [if_neg (by omega), if_neg (by omega), if_pos rfl]
theorem zJo_s {h w : Int → Int} {g : Int} (h0 : 0 ≤ h 0) : zJo h w g (15 + 6 * h 0 + 5) = 0 := by
  unfold zJo
  rw [if_neg (by omega), if_pos rfl]
theorem zHW0_join {h w : Int → Int} {g : Int} (hw : zHW0 h) (h8 : h 0 < 8) (hww : ∀ j, 0 ≤ j → j < 4 → 0 ≤ w j ∧ w j ≤ 99) (hg : 1 ≤ g ∧ g ≤ 9) : zHW0 (zJo h w g) := by
  obtain ⟨w0, w1, w2, w3, w4, wr, wm, wn, ww, ws⟩ := hw
  have f : ∀ i, i < 15 → i ≠ 0 → zJo h w g i = h i := fun i hi h0 => zJo_old h0 (by omega)
  unfold zHW0
  rw [zJo_0, f 1 (by omega) (by omega), f 2 (by omega) (by omega), f 3 (by omega) (by omega), f 4 (by omega) (by omega)]
  refine ⟨by omega, w1, w2, w3, w4, fun j h1 h2 => ?_, fun j h1 h2 => ?_, fun q j h1 h2 h3 h4 => ?_, fun q h1 h2 => ?_, fun q h1 h2 => ?_⟩
  · rw [f _ (by omega) (by omega)]; exact wr j h1 h2
  · rw [f _ (by omega) (by omega)]; exact wm j h1 h2
  · by_cases hq : q = h 0
    · rw [hq, zJo_w w0.1 ⟨h3, h4⟩]; exact hww j h3 h4
    · rw [zJo_old (by omega) (by omega)]; exact wn q j h1 (by omega) h3 h4
  · by_cases hq : q = h 0
    · rw [hq, zJo_g w0.1]; exact hg
    · rw [zJo_old (by omega) (by omega)]; exact ww q h1 (by omega)
  · by_cases hq : q = h 0
    · rw [hq, zJo_s w0.1]; exact Or.inl rfl
    · rw [zJo_old (by omega) (by omega)]; exact ws q h1 (by omega)
section PERSON
variable {ar : Nat → Nat × (Nat → Int32)} {d t : Nat} {K : Nat → Nat → Option Nat} {A : Nat → Int → Int} {O : Nat → Int64}
theorem zHR0_join {h w : Int → Int} {g : Int} (w0 : 0 ≤ h 0 ∧ h 0 < 8) (hr : zHR0 A 145 h) (h171 : ∀ j, 0 ≤ j → j < 4 → A 171 j = w j) : zHR0 (zU (zU (zC A 171 146 0 (h 0 * 4) 4) 147 (h 0) g) 145 0 (h 0 + 1)) 145 (zJo h w g) := by
  obtain ⟨r0, r9, r7, r6, r8, rr, rm, rn, rw', ⟨s1, s2⟩⟩ := hr
  obtain ⟨z1, z2⟩ := zB_hi w0 s1
  generalize hB : zU (zU (zC A 171 146 0 (h 0 * 4) 4) 147 (h 0) g) 145 0 (h 0 + 1) = B
  have f : ∀ i, i < 15 → i ≠ 0 → zJo h w g i = h i := fun i hi h0 => zJo_old h0 (by omega)
  have b0 : B 145 0 = h 0 + 1 := by rw [← hB, zU_at]
  have bj : ∀ j, j ≠ 0 → B 145 j = A 145 j := fun j hj => by rw [← hB, zU_s hj, zU_r (by decide), zC_r (by decide)]
  have bc : ∀ c, c ≠ 145 → c ≠ 146 → c ≠ 147 → B c = A c := fun c c1 c2 c3 => by rw [← hB, zU_r c1, zU_r c3, zC_r c2]
  have bn : ∀ i, B 146 i = if h 0 * 4 ≤ i ∧ i < h 0 * 4 + 4 then A 171 (i - h 0 * 4) else A 146 i := fun i => by
    rw [← hB, zU_r (by decide), zU_r (by decide)]
    by_cases hi : h 0 * 4 ≤ i ∧ i < h 0 * 4 + 4
    · rw [zC_in hi, if_pos hi, Int.zero_add]
    · rw [zC_out hi, if_neg hi]
  have bw : ∀ i, B 147 i = if i = h 0 then g else A 147 i := fun i => by
    rw [← hB, zU_r (by decide)]
    by_cases hi : i = h 0
    · rw [hi, zU_at, if_pos rfl]
    · rw [zU_s hi, zC_r (by decide), if_neg hi]
  clear hB
  unfold zHR0 zStub
  rw [zJo_0, f 1 (by omega) (by omega), f 3 (by omega) (by omega), f 4 (by omega) (by omega), f 6 (by omega) (by omega), b0, bj 9 (by decide), bj 7 (by decide), bj 6 (by decide), bj 8 (by decide), bj 3 (by decide), bc (145 + 3) (by decide) (by decide) (by decide), bc (145 + 4) (by decide) (by decide) (by decide)]
  refine ⟨rfl, r9, r7, r6, r8, fun j h1 h2 => ?_, fun j h1 h2 => ?_, fun q j h1 h2 h3 h4 => ?_, fun q h1 h2 => ?_, ⟨by omega, fun q h1 h2 => ?_⟩⟩
  · rw [f _ (by omega) (by omega)]; exact rr j h1 h2
  · rw [f _ (by omega) (by omega)]; exact rm j h1 h2
  · show B 146 (q * 4 + j) = _
    rw [bn]
    by_cases hq : q = h 0
    · rw [if_pos (by omega), hq, zJo_w w0.1 ⟨h3, h4⟩, show h 0 * 4 + j - h 0 * 4 = j by omega, h171 j h3 h4]
    · rw [if_neg (by omega), zJo_old (by omega) (by omega)]; exact rn q j h1 (by omega) h3 h4
  · show B 147 q = _
    rw [bw]
    by_cases hq : q = h 0
    · rw [if_pos hq, hq, zJo_g w0.1]
    · rw [if_neg hq, zJo_old (by omega) (by omega)]; exact rw' q h1 (by omega)
  · by_cases hq : q = h 0
    · rw [hq, zJo_s w0.1, z1]; simp
    · rw [zJo_old (by omega) (by omega)]; exact s2 q h1 (by omega)
theorem pair_person (hS : zArs ar) {T : Int → Int} {n p : Int} {h : Int → Int} (hC : zCp A T n p h) (h8 : h 0 < 8) : zPh ar K O t (d + 6) 79 [.ref 170] (d + 7) 232 [.ref 185, .double 0, .double 0] A T n p h := by
  obtain ⟨hx, hp, hk, hwf, hr⟩ := hC
  have w0 := hwf.1.1
  have hn := hx.1
  obtain ⟨A1, r, p1, w, e1, e2, e3, e4, e5, e6, e7⟩ := four_loop (d := d + 3) (K := K) (O := O) (t := t) (ar := ar) (A := A) 4 0 p A (fun _ => 0) (by omega) (by omega) hx hk hp (fun _ _ _ _ => rfl) (fun j j0 j1 => by omega)
  have kf1 : zKf A A1 := fun c c1 _ c3 c4 => e6 c c1 c3 c4
  have refS : ∀ (O' : Nat → Int64) (t' : Nat) (B : Nat → Int → Int), zTr B T n → B 185 10 = p → B 186 = h → ∃ B1, mGd ar (d + 7) 232 0 [.ref 185, .double 0, .double 0] [] (zW K B O' t') = (if r = 0 then some (.inl (some (.int (zI 0))), zW K B1 O' t') else mGd ar (d + 7) 232 25 [.ref 185, .int (zI (h 0)), .double 0] [] (zW K B1 O' t')) ∧ zLf B B1 ∧ (r = 1 → B1 185 10 = p1 ∧ ∀ i, B1 186 i = if 15 + 6 * h 0 ≤ i ∧ i < 15 + 6 * h 0 + 4 then w (i - (15 + 6 * h 0)) else h i) ∧ (r = 0 → B1 185 12 = A1 1 3) := fun O' t' B b1 b2 b3 => by
    obtain ⟨B1, x1, x2, x3, x4, x5⟩ := e7 (15 + 6 * h 0) (.double 0) O' t' B (by omega) b1 b2
    have eb : B 186 0 = h 0 := by rw [b3]
    refine ⟨B1, ?_, ⟨x2, x3, fun i hi => ?_⟩, fun q => ⟨(x4 q).1, fun i => ?_⟩, fun q => (x5 q).1⟩
    · rw [i232_0, i233_0, mB1_i, eb, i232_4 (by omega), if_neg (by omega), i232_11, i234_0, mB1_i, show 15 + 6 * h 0 + 0 = 15 + 6 * h 0 by omega, i232_17, i235_0, x1, mB1_i, i232_20 (by omega)]
      rcases e2 with q | q
      · rw [if_pos q, if_pos q, i232_23]
      · rw [if_neg (by omega), if_neg (by omega)]
    · rcases e2 with q | q
      · exact (x5 q).2 i (by omega)
      · rw [(x4 q).2 i, if_neg (by omega)]
    · rw [(x4 q).2 i, b3, show 15 + 6 * h 0 + 0 = 15 + 6 * h 0 by omega]
  rcases e2 with r0 | r0
  · refine zPh_no (A' := A1) ?_ (e5 r0) e3 kf1 (fun O' t' B b1 b2 b3 => ?_)
    · rw [i79_0, i80_0, e1, mB1_i, i79_4 (by omega), if_pos r0, i79_19]
    · obtain ⟨B1, x1, x2, -, x4⟩ := refS O' t' B b1 b2 b3
      rw [if_pos r0] at x1
      exact ⟨B1, x1, x2, x4 r0⟩
  obtain ⟨hp1, hpp, hk1, -, hw1⟩ := e4 r0
  have hb1 := zBg_rng (T := T) hp1.2
  have hbh1 := zBh_rng (T := T) hp1.2
  obtain ⟨s, s1, s2, s3⟩ := c_isWord (d := d) (K := K) (O := O) (t := t) (ar := ar) (A := A1) hS (s := 1) (s' := 15) (by decide) zJw_tab.2.1 (by decide) e3 hk1 hp1
  have clsS : mGd ar (d + 6) 79 0 [.ref 170] [] (zW K A O t) = if s = 0 then some (.inl (some (.int (zI 0))), zW K A1 O t) else mGd ar (d + 6) 79 21 [.ref 170] [] (zW K A1 O t) := by
    rw [i79_0, i80_0, e1, mB1_i, i79_4 (by omega), if_neg (by omega), i79_7, s1, mB1_i, i79_16 (by omega), i79_19]
  have refT : ∀ (O' : Nat → Int64) (t' : Nat) (B : Nat → Int → Int), zTr B T n → B 185 10 = p → B 186 = h → ∃ B1, mGd ar (d + 7) 232 0 [.ref 185, .double 0, .double 0] [] (zW K B O' t') = (if s = 0 then some (.inl (some (.int (zI 0))), zW K B1 O' t') else mGd ar (d + 7) 232 38 [.ref 185, .int (zI (h 0)), .double 0] [] (zW K B1 O' t')) ∧ zLf B B1 ∧ B1 185 10 = zWe T n p1 ∧ B1 185 12 = zBg T n p1 ∧ (∀ i, B1 186 i = if 15 + 6 * h 0 ≤ i ∧ i < 15 + 6 * h 0 + 4 then w (i - (15 + 6 * h 0)) else h i) := fun O' t' B b1 b2 b3 => by
    obtain ⟨B1, x1, x2, x3, x4⟩ := refS O' t' B b1 b2 b3
    rw [if_neg (by omega)] at x1
    obtain ⟨x5, x6⟩ := x3 r0
    obtain ⟨B2, y1, y2, y3, y4⟩ := c_letters (d := d + 4) (K := K) (O := O') (t := t') (ar := ar) (A := B1) (zTr_lf b1 x2) x5 hp1
    obtain ⟨s', z1, z2, z3⟩ := c_rIsWord (d := d + 2) (K := K) (O := O') (t := t') (ar := ar) (A := B2) hS (s := 15) (by decide) (zTr_fp (zTr_lf b1 x2) y4) hp1 y3 y2
    have es : s' = s := by
      by_cases hi : zIs T n p1 15
      · rw [z3.2 hi, s3.2 hi]
      · have q1 : s' ≠ 1 := fun q => hi (z3.1 q)
        have q2 : s ≠ 1 := fun q => hi (s3.1 q)
        omega
    rw [es] at z1
    refine ⟨B2, ?_, zLf_trans x2 (zLf_fp y4), y2, y3, fun i => by rw [y4.2 186 (by decide), x6]⟩
    rw [x1, i232_25, y1, mB0_i, i232_29, z1, mB1_i, i232_35 (by omega)]
    rcases s2 with q | q
    · rw [if_pos q, if_pos q, i232_48, i232_49 (by omega), if_neg (by omega), i232_54]
    · rw [if_neg (by omega), if_neg (by omega)]
  rcases s2 with s0 | s0
  · rw [if_pos s0] at clsS
    refine zPh_no (A' := A1) clsS (by rw [hk1.1]; omega) e3 kf1 (fun O' t' B b1 b2 b3 => ?_)
    obtain ⟨B1, x1, x2, -, x4, -⟩ := refT O' t' B b1 b2 b3
    rw [if_pos s0] at x1
    exact ⟨B1, x1, x2, by rw [x4, hk1.1]⟩
  rw [if_neg (by omega)] at clsS
  have hbw : zBh T n p1 = zWe T n p1 := zIs_bh hp1.2 (by decide) (s3.1 s0)
  obtain ⟨A2, v1, v2, v3, v4, v5⟩ := c_advance (d := d + 5) (K := K) (O := O) (t := t) (ar := ar) (A := A1) e3 hk1.2.1 (by omega)
  have kf2 : zKf A A2 := zKf_trans kf1 (fun c c1 _ _ _ => v5 c c1)
  have hb2 := zBg_rng (T := T) (p := zBh T n p1) hbh1.2
  have hbh2 := zBh_rng (T := T) (p := zBh T n p1) hbh1.2
  rcases c_takeH (d := d + 4) (K := K) (O := O) (t := t) (ar := ar) (A := A2) (lo := 1) (hi := 9) v3 v2 (by omega) (by omega) with ⟨hN, A3, u1, u2, u3, u4, u5⟩ | ⟨hN, u1⟩
  · have hv : 1 ≤ zVl T n (zBh T n p1) ∧ zVl T n (zBh T n p1) ≤ 9 := ⟨hN.2.1, hN.2.2⟩
    have kf3 : zKf A A3 := zKf_trans kf2 (fun c c1 _ c3 _ => u5 c c1 c3)
    have hr3 : zHR A3 145 h := zHR_same (fun c c1 c2 => by rw [u5 c (by omega) (by omega), v5 c (by omega), e6 c (by omega) (by omega) (by omega)]) hwf hr
    have h171 : ∀ j, 0 ≤ j → j < 4 → A3 171 j = w j := fun j j0 j1 => by rw [u5 171 (by decide) (by decide), v5 171 (by decide), (hw1 j j0 j1).1]
    have m0 : A3 145 0 = h 0 := hr3.1.1
    have ev : ∀ i, 63 ≤ i → i < 423 → zJo h w (zVl T n (zBh T n p1)) i = h i := fun i i1 _ => zJo_old (by omega) (by omega)
    have e5' : zJo h w (zVl T n (zBh T n p1)) 5 = h 5 := zJo_old (by decide) (by omega)
    have hj := zHR0_join (w := w) (g := zVl T n (zBh T n p1)) (A := A3) ⟨w0.1, h8⟩ hr3.1 h171
    have hwj := zHW0_join (w := w) (g := zVl T n (zBh T n p1)) hwf.1 h8 (fun j j0 j1 => (hw1 j j0 j1).2) hv
    have hlog : zLog A3 145 (zJo h w (zVl T n (zBh T n p1))) := zLog_congr e5' ev hwf.2 hr3.2
    refine zPh_ok (A' := zU (zU (zC A3 171 146 0 (h 0 * 4) 4) 147 (h 0) (zVl T n (zBh T n p1))) 145 0 (h 0 + 1)) (p' := zBh T n (zBh T n p1)) (h' := zJo h w (zVl T n (zBh T n p1))) ?_ ⟨zTx_u u4 (by rw [zU_r (by decide), zU_r (by decide), zC_r (by decide)]) (by rw [zU_r (by decide), zU_r (by decide), zC_r (by decide)]), by omega, ?_, ⟨hwj, zHWl_congr e5' ev hwf.2⟩, hj, zLog_same (A := A3) (fun c c1 c2 => by rw [zU_r (by omega), zU_r (by omega), zC_r (by omega)]) hlog⟩ (by omega) ?_ (fun O' t' B b1 b2 b3 => ?_)
    · have c0 : (zC A3 171 (145 + 1) 0 (h 0 * 4) 4) 145 0 = h 0 := by rw [zC_r (by decide), m0]
      have c1 : (zU (zC A3 171 (145 + 1) 0 (h 0 * 4) 4) (145 + 2) (h 0) (zVl T n (zBh T n p1))) 145 0 = h 0 := by rw [zU_r (by decide), c0]
      have ah : isHall 145 := by unfold isHall; omega
      rw [clsS, i79_21, v1, mB0_i, i79_28, u1, mB1n_i, i79_35 (by omega), if_neg (by omega), i79_40, u2, i84_0 ah (by omega), if_neg (by omega), i84_9 ah (by omega) (by rw [m0, c0]; omega), m0, c0, c1, i84_45 ah, mB0_i, i79_55]
    · unfold zTk
      rw [zU_r (by decide), zU_r (by decide), zC_r (by decide)]
      exact u3
    · refine zKf_trans kf3 (fun c c1 c2 _ _ => by rw [zU_r (by omega), zU_r (by omega), zC_r (by omega)])
    · obtain ⟨B1, x1, x2, x3, x4, x5⟩ := refT O' t' B b1 b2 b3
      rw [if_neg (by omega)] at x1
      obtain ⟨B2, v, g1, g2, g3, g4, g5⟩ := c_figures (d := d + 4) (K := K) (O := O') (t := t') (ar := ar) (A := B1) (p := zBh T n p1) (lo := 1) (hi := 9) (zTr_lf b1 x2) (by rw [x3, hbw]) (by omega) (by omega) (by omega)
      obtain ⟨g6, g7⟩ := g3 hN
      subst g6
      have f186 : ∀ i, B2 186 i = if 15 + 6 * h 0 ≤ i ∧ i < 15 + 6 * h 0 + 4 then w (i - (15 + 6 * h 0)) else h i := fun i => by rw [g5.2 186 (by decide), x5]
      have e0 : (zU (zU B2 186 (15 + 6 * h 0 + 4) (zVl T n (zBh T n p1))) 186 (15 + 6 * h 0 + 5) 0) 186 0 = h 0 := by rw [zU_s (by omega), zU_s (by omega), f186, if_neg (by omega)]
      refine ⟨zU (zU (zU B2 186 (15 + 6 * h 0 + 4) (zVl T n (zBh T n p1))) 186 (15 + 6 * h 0 + 5) 0) 186 0 (h 0 + 1), ?_, ?_, by rw [zU_r (by decide), zU_r (by decide), zU_r (by decide), g7], ?_⟩
      · rw [x1, i232_38, g1, mB1_i, i232_45, i232_49 (by omega), if_pos (by omega), i232_56, i234_0, mB1_i, i232_65 (by omega), i234_0, mB1_i, i232_76 (by omega), e0]
      · refine zLf_trans x2 (zLf_trans (zLf_fp g5) (zLf_trans (zLf_u (by omega)) (zLf_trans (zLf_u (by omega)) (zLf_u (by omega)))))
      · funext i
        unfold zJo
        by_cases i0 : i = 0
        · rw [i0, zU_at, if_pos rfl]
        rw [zU_s i0, if_neg i0]
        by_cases i5 : i = 15 + 6 * h 0 + 5
        · rw [i5, zU_at, if_pos rfl]
        rw [zU_s i5, if_neg i5]
        by_cases i4 : i = 15 + 6 * h 0 + 4
        · rw [i4, zU_at, if_pos rfl]
        rw [zU_s i4, if_neg i4, f186]
  · refine zPh_no (A' := A2) ?_ (by rw [v2.1]; omega) v3 kf2 (fun O' t' B b1 b2 b3 => ?_)
    · rw [clsS, i79_21, v1, mB0_i, i79_28, u1, mB1n_i, i79_35 (by omega), if_pos rfl, i79_38]
    · obtain ⟨B1, x1, x2, x3, x4, x5⟩ := refT O' t' B b1 b2 b3
      rw [if_neg (by omega)] at x1
      obtain ⟨B2, v, g1, g2, g3, g4, g5⟩ := c_figures (d := d + 4) (K := K) (O := O') (t := t') (ar := ar) (A := B1) (p := zBh T n p1) (lo := 1) (hi := 9) (zTr_lf b1 x2) (by rw [x3, hbw]) (by omega) (by omega) (by omega)
      have hv := g4 hN
      subst hv
      refine ⟨B2, ?_, zLf_trans x2 (zLf_fp g5), by rw [g2, v2.1]⟩
      rw [x1, i232_38, g1, mB1_i, i232_45, i232_49 (by omega), if_neg (by omega), i232_54]
end PERSON
