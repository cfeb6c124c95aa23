/-! TEXTS, 7: the other lines of the hall's text -/
theorem zHR0_sh {A : Nat → Int → Int} {h : Int → Int} : zHR0 A 145 h ↔ zHR0 (fun c => A (c + 142)) 3 h := Iff.rfl
theorem zU_sh {A : Nat → Int → Int} {a : Nat} {i v : Int} : (fun c => zU A (a + 142) i v (c + 142)) = zU (fun c => A (c + 142)) a i v := by
  funext c j
  unfold zU
  by_cases h : c = a ∧ j = i
  · rw [if_pos h, if_pos ⟨by omega, h.2⟩]
  · rw [if_neg h, if_neg (fun q => h ⟨by omega, q.2⟩)]
theorem zHR0_strike {A : Nat → Int → Int} {h : Int → Int} {v : Int} (hw : zHW0 h) (hr : zHR0 A 145 h) : zHR0 (zU A 145 6 v) 145 (zPt h 4 v) := by
  have f : ∀ i, i ≠ 4 → zPt h 4 v i = h i := fun i hi => zPt_ne hi
  obtain ⟨r0, r9, r7, r6, r8, rr, rm, rn, rw', ⟨s1, s2⟩⟩ := hr
  have w0 := hw.1
  unfold zHR0 zStub
  rw [f 0 (by omega), f 1 (by omega), f 3 (by omega), zPt_at, f 6 (by omega), zU_s (show (0 : Int) ≠ 6 by decide), zU_s (show (9 : Int) ≠ 6 by decide), zU_s (show (7 : Int) ≠ 6 by decide), zU_at, zU_s (show (8 : Int) ≠ 6 by decide), zU_s (show (3 : Int) ≠ 6 by decide), zU_r (show (145 + 3 : Nat) ≠ 145 by decide), zU_r (show (145 + 4 : Nat) ≠ 145 by decide), zU_r (show (145 + 1 : Nat) ≠ 145 by decide), zU_r (show (145 + 2 : Nat) ≠ 145 by decide)]
  refine ⟨r0, r9, r7, rfl, r8, fun j h1 h2 => ?_, fun j h1 h2 => ?_, fun q j h1 h2 h3 h4 => ?_, fun q h1 h2 => ?_, ⟨s1, fun q h1 h2 => ?_⟩⟩
  · rw [f _ (by omega)]; exact rr j h1 h2
  · rw [f _ (by omega)]; exact rm j h1 h2
  · rw [f _ (by omega)]; exact rn q j h1 h2 h3 h4
  · rw [f _ (by omega)]; exact rw' q h1 h2
  · rw [f _ (by omega)]; exact s2 q h1 h2
theorem zHW0_strike {h : Int → Int} {v : Int} (hv : 0 ≤ v ∧ v ≤ 100) (hw : zHW0 h) : zHW0 (zPt h 4 v) := by
  have f : ∀ i, i ≠ 4 → zPt h 4 v i = h i := fun i hi => zPt_ne hi
  obtain ⟨w0, w1, w2, w3, w4, wr, wm, wn, ww, ws⟩ := hw
  unfold zHW0
  rw [f 0 (by omega), f 1 (by omega), f 2 (by omega), f 3 (by omega), zPt_at]
  refine ⟨w0, w1, w2, w3, hv, fun j h1 h2 => ?_, fun j h1 h2 => ?_, fun q j h1 h2 h3 h4 => ?_, fun q h1 h2 => ?_, fun q h1 h2 => ?_⟩
  · rw [f _ (by omega)]; exact wr j h1 h2
  · rw [f _ (by omega)]; exact wm j h1 h2
  · rw [f _ (by omega)]; exact wn q j h1 h2 h3 h4
  · rw [f _ (by omega)]; exact ww q h1 h2
  · rw [f _ (by omega)]; exact ws q h1 h2
/-- a row whose man is told -/
def zMw (h w : Int → Int) (i : Int) : Int := if 11 ≤ i ∧ i < 15 then w (i - 11) else h i
theorem zMw_o {h w : Int → Int} {i : Int} (hi : ¬ (11 ≤ i ∧ i < 15)) : zMw h w i = h i := if_neg hi
theorem zMw_i {h w : Int → Int} {k : Int} (hk : 0 ≤ k ∧ k < 4) : zMw h w (11 + k) = w k := by
  unfold zMw
  rw [if_pos (by omega), show 11 + k - 11 = k by omega]
theorem zHR0_man {A : Nat → Int → Int} {h w : Int → Int} (hw : zHW0 h) (hr : zHR0 A 145 h) (h171 : ∀ j, 0 ≤ j → j < 4 → A 171 j = w j) : zHR0 (zC A 171 149 0 0 4) 145 (zMw h w) := by
  obtain ⟨r0, r9, r7, r6, r8, rr, rm, rn, rw', ⟨s1, s2⟩⟩ := hr
  have w0 := hw.1
  unfold zHR0 zStub
  rw [zMw_o (show ¬ (11 ≤ (0 : Int) ∧ (0 : Int) < 15) by decide), zMw_o (show ¬ (11 ≤ (1 : Int) ∧ (1 : Int) < 15) by decide), zMw_o (show ¬ (11 ≤ (3 : Int) ∧ (3 : Int) < 15) by decide), zMw_o (show ¬ (11 ≤ (4 : Int) ∧ (4 : Int) < 15) by decide), zMw_o (show ¬ (11 ≤ (6 : Int) ∧ (6 : Int) < 15) by decide), zC_r (show (145 : Nat) ≠ 149 by decide), zC_r (show (145 + 3 : Nat) ≠ 149 by decide), zC_r (show (145 + 1 : Nat) ≠ 149 by decide), zC_r (show (145 + 2 : Nat) ≠ 149 by decide)]
  refine ⟨r0, r9, r7, r6, r8, fun j h1 h2 => ?_, fun j h1 h2 => ?_, fun q j h1 h2 h3 h4 => ?_, fun q h1 h2 => ?_, ⟨s1, fun q h1 h2 => ?_⟩⟩
  · rw [zMw_o (by omega)]; exact rr j h1 h2
  · show zC A 171 149 0 0 4 149 j = _
    rw [zMw_i ⟨h1, h2⟩, zC_in (by omega), show (0 : Int) + (j - 0) = j by omega, h171 j h1 h2]
  · rw [zMw_o (by omega)]; exact rn q j h1 h2 h3 h4
  · rw [zMw_o (by omega)]; exact rw' q h1 h2
  · rw [zMw_o (by omega)]; exact s2 q h1 h2
theorem zHW0_menW {h w : Int → Int} (hww : ∀ j, 0 ≤ j → j < 4 → 0 ≤ w j ∧ w j ≤ 99) (hw : zHW0 h) : zHW0 (zMw h w) := by
  obtain ⟨w0, w1, w2, w3, w4, wr, wm, wn, ww, ws⟩ := hw
  unfold zHW0
  rw [zMw_o (show ¬ (11 ≤ (0 : Int) ∧ (0 : Int) < 15) by decide), zMw_o (show ¬ (11 ≤ (1 : Int) ∧ (1 : Int) < 15) by decide), zMw_o (show ¬ (11 ≤ (2 : Int) ∧ (2 : Int) < 15) by decide), zMw_o (show ¬ (11 ≤ (3 : Int) ∧ (3 : Int) < 15) by decide), zMw_o (show ¬ (11 ≤ (4 : Int) ∧ (4 : Int) < 15) by decide)]
  refine ⟨w0, w1, w2, w3, w4, fun j h1 h2 => ?_, fun j h1 h2 => ?_, fun q j h1 h2 h3 h4 => ?_, fun q h1 h2 => ?_, fun q h1 h2 => ?_⟩
  · rw [zMw_o (by omega)]; exact wr j h1 h2
  · rw [zMw_i ⟨h1, h2⟩]; exact hww j h1 h2
  · rw [zMw_o (by omega)]; exact wn q j h1 h2 h3 h4
  · rw [zMw_o (by omega)]; exact ww q h1 h2
  · rw [zMw_o (by omega)]; exact ws q h1 h2
section LINES
variable {ar : Nat → Nat × (Nat → Int32)} {d t : Nat} {K : Nat → Nat → Option Nat} {A : Nat → Int → Int} {O : Nat → Int64}
/-- one place of the draft told -/
theorem zCp_pt {T : Int → Int} {n p' : Int} {h : Int → Int} {c : Nat} {i v j u : Int} (hc : 145 ≤ c ∧ c ≤ 149) (hx : zTx A T n) (hp : 0 ≤ p' ∧ p' ≤ n) (hk : zTk A T n p') (hwf : zHWf h) (hr : zHR A 145 h) (hj : j < 63 ∧ j ≠ 5) (h0 : zHR0 (zU A c i v) 145 (zPt h j u)) (hw : zHW0 (zPt h j u)) : zCp (zU A c i v) T n p' (zPt h j u) := by
  refine ⟨zTx_u hx (by rw [zU_r (by omega)]) (zU_r (by omega)), hp, ?_, ⟨hw, zHWl_pt hj hwf.2⟩, h0, zLog_same (A := A) (fun c' c1 c2 => zU_r (by omega)) (zLog_pt hj hwf.2 hr.2)⟩
  unfold zTk
  rw [zU_r (by omega)]
  exact hk
theorem zKf_u {c : Nat} {i v : Int} (hc : 145 ≤ c ∧ c ≤ 149) : zKf A (zU A c i v) := fun c' _ c2 _ _ => zU_r (by omega)
/-- the reference's number into a place -/
theorem c_readN {T : Int → Int} {n p at' most : Int} (hx : zTr A T n) (h10 : A 185 10 = p) (hp : 0 ≤ p ∧ p ≤ n) (ha : 0 ≤ at' ∧ at' < 63) (hm : 0 ≤ most ∧ most ≤ 1000) : ∃ C r, mGd ar (d + 3) 240 0 [.ref 185, .int (zI (at')), .int (zI most), .double 0] [] (zW K A O t) = some (.inl (some (.int (zI r))), zW K C O t) ∧ (r = 0 ∨ r = 1) ∧ (r = 1 ↔ zNm T n p 0 most) ∧ (r = 0 → C 185 12 = zBg T n p ∧ C 186 = A 186) ∧ (r = 1 → C 185 10 = zBh T n p ∧ C 186 = zPt (A 186) at' (zVl T n p)) ∧ (∀ j, j ≠ 10 → j ≠ 12 → C 185 j = A 185 j) ∧ (∀ c, c ≠ 185 → c ≠ 186 → C c = A c) := by
  obtain ⟨B, v, g1, g2, g3, g4, g5⟩ := c_figures (d := d) (K := K) (O := O) (t := t) (ar := ar) (lo := 0) (hi := most) hx h10 hp (by omega) (by omega)
  by_cases hN : zNm T n p 0 most
  · obtain ⟨g6, g7⟩ := g3 hN
    subst g6
    have hv : 0 ≤ zVl T n p := hN.2.1
    have hv2 := zVl_rng (T := T) hp.2
    refine ⟨zU B 186 at' (zVl T n p), 1, ?_, by omega, ⟨fun _ => hN, fun _ => rfl⟩, fun q => by omega, fun _ => ⟨by rw [zU_r (by decide)]; exact g7, by rw [zPt_u, g5.2 186 (by decide)]⟩, fun j j1 j2 => by rw [zU_r (by decide), g5.1 j j1 j2], fun c c1 c2 => by rw [zU_r c2, g5.2 c c1]⟩
    rw [i240_0, g1, mB1_i, i240_6 (by omega), if_pos hv, i240_25, i240_26 (by omega) (by omega), if_neg (by omega), i240_31, i240_36 (by omega)]
  · have hv := g4 hN
    subst hv
    refine ⟨B, 0, ?_, by omega, ⟨fun q => by omega, fun q => absurd q hN⟩, fun _ => ⟨g2, g5.2 186 (by decide)⟩, fun q => by omega, g5.1, fun c c1 _ => g5.2 c c1⟩
    rw [i240_0, g1, mB1_i, i240_6 (by omega), if_neg (by omega), i240_16 (by omega), i240_26 (by omega) (by omega), zU_id rfl, if_pos (by omega), i240_35, i240_36 (by omega)]
theorem pair_stub {T : Int → Int} {n p : Int} {h : Int → Int} (hC : zCp A T n p h) : zPh ar K O t (d + 6) 85 [.ref 170] (d + 7) 237 [.ref 185, .double 0] A T n p h := by
  obtain ⟨hx, hp, hk, hwf, hr⟩ := hC
  have w0 := hwf.1.1
  have m0 : A 145 0 = h 0 := hr.1.1
  have hb := zBg_rng (T := T) hp.2
  have hbh := zBh_rng (T := T) hp.2
  have refS : ∀ (O' : Nat → Int64) (t' : Nat) (B : Nat → Int → Int), zTr B T n → B 185 10 = p → B 186 = h → ∃ B1 v, mGd ar (d + 7) 237 0 [.ref 185, .double 0] [] (zW K B O' t') = (if v < 0 then mGd ar (d + 7) 237 20 [.ref 185, .int (zI v)] [] (zW K B1 O' t') else mGd ar (d + 7) 237 9 [.ref 185, .int (zI v)] [] (zW K B1 O' t')) ∧ B1 185 12 = zBg T n p ∧ (zNm T n p 0 (h 0 - 1) → v = zVl T n p ∧ B1 185 10 = zBh T n p) ∧ (¬ zNm T n p 0 (h 0 - 1) → v = -1) ∧ zFp B B1 := fun O' t' B b1 b2 b3 => by
    have eb : B 186 0 = h 0 := by rw [b3]
    obtain ⟨B1, v, g1, g2, g3, g4, g5⟩ := c_figures (d := d + 3) (K := K) (O := O') (t := t') (ar := ar) (A := B) (lo := 0) (hi := h 0 - 1) b1 b2 hp (by omega) (by omega)
    have vr : -1 ≤ v ∧ v ≤ 999 := by
      by_cases hN : zNm T n p 0 (h 0 - 1)
      · rw [(g3 hN).1]; exact zVl_rng hp.2
      · rw [g4 hN]; omega
    refine ⟨B1, v, ?_, g2, g3, g4, g5⟩
    rw [i237_0, i238_0, i233_0, mB1_i, eb, i238_6, g1, mB1_i, i238_11, mB1_i, i237_4 (by omega)]
  rcases c_takeH (d := d + 4) (K := K) (O := O) (t := t) (ar := ar) (lo := 0) (hi := h 0 - 1) hx hk hp (by omega) with ⟨hN, C, u1, u2, u3, u4, u5⟩ | ⟨hN, u1⟩
  · have hv : 0 ≤ zVl T n p ∧ zVl T n p < h 0 := ⟨hN.2.1, by have := hN.2.2; omega⟩
    have hrC : zHR C 145 h := zHR_same (fun c c1 c2 => u5 c (by omega) (by omega)) hwf hr
    have hs0 : zHR0 (zU C 145 3 (zOr (C 145 3) (zShl 1 (zVl T n p)))) 145 (zPt h (15 + 6 * zVl T n p + 5) 1) := by
      have q := zHR0_stub (A := fun c => C (c + 142)) (v := 1) w0 hv (by omega) (zHR0_sh.mp hrC.1)
      rw [show zSb1 ((fun c => C (c + 142)) 3 3) (zVl T n p) 1 = zOr (C 145 3) (zShl 1 (zVl T n p)) from if_neg (by decide), ← zU_sh] at q
      exact zHR0_sh.mpr q
    refine zPh_ok (A' := zU C 145 3 (zOr (C 145 3) (zShl 1 (zVl T n p)))) (p' := zBh T n p) (h' := zPt h (15 + 6 * zVl T n p + 5) 1) ?_ (zCp_pt (by decide) u4 (by omega) u3 hwf hrC (by omega) hs0 (zHW0_stub hv (by omega) hwf.1)) (by omega) (zKf_trans (fun c c1 _ c3 _ => u5 c c1 c3) (zKf_u (by decide))) (fun O' t' B b1 b2 b3 => ?_)
    · rw [i85_0, m0, u1, mB1n_i, i85_14 (by omega), if_neg (by omega), i85_19, u2, i86_0 isHall145 (by omega), if_neg (by omega), i86_5 isHall145, i86_26 isHall145, mB0_i, i85_31]
    · obtain ⟨B1, v, x1, x2, x3, x4, x5⟩ := refS O' t' B b1 b2 b3
      obtain ⟨x6, x7⟩ := x3 hN
      subst x6
      refine ⟨zU B1 186 (15 + 6 * zVl T n p + 5) 1, ?_, zLf_trans (zLf_fp x5) (zLf_u (by omega)), by rw [zU_r (by decide)]; exact x7, by rw [zPt_u, x5.2 186 (by decide), b3]⟩
      rw [x1, if_neg (by omega), i237_9, i234_0, mB1_i, i237_18 (by omega), i237_20 (by omega), if_neg (by omega), i237_24, i237_29 (by omega)]
  · refine zPh_no (A' := A) ?_ (by rw [hk.1]; omega) hx zKf_refl (fun O' t' B b1 b2 b3 => ?_)
    · rw [i85_0, m0, u1, mB1n_i, i85_14 (by omega), if_pos rfl, i85_17]
    · obtain ⟨B1, v, x1, x2, x3, x4, x5⟩ := refS O' t' B b1 b2 b3
      have x6 := x4 hN
      subst x6
      refine ⟨B1, ?_, zLf_fp x5, by rw [x2, hk.1]⟩
      rw [x1, if_pos (by omega), i237_20 (by omega), if_pos (by omega), i237_28, i237_29 (by omega)]
theorem pair_rule {T : Int → Int} {n p : Int} {h : Int → Int} (hC : zCp A T n p h) : zPh ar K O t (d + 6) 87 [.ref 170, .double 0] (d + 7) 239 [.ref 185, .double 0] A T n p h := by
  obtain ⟨hx, hp, hk, hwf, hr⟩ := hC
  have w0 := hwf.1.1
  have hb := zBg_rng (T := T) hp.2
  have hbh := zBh_rng (T := T) hp.2
  rcases c_takeH (d := d + 4) (K := K) (O := O) (t := t) (ar := ar) (lo := 0) (hi := 3) hx hk hp (by omega) with ⟨hN, C, u1, u2, u3, u4, u5⟩ | ⟨hN, u1⟩
  · have hv : 0 ≤ zVl T n p ∧ zVl T n p < 4 := ⟨hN.2.1, by have := hN.2.2; omega⟩
    have hrC : zHR C 145 h := zHR_same (fun c c1 c2 => u5 c (by omega) (by omega)) hwf hr
    have kfC : zKf A C := fun c c1 _ c3 _ => u5 c c1 c3
    have hb2 := zBg_rng (T := T) hbh.2
    have hbh2 := zBh_rng (T := T) hbh.2
    have refS : ∀ (O' : Nat → Int64) (t' : Nat) (B : Nat → Int → Int), zTr B T n → B 185 10 = p → B 186 = h → ∃ B1 r, mGd ar (d + 7) 239 0 [.ref 185, .double 0] [] (zW K B O' t') = some (.inl (some (.int (zI r))), zW K B1 O' t') ∧ (r = 0 ∨ r = 1) ∧ (r = 1 ↔ zNm T n (zBh T n p) 0 5) ∧ (r = 0 → B1 185 12 = zBg T n (zBh T n p)) ∧ (r = 1 → B1 185 10 = zBh T n (zBh T n p) ∧ B1 186 = zPt h (7 + zVl T n p) (zVl T n (zBh T n p))) ∧ zLf B B1 := fun O' t' B b1 b2 b3 => by
      obtain ⟨B1, v, g1, g2, g3, g4, g5⟩ := c_figures (d := d + 4) (K := K) (O := O') (t := t') (ar := ar) (A := B) (lo := 0) (hi := 3) b1 b2 hp (by omega) (by omega)
      obtain ⟨g6, g7⟩ := g3 hN
      subst g6
      obtain ⟨B2, r, y1, y2, y3, y4, y5, y6, y7⟩ := c_readN (d := d + 3) (K := K) (O := O') (t := t') (ar := ar) (A := B1) (at' := 7 + zVl T n p) (most := 5) (zTr_fp b1 g5) g7 (by omega) (by omega) (by omega)
      have e6 : B1 186 = h := by rw [g5.2 186 (by decide), b3]
      refine ⟨B2, r, ?_, y2, y3, fun q => (y4 q).1, fun q => by rw [← e6]; exact y5 q, zLf_trans (zLf_fp g5) ⟨y6, y7, fun i hi => ?_⟩⟩
      · rw [i239_0, g1, mB1_i, i239_6 (by omega), if_neg (by omega), i239_11, y1, mB1_i, i239_20 (by omega)]
        rcases y2 with q | q
        · rw [if_pos q, i239_27, i239_28 (by omega), q]
        · rw [if_neg (by omega), i239_23, i239_28 (by omega), q]
      · rcases y2 with q | q
        · rw [(y4 q).2]
        · rw [(y5 q).2, zPt_ne (by omega)]
    rcases c_takeH (d := d + 4) (K := K) (O := O) (t := t) (ar := ar) (A := C) (lo := 0) (hi := 5) u4 u3 (by omega) (by omega) with ⟨hN2, D, v1, v2, v3, v4, v5⟩ | ⟨hN2, v1⟩
    · have hv2 : 0 ≤ zVl T n (zBh T n p) ∧ zVl T n (zBh T n p) ≤ 5 := ⟨hN2.2.1, hN2.2.2⟩
      have hrD : zHR D 145 h := zHR_same (fun c c1 c2 => v5 c (by omega) (by omega)) hwf hrC
      have hs0 : zHR0 (zU D 148 (zVl T n p) (zVl T n (zBh T n p))) 145 (zPt h (7 + zVl T n p) (zVl T n (zBh T n p))) := by
        have q := zHR0_rule (A := fun c => D (c + 142)) (r := zVl T n (zBh T n p)) hv hwf.1 (zHR0_sh.mp hrD.1)
        rw [← zU_sh] at q
        exact zHR0_sh.mpr q
      refine zPh_ok (A' := zU D 148 (zVl T n p) (zVl T n (zBh T n p))) (p' := zBh T n (zBh T n p)) (h' := zPt h (7 + zVl T n p) (zVl T n (zBh T n p))) ?_ (zCp_pt (by decide) v4 (by omega) v3 hwf hrD (by omega) hs0 (zHW0_rule hv hv2 hwf.1)) (by omega) (zKf_trans kfC (zKf_trans (fun c c1 _ c3 _ => v5 c c1 c3) (zKf_u (by decide)))) (fun O' t' B b1 b2 b3 => ?_)
      · rw [i87_0, u1, mB1n_i, i87_6 (by omega), if_neg (by omega), i87_11, u2, v1, mB1n_i, i87_22 (by omega), if_neg (by omega), i87_27 (by omega), v2]
      · obtain ⟨B1, r, x1, x2, x3, x4, x5, x6⟩ := refS O' t' B b1 b2 b3
        have x7 := x3.2 hN2
        subst x7
        exact ⟨B1, x1, x6, x5 rfl⟩
    · refine zPh_no (A' := C) ?_ (by rw [u3.1]; omega) u4 kfC (fun O' t' B b1 b2 b3 => ?_)
      · rw [i87_0, u1, mB1n_i, i87_6 (by omega), if_neg (by omega), i87_11, u2, v1, mB1n_i, i87_22 (by omega), if_pos rfl, i87_25]
      · obtain ⟨B1, r, x1, x2, x3, x4, x5, x6⟩ := refS O' t' B b1 b2 b3
        have x7 : r = 0 := by
          rcases x2 with q | q
          · exact q
          · exact absurd (x3.1 q) hN2
        subst x7
        exact ⟨B1, x1, x6, by rw [x4 rfl, u3.1]⟩
  · refine zPh_no (A' := A) ?_ (by rw [hk.1]; omega) hx zKf_refl (fun O' t' B b1 b2 b3 => ?_)
    · rw [i87_0, u1, mB1n_i, i87_6 (by omega), if_pos rfl, i87_9]
    · obtain ⟨B1, v, g1, g2, g3, g4, g5⟩ := c_figures (d := d + 4) (K := K) (O := O') (t := t') (ar := ar) (A := B) (lo := 0) (hi := 3) b1 b2 hp (by omega) (by omega)
      have g6 := g4 hN
      subst g6
      refine ⟨B1, ?_, zLf_fp g5, by rw [g2, hk.1]⟩
      rw [i239_0, g1, mB1_i, i239_6 (by omega), if_pos (by omega), i239_27, i239_28 (by omega)]
theorem pair_strike {T : Int → Int} {n p : Int} {h : Int → Int} (hC : zCp A T n p h) : zPh ar K O t (d + 6) 88 [.ref 170] (d + 7) 240 [.ref 185, .int (zI 4), .int (zI 100), .double 0] A T n p h := by
  obtain ⟨hx, hp, hk, hwf, hr⟩ := hC
  have hb := zBg_rng (T := T) hp.2
  have hbh := zBh_rng (T := T) hp.2
  rcases c_takeH (d := d + 4) (K := K) (O := O) (t := t) (ar := ar) (lo := 0) (hi := 100) hx hk hp (by omega) with ⟨hN, C, u1, u2, u3, u4, u5⟩ | ⟨hN, u1⟩
  · have hv : 0 ≤ zVl T n p ∧ zVl T n p ≤ 100 := ⟨hN.2.1, hN.2.2⟩
    have hrC : zHR C 145 h := zHR_same (fun c c1 c2 => u5 c (by omega) (by omega)) hwf hr
    refine zPh_ok (A' := zU C 145 6 (zVl T n p)) (p' := zBh T n p) (h' := zPt h 4 (zVl T n p)) ?_ (zCp_pt (by decide) u4 (by omega) u3 hwf hrC (by decide) (zHR0_strike hwf.1 hrC.1) (zHW0_strike hv hwf.1)) (by omega) (zKf_trans (fun c c1 _ c3 _ => u5 c c1 c3) (zKf_u (by decide))) (fun O' t' B b1 b2 b3 => ?_)
    · rw [i88_0, u1, mB1n_i, i88_7 (by omega), if_neg (by omega), i88_12, u2]
    · obtain ⟨B2, r, y1, y2, y3, y4, y5, y6, y7⟩ := c_readN (d := d + 4) (K := K) (O := O') (t := t') (ar := ar) (A := B) (at' := 4) (most := 100) b1 b2 hp (by omega) (by omega)
      have x7 := y3.2 hN
      subst x7
      rw [b3] at y5
      exact ⟨B2, y1, ⟨y6, y7, fun i hi => by rw [(y5 rfl).2, b3, zPt_ne (by omega)]⟩, y5 rfl⟩
  · refine zPh_no (A' := A) ?_ (by rw [hk.1]; omega) hx zKf_refl (fun O' t' B b1 b2 b3 => ?_)
    · rw [i88_0, u1, mB1n_i, i88_7 (by omega), if_pos rfl, i88_10]
    · obtain ⟨B2, r, y1, y2, y3, y4, y5, y6, y7⟩ := c_readN (d := d + 4) (K := K) (O := O') (t := t') (ar := ar) (A := B) (at' := 4) (most := 100) b1 b2 hp (by omega) (by omega)
      have x7 : r = 0 := by
        rcases y2 with q | q
        · exact q
        · exact absurd (y3.1 q) hN
      subst x7
      exact ⟨B2, y1, ⟨y6, y7, fun i hi => by rw [(y4 rfl).2]⟩, by rw [(y4 rfl).1, hk.1]⟩
theorem pair_man {T : Int → Int} {n p : Int} {h : Int → Int} (hC : zCp A T n p h) : zPh ar K O t (d + 6) 89 [.ref 170] (d + 6) 235 [.ref 185, .int (zI 11), .double 0, .double 0] A T n p h := by
  obtain ⟨hx, hp, hk, hwf, hr⟩ := hC
  obtain ⟨A1, r, p1, w, e1, e2, e3, e4, e5, e6, e7⟩ := four_loop (d := d + 3) (K := K) (O := O) (t := t) (ar := ar) (A := A) 4 0 p A (fun _ => 0) (by omega) (by omega) hx hk hp (fun _ _ _ _ => rfl) (fun j j0 j1 => by omega)
  have kf1 : zKf A A1 := fun c c1 _ c3 c4 => e6 c c1 c3 c4
  rcases e2 with r0 | r0
  · subst r0
    refine zPh_no (A' := A1) ?_ (e5 rfl) e3 kf1 (fun O' t' B b1 b2 b3 => ?_)
    · rw [i89_0, i80_0, e1, mB1_i, i89_4 (by omega), if_pos rfl, i89_7]
    · obtain ⟨B1, x1, x2, x3, -, x5⟩ := e7 11 (.double 0) O' t' B (by omega) b1 b2
      exact ⟨B1, by rw [i235_0]; exact x1, ⟨x2, x3, fun i hi => (x5 rfl).2 i (by omega)⟩, (x5 rfl).1⟩
  · subst r0
    obtain ⟨hp1, hpp, hk1, -, hw1⟩ := e4 rfl
    have hr1 : zHR A1 145 h := zHR_same (fun c c1 c2 => e6 c (by omega) (by omega) (by omega)) hwf hr
    have ev : ∀ i, 63 ≤ i → i < 423 → zMw h w i = h i := fun i i1 _ => zMw_o (by omega)
    have e5' : zMw h w 5 = h 5 := zMw_o (by decide)
    refine zPh_ok (A' := zC A1 171 149 0 0 4) (p' := p1) (h' := zMw h w) ?_ ⟨zTx_u e3 (by rw [zC_r (by decide)]) (zC_r (by decide)), hp1, ?_, ⟨zHW0_menW (fun j j0 j1 => (hw1 j j0 j1).2) hwf.1, zHWl_congr e5' ev hwf.2⟩, zHR0_man hwf.1 hr1.1 (fun j j0 j1 => (hw1 j j0 j1).1), zLog_same (A := A1) (fun c c1 c2 => zC_r (by omega)) (zLog_congr e5' ev hwf.2 hr1.2)⟩ hpp (zKf_trans kf1 (fun c _ c2 _ _ => zC_r (by omega))) (fun O' t' B b1 b2 b3 => ?_)
    · rw [i89_0, i80_0, e1, mB1_i, i89_4 (by omega), if_neg (by omega), i89_9]
    · unfold zTk
      rw [zC_r (by decide)]
      exact hk1
    · obtain ⟨B1, x1, x2, x3, x4, -⟩ := e7 11 (.double 0) O' t' B (by omega) b1 b2
      obtain ⟨x5, x6⟩ := x4 rfl
      refine ⟨B1, by rw [i235_0]; exact x1, ⟨x2, x3, fun i hi => by rw [x6, if_neg (by omega)]⟩, x5, ?_⟩
      funext i
      rw [x6, b3]
      unfold zMw
      rfl
theorem pair_numb {T : Int → Int} {n p : Int} {h : Int → Int} (hC : zCp A T n p h) : zPh ar K O t (d + 6) 90 [.ref 170, .double 0, .double 0] (d + 7) 241 [.ref 185, .double 0, .double 0] A T n p h := by
  obtain ⟨hx, hp, hk, hwf, hr⟩ := hC
  have w0 := hwf.1.1
  have m0 : A 145 0 = h 0 := hr.1.1
  have hb := zBg_rng (T := T) hp.2
  have hbh := zBh_rng (T := T) hp.2
  have hb2 := zBg_rng (T := T) hbh.2
  have hbh2 := zBh_rng (T := T) hbh.2
  have hb3 := zBg_rng (T := T) hbh2.2
  have hbh3 := zBh_rng (T := T) hbh2.2
  rcases c_takeH (d := d + 4) (K := K) (O := O) (t := t) (ar := ar) (lo := 0) (hi := h 0 - 1) hx hk hp (by omega) with ⟨hN, C, u1, u2, u3, u4, u5⟩ | ⟨hN, u1⟩
  · have hv : 0 ≤ zVl T n p ∧ zVl T n p < h 0 := ⟨hN.2.1, by have := hN.2.2; omega⟩
    have hrC : zHR C 145 h := zHR_same (fun c c1 c2 => u5 c (by omega) (by omega)) hwf hr
    have kfC : zKf A C := fun c c1 _ c3 _ => u5 c c1 c3
    have refS : ∀ (O' : Nat → Int64) (t' : Nat) (B : Nat → Int → Int), zTr B T n → B 185 10 = p → B 186 = h → ∃ B1, mGd ar (d + 7) 241 0 [.ref 185, .double 0, .double 0] [] (zW K B O' t') = mGd ar (d + 7) 241 13 [.ref 185, .int (zI (zVl T n p)), .double 0] [] (zW K B1 O' t') ∧ B1 185 10 = zBh T n p ∧ zFp B B1 := fun O' t' B b1 b2 b3 => by
      have eb : B 186 0 = h 0 := by rw [b3]
      obtain ⟨B1, v, g1, g2, g3, g4, g5⟩ := c_figures (d := d + 3) (K := K) (O := O') (t := t') (ar := ar) (A := B) (lo := 0) (hi := h 0 - 1) b1 b2 hp (by omega) (by omega)
      obtain ⟨g6, g7⟩ := g3 hN
      subst g6
      refine ⟨B1, ?_, g7, g5⟩
      rw [i241_0, i238_0, i233_0, mB1_i, eb, i238_6, g1, mB1_i, i238_11, mB1_i, i241_4 (by omega), if_pos (by omega)]
    rcases c_takeH (d := d + 4) (K := K) (O := O) (t := t) (ar := ar) (A := C) (lo := 0) (hi := 3) u4 u3 (by omega) (by omega) with ⟨hN2, D, v1, v2, v3, v4, v5⟩ | ⟨hN2, v1⟩
    · have hv2 : 0 ≤ zVl T n (zBh T n p) ∧ zVl T n (zBh T n p) < 4 := ⟨hN2.2.1, by have := hN2.2.2; omega⟩
      have hrD : zHR D 145 h := zHR_same (fun c c1 c2 => v5 c (by omega) (by omega)) hwf hrC
      have kfD : zKf A D := zKf_trans kfC (fun c c1 _ c3 _ => v5 c c1 c3)
      have refT : ∀ (O' : Nat → Int64) (t' : Nat) (B : Nat → Int → Int), zTr B T n → B 185 10 = p → B 186 = h → ∃ B1 r, mGd ar (d + 7) 241 0 [.ref 185, .double 0, .double 0] [] (zW K B O' t') = some (.inl (some (.int (zI r))), zW K B1 O' t') ∧ (r = 0 ∨ r = 1) ∧ (r = 1 ↔ zNm T n (zBh T n (zBh T n p)) 0 99) ∧ (r = 0 → B1 185 12 = zBg T n (zBh T n (zBh T n p))) ∧ (r = 1 → B1 185 10 = zBh T n (zBh T n (zBh T n p)) ∧ B1 186 = zPt h (15 + 6 * zVl T n p + zVl T n (zBh T n p)) (zVl T n (zBh T n (zBh T n p)))) ∧ zLf B B1 := fun O' t' B b1 b2 b3 => by
        obtain ⟨B1, x1, x2, x3⟩ := refS O' t' B b1 b2 b3
        obtain ⟨B2, v, g1, g2, g3, g4, g5⟩ := c_figures (d := d + 4) (K := K) (O := O') (t := t') (ar := ar) (A := B1) (lo := 0) (hi := 3) (zTr_fp b1 x3) x2 (by omega) (by omega) (by omega)
        obtain ⟨g6, g7⟩ := g3 hN2
        subst g6
        obtain ⟨B3, r, y1, y2, y3, y4, y5, y6, y7⟩ := c_readN (d := d + 3) (K := K) (O := O') (t := t') (ar := ar) (A := B2) (at' := 15 + 6 * zVl T n p + zVl T n (zBh T n p)) (most := 99) (zTr_fp (zTr_fp b1 x3) g5) g7 (by omega) (by omega) (by omega)
        have e6 : B2 186 = h := by rw [g5.2 186 (by decide), x3.2 186 (by decide), b3]
        refine ⟨B3, r, ?_, y2, y3, fun q => (y4 q).1, fun q => by rw [← e6]; exact y5 q, zLf_trans (zLf_fp (zFp_trans x3 g5)) ⟨y6, y7, fun i hi => ?_⟩⟩
        · rw [x1, i241_13, g1, mB1_i, i241_19 (by omega), if_neg (by omega), i241_24, i234_0, mB1_i, i241_30, y1, mB1_i, i241_35 (by omega)]
          rcases y2 with q | q
          · rw [if_pos q, i241_42, i241_43 (by omega), q]
          · rw [if_neg (by omega), i241_38, i241_43 (by omega), q]
        · rcases y2 with q | q
          · rw [(y4 q).2]
          · rw [(y5 q).2, zPt_ne (by omega)]
      rcases c_takeH (d := d + 4) (K := K) (O := O) (t := t) (ar := ar) (A := D) (lo := 0) (hi := 99) v4 v3 (by omega) (by omega) with ⟨hN3, E, z1, z2, z3, z4, z5⟩ | ⟨hN3, z1⟩
      · have hv3 : 0 ≤ zVl T n (zBh T n (zBh T n p)) ∧ zVl T n (zBh T n (zBh T n p)) ≤ 99 := ⟨hN3.2.1, hN3.2.2⟩
        have hrE : zHR E 145 h := zHR_same (fun c c1 c2 => z5 c (by omega) (by omega)) hwf hrD
        have hs0 : zHR0 (zU E 146 (zVl T n p * 4 + zVl T n (zBh T n p)) (zVl T n (zBh T n (zBh T n p)))) 145 (zPt h (15 + 6 * zVl T n p + zVl T n (zBh T n p)) (zVl T n (zBh T n (zBh T n p)))) := by
          have q := zHR0_numb (A := fun c => E (c + 142)) (v := zVl T n (zBh T n (zBh T n p))) hv hv2 (zHR0_sh.mp hrE.1)
          rw [← zU_sh] at q
          exact zHR0_sh.mpr q
        refine zPh_ok (A' := zU E 146 (zVl T n p * 4 + zVl T n (zBh T n p)) (zVl T n (zBh T n (zBh T n p)))) (p' := zBh T n (zBh T n (zBh T n p))) (h' := zPt h (15 + 6 * zVl T n p + zVl T n (zBh T n p)) (zVl T n (zBh T n (zBh T n p)))) ?_ (zCp_pt (by decide) z4 (by omega) z3 hwf hrE (by omega) hs0 (zHW0_numb hv hv2 hv3 hwf.1)) (by omega) (zKf_trans kfD (zKf_trans (fun c c1 _ c3 _ => z5 c c1 c3) (zKf_u (by decide)))) (fun O' t' B b1 b2 b3 => ?_)
        · rw [i90_0, m0, u1, mB1n_i, i90_14 (by omega), if_neg (by omega), i90_19, u2, v1, mB1n_i, i90_30 (by omega), if_neg (by omega), i90_35, v2, z1, mB1n_i, i90_47 (by omega), if_neg (by omega), i90_52, z2, i41_0 isHall145 (by omega), mB0_i, i90_65]
        · obtain ⟨B1, r, x1, x2, x3, x4, x5, x6⟩ := refT O' t' B b1 b2 b3
          have x7 := x3.2 hN3
          subst x7
          exact ⟨B1, x1, x6, x5 rfl⟩
      · refine zPh_no (A' := D) ?_ (by rw [v3.1]; omega) v4 kfD (fun O' t' B b1 b2 b3 => ?_)
        · rw [i90_0, m0, u1, mB1n_i, i90_14 (by omega), if_neg (by omega), i90_19, u2, v1, mB1n_i, i90_30 (by omega), if_neg (by omega), i90_35, v2, z1, mB1n_i, i90_47 (by omega), if_pos rfl, i90_50]
        · obtain ⟨B1, r, x1, x2, x3, x4, x5, x6⟩ := refT O' t' B b1 b2 b3
          have x7 : r = 0 := by
            rcases x2 with q | q
            · exact q
            · exact absurd (x3.1 q) hN3
          subst x7
          exact ⟨B1, x1, x6, by rw [x4 rfl, v3.1]⟩
    · refine zPh_no (A' := C) ?_ (by rw [u3.1]; omega) u4 kfC (fun O' t' B b1 b2 b3 => ?_)
      · rw [i90_0, m0, u1, mB1n_i, i90_14 (by omega), if_neg (by omega), i90_19, u2, v1, mB1n_i, i90_30 (by omega), if_pos rfl, i90_33]
      · obtain ⟨B1, x1, x2, x3⟩ := refS O' t' B b1 b2 b3
        obtain ⟨B2, v, g1, g2, g3, g4, g5⟩ := c_figures (d := d + 4) (K := K) (O := O') (t := t') (ar := ar) (A := B1) (lo := 0) (hi := 3) (zTr_fp b1 x3) x2 (by omega) (by omega) (by omega)
        have g6 := g4 hN2
        subst g6
        refine ⟨B2, ?_, zLf_fp (zFp_trans x3 g5), by rw [g2, u3.1]⟩
        rw [x1, i241_13, g1, mB1_i, i241_19 (by omega), if_pos (by omega), i241_42, i241_43 (by omega)]
  · refine zPh_no (A' := A) ?_ (by rw [hk.1]; omega) hx zKf_refl (fun O' t' B b1 b2 b3 => ?_)
    · rw [i90_0, m0, u1, mB1n_i, i90_14 (by omega), if_pos rfl, i90_17]
    · have eb : B 186 0 = h 0 := by rw [b3]
      obtain ⟨B1, v, g1, g2, g3, g4, g5⟩ := c_figures (d := d + 3) (K := K) (O := O') (t := t') (ar := ar) (A := B) (lo := 0) (hi := h 0 - 1) b1 b2 hp (by omega) (by omega)
      have g6 := g4 hN
      subst g6
      refine ⟨B1, ?_, zLf_fp g5, by rw [g2, hk.1]⟩
      rw [i241_0, i238_0, i233_0, mB1_i, eb, i238_6, g1, mB1_i, i238_11, mB1_i, i241_4 (by omega), if_neg (by omega), i241_9, i241_19 (by omega), if_pos (by omega), i241_42, i241_43 (by omega)]
end LINES
