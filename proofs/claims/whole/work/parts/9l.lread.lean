/-! TEXTS, 16: the lines of the law's text -/
section LREAD
variable {ar : Nat → Nat × (Nat → Int32)} {d t : Nat} {K : Nat → Nat → Option Nat} {A : Nat → Int → Int} {O : Nat → Int64}
theorem zKl_kw {e0 : Int} {A A' : Nat → Int → Int} (h : zKl e0 A A') : zKw A A' := ⟨fun c a b e => h.1 c a (by omega) (by omega) e, h.2.1 0 (by decide)⟩
theorem zLl_lw {e0 : Int} {B B' : Nat → Int → Int} (he : 0 ≤ e0) (h : zLl e0 B B') : zLw B B' := ⟨h.1, h.2.1, fun i hi => h.2.2 i (by omega)⟩
theorem pair_lline (hS : zArs ar) {T : Int → Int} {n p : Int} {L : zLines} (hC : zCw A T n p L) (hln : (L.length : Int) < 12) : zQl ar K O t (d + 61) 91 0 [.ref 172, .double 0] (d + 62) 228 0 [.ref 185, .int (zI 0), .int (zI (L.length : Int))] A T n p L := by
  obtain ⟨hx, hp, hk, h1, h2, hL, hok, h12', hlp⟩ := id hC
  have hn := hx.1
  have hnn := zLen_nn (L := L)
  have hb := zBg_rng (T := T) hp.2
  have hbh := zBh_rng (T := T) hp.2
  have ca := c_among (d := d + 56) (K := K) (O := O) (t := t) (ar := ar) hS (s := 2) (by decide) zJw_tab.2.2.1 (by simp) (by decide) hx hk hp
  have fr := zFi_rng (T := T) (n := n) (p := p) (L := [16, 17, 18]) (k := 0)
  have hlen : (([16, 17, 18] : List Nat).length : Int) = 3 := rfl
  rw [hlen] at fr
  have fdef : zFi T n p [16, 17, 18] 0 = @ite Int (zIs T n p 16) (Classical.propDecidable _) 0 (@ite Int (zIs T n p 17) (Classical.propDecidable _) 1 (@ite Int (zIs T n p 18) (Classical.propDecidable _) 2 (-1))) := rfl
  have kdw : zFi T n p [16, 17, 18] 0 ≠ -1 → zBg T n p < zWe T n p := fun hno => by
    by_cases q : zBg T n p < zWe T n p
    · exact q
    · exact absurd (zFi_no hp.2 q (by decide)) hno
  generalize hff : zFi T n p [16, 17, 18] 0 = f at ca fr kdw
  have refL : ∀ (O' : Nat → Int64) (t' : Nat) (B : Nat → Int → Int), zRw2 B T n p L → ∃ B2, zFp B B2 ∧ B2 185 10 = zWe T n p ∧ B2 185 12 = zBg T n p ∧ ∀ (r : Int) (B' : Nat → Int → Int), (r = 0 ∨ r = 1) → mGd ar (d + 61) 242 53 [.ref 185, .int (zI (L.length : Int)), .int (zI (1273 + 4 * (L.length : Int)))] [.int (zI f), .int (zI (1273 + 4 * (L.length : Int))), .ref 186] (zW K B2 O' t') = some (.inl (some (.int (zI r))), zW K B' O' t') → mGd ar (d + 62) 228 0 [.ref 185, .int (zI 0), .int (zI (L.length : Int))] [] (zW K B O' t') = some (.inl (some (.int (zI r))), zW K B' O' t') := fun O' t' B hB => by
    obtain ⟨B2, y1, y2, y3, y4⟩ := c_letters (d := d + 59) (K := K) (O := O') (t := t') (ar := ar) (A := B) hB.1 hB.2.1 hp
    have tr2 := zTr_fp hB.1 y4
    have yes : ∀ s, s < 31 → zIs T n p s → mGd ar (d + 60) 231 0 [.ref 185, .retAddr s, .double 0, .double 0] [] (zW K B2 O' t') = some (.inl (some (.int (zI 1))), zW K B2 O' t') := fun s hs h => c_rW (d := d + 56) hS hs tr2 hp y3 y2 h
    have no : ∀ s, s < 31 → ¬ zIs T n p s → mGd ar (d + 60) 231 0 [.ref 185, .retAddr s, .double 0, .double 0] [] (zW K B2 O' t') = some (.inl (some (.int (zI 0))), zW K B2 O' t') := fun s hs h => c_rNW (d := d + 56) hS hs tr2 hp y3 y2 h
    have chain : mGd ar (d + 61) 242 0 [.ref 185, .int (zI (L.length : Int)), .double 0] [] (zW K B2 O' t') = mGd ar (d + 61) 242 53 [.ref 185, .int (zI (L.length : Int)), .int (zI (1273 + 4 * (L.length : Int)))] [.int (zI f), .int (zI (1273 + 4 * (L.length : Int))), .ref 186] (zW K B2 O' t') := by
      rw [← hff, fdef, i242_0]
      by_cases a1 : zIs T n p 16
      · rw [if_pos a1, yes 16 (by decide) a1, mB1_i, i242_19 (by omega), if_neg (by omega), i242_22]
      rw [if_neg a1, no 16 (by decide) a1, mB1_i, i242_19 (by omega), if_pos rfl, i242_26]
      by_cases a2 : zIs T n p 17
      · rw [if_pos a2, yes 17 (by decide) a2, mB1_i, i242_32 (by omega), if_neg (by omega), i242_35]
      rw [if_neg a2, no 17 (by decide) a2, mB1_i, i242_32 (by omega), if_pos rfl, i242_39]
      by_cases a3 : zIs T n p 18
      · rw [if_pos a3, yes 18 (by decide) a3, mB1_i, i242_45 (by omega), if_neg (by omega), i242_48]
      rw [if_neg a3, no 18 (by decide) a3, mB1_i, i242_45 (by omega), if_pos rfl, i242_52]
    refine ⟨B2, y4, y2, y3, fun r B' hr hm => ?_⟩
    rw [i228_0, y1, mB0_i, i228_4 (by omega), if_pos rfl, i228_14, i228_16 (by omega) (by omega), if_neg (by omega), i228_19 (by omega), if_pos rfl, i228_33, chain, hm, mB1_i, i228_38 (by omega)]
    rcases hr with q | q
    · rw [if_pos q, i228_45, i228_46 (by omega), q]
    · rw [if_neg (by omega), i228_41, i228_46 (by omega), q]
  by_cases hf : f = -1
  · refine zQl_no (A' := A) ?_ (by rw [hk.1]; omega) hx zKw_refl (fun O' t' B hB => ?_)
    · rw [i91_0, ca, mB1_i, i91_9 (by omega), if_pos hf, i91_15]
    · obtain ⟨B2, y1, y2, y3, y4⟩ := refL O' t' B hB
      refine ⟨zU B2 186 (1273 + 4 * (L.length : Int)) f, y4 0 _ (by omega) ?_, zLw_trans (zLw_fp y1) (zLw_u (by omega)), by rw [zU_r (by decide), y3, hk.1]⟩
      rw [i242_53 (by omega) (by omega) (by rw [zU_at]; omega), zU_at, if_neg (by omega), i242_63]
  have kd := kdw hf
  have bhw : zBh T n p = zWe T n p := by unfold zBh; rw [if_pos kd]
  obtain ⟨C, v1, v2, v3, v4, v5⟩ := c_advance (d := d + 60) (K := K) (O := O) (t := t) (ar := ar) (A := A) hx hk.2.1 (by omega)
  have hb1 := zBg_rng (T := T) (p := zBh T n p) hbh.2
  have hbh1 := zBh_rng (T := T) (p := zBh T n p) hbh.2
  have refM : ∀ (O' : Nat → Int64) (t' : Nat) (B : Nat → Int → Int), zRw2 B T n p L → ∃ B3 v, B3 185 12 = zBg T n (zBh T n p) ∧ (zNm T n (zBh T n p) 0 20 → v = zVl T n (zBh T n p) ∧ B3 185 10 = zBh T n (zBh T n p)) ∧ (¬ zNm T n (zBh T n p) 0 20 → v = -1) ∧ zLw B B3 ∧ B3 185 16 = zLen L ∧ B3 186 (1273 + 4 * (L.length : Int)) = f ∧ (∀ i, i ≠ 1273 + 4 * (L.length : Int) → B3 186 i = B 186 i) ∧ ∀ (r : Int) (B' : Nat → Int → Int), (r = 0 ∨ r = 1) → mGd ar (d + 61) 242 79 [.ref 185, .int (zI (L.length : Int)), .int (zI (1273 + 4 * (L.length : Int)))] [.int (zI v), .int (zI (1273 + 4 * (L.length : Int) + 1)), .ref 186] (zW K B3 O' t') = some (.inl (some (.int (zI r))), zW K B' O' t') → mGd ar (d + 62) 228 0 [.ref 185, .int (zI 0), .int (zI (L.length : Int))] [] (zW K B O' t') = some (.inl (some (.int (zI r))), zW K B' O' t') := fun O' t' B hB => by
    obtain ⟨B2, y1, y2, y3, y4⟩ := refL O' t' B hB
    have lw2 : zLw B (zU B2 186 (1273 + 4 * (L.length : Int)) f) := zLw_trans (zLw_fp y1) (zLw_u (by omega))
    obtain ⟨B3, v, g1, g2, g3, g4, g5⟩ := c_figures (d := d + 58) (K := K) (O := O') (t := t') (ar := ar) (A := zU B2 186 (1273 + 4 * (L.length : Int)) f) (p := zBh T n p) (lo := 0) (hi := 20) (zTr_lw hB.1 lw2) (by rw [zU_r (by decide), y2, bhw]) (by omega) (by omega) (by omega)
    refine ⟨B3, v, g2, g3, g4, zLw_trans lw2 (zLw_fp g5), by rw [g5.1 16 (by decide) (by decide), zU_r (by decide), y1.1 16 (by decide) (by decide)]; exact hB.2.2.1, by rw [g5.2 186 (by decide), zU_at], fun i hi => by rw [g5.2 186 (by decide), zU_s hi, y1.2 186 (by decide)], fun r B' hr hm => y4 r B' hr ?_⟩
    rw [i242_53 (by omega) (by omega) (by rw [zU_at]; omega), zU_at, if_pos (by omega), i242_65, g1, mB1_i]
    exact hm
  have cls1 : mGd ar (d + 61) 91 0 [.ref 172, .double 0] [] (zW K A O t) = mGd ar (d + 61) 91 24 [.ref 172, .int (zI f)] [] (zW K C O t) := by
    rw [i91_0, ca, mB1_i, i91_9 (by omega), if_neg hf, i91_17, v1, mB0_i]
  rcases c_takeL (d := d + 59) (K := K) (O := O) (t := t) (ar := ar) (A := C) (lo := 0) (hi := 20) v3 v2 (by omega) (by omega) with ⟨hN, D, u1, u2, u3, u4, u5⟩ | ⟨hN, u1⟩
  case inr =>
    refine zQl_no (A' := C) ?_ (by rw [v2.1]; omega) v3 (zKw_1 (fun c c1 _ => v5 c c1)) (fun O' t' B hB => ?_)
    · rw [cls1, i91_24, u1, mB1n_i, i91_31 (by omega), if_pos rfl, i91_34]
    · obtain ⟨B3, v, y1, y2, y3, y4, y5, y6, y7, y8⟩ := refM O' t' B hB
      have hv := y3 hN
      subst hv
      refine ⟨zU B3 186 (1273 + 4 * (L.length : Int) + 1) (-1), y8 0 _ (by omega) ?_, zLw_trans y4 (zLw_u (by omega)), by rw [zU_r (by decide), y1, v2.1]⟩
      rw [i242_79 (by omega) (by omega) (by rw [zU_at]; omega), zU_at, if_neg (by omega), i242_91]
  have hv20 : 0 ≤ zVl T n (zBh T n p) ∧ zVl T n (zBh T n p) ≤ 20 := hN.2
  have hb2 := zBg_rng (T := T) (p := zBh T n (zBh T n p)) hbh1.2
  have hbh2 := zBh_rng (T := T) (p := zBh T n (zBh T n p)) hbh1.2
  obtain ⟨tb1, tb2, tb3, tb4, tb5, tb6⟩ := zTok_bg (T := T) (p := zBh T n (zBh T n p)) hbh1.2
  have q1lt : zBg T n (zBh T n p) < zBh T n (zBh T n p) := by
    have h1 := hN.1
    unfold zKd at h1
    unfold zBh
    have hw := zWe_rng (T := T) (p := zBh T n p) hbh.2
    split at h1
    · omega
    · next q =>
      split at h1
      · next q2 =>
        unfold zBh at q q2
        rw [if_neg q, if_pos q2]; exact q2
      · split at h1 <;> omega
  generalize hv0 : zVl T n (zBh T n p) = v0 at hv20 u2
  generalize hq2 : zBh T n (zBh T n p) = q2 at u3 hb2 hbh2 tb1 tb2 tb3 tb4 tb5 tb6 q1lt hbh1
  -- the line begun
  have d1 : D 163 1 = L.length := by rw [u5 163 (by decide) (by decide), v5 163 (by decide), h1]
  have d2 : D 163 2 = zLen L := by rw [u5 163 (by decide) (by decide), v5 163 (by decide), h2]
  generalize hE : zU (zU D 164 (L.length : Int) f) 165 (L.length : Int) v0 = E
  have kwE : zKw A E := by
    refine zKw_trans (zKw_1 (A := A) (B := D) (fun c c1 c2 => by rw [u5 c c1 c2, v5 c c1])) ⟨fun c _ c2 _ => by rw [← hE, zU_r (by omega), zU_r (by omega)], by rw [← hE, zU_r (by decide), zU_r (by decide)]⟩
  have hxE : zTx E T n := zTx_u u4 (by rw [← hE, zU_r (by decide), zU_r (by decide)]) (by rw [← hE, zU_r (by decide), zU_r (by decide)])
  have hkE : zTk E T n q2 := by unfold zTk; rw [← hE, zU_r (by decide), zU_r (by decide)]; exact u3
  have e1 : E 163 1 = L.length := by rw [← hE, zU_r (by decide), zU_r (by decide), d1]
  have e2 : E 163 2 = zLen L := by rw [← hE, zU_r (by decide), zU_r (by decide), d2]
  have e4 : E 164 L.length = f := by rw [← hE, zU_r (by decide), zU_at]
  have e5 : E 165 L.length = v0 := by rw [← hE, zU_at]
  have eL : zLwC E 163 0 0 L := by
    refine zLwC_cg (A := A) (fun i i0 i1 => ⟨?_, ?_, ?_⟩) (fun i _ _ => ?_) hL
    · rw [← hE, zU_r (by decide)]
      show zU D 164 (L.length : Int) f 164 i = A 164 i
      rw [zU_s (by omega), u5 164 (by decide) (by decide), v5 164 (by decide)]
    · rw [← hE]
      show zU (zU D 164 (L.length : Int) f) 165 (L.length : Int) v0 165 i = A 165 i
      rw [zU_s (by omega), zU_r (by decide), u5 165 (by decide) (by decide), v5 165 (by decide)]
    · rw [← hE, zU_r (by decide), zU_r (by decide), u5 (163 + 3) (by decide) (by decide), v5 (163 + 3) (by decide)]
    · rw [← hE, zU_r (by decide), zU_r (by decide), u5 (163 + 4) (by decide) (by decide), v5 (163 + 4) (by decide)]
  have cls2 : mGd ar (d + 61) 91 0 [.ref 172, .double 0] [] (zW K A O t) = mGd ar (d + 61) 91 48 [.ref 172, .int (zI f)] [] (zW K E O t) := by
    have m1 : (zU D (163 + 1) (L.length : Int) f) 163 1 = L.length := by rw [zU_r (by decide), d1]
    rw [cls1, i91_24, u1, mB1n_i, i91_31 (by omega), if_neg (by omega), i91_36, u2, i92_0 isLaw163 (by omega), if_neg (by omega), i92_9 isLaw163 (by omega) (by rw [d1, m1]; omega), d1, m1, i92_29 isLaw163, mB0_i]
    rw [← hE]
  obtain ⟨g, g1, g2, g3⟩ := c_isWord (d := d + 55) (K := K) (O := O) (t := t) (ar := ar) (A := E) hS (s := 3) (s' := 19) (by decide) zJw_tab.2.2.2.1 (by decide) hxE hkE (by omega)
  have refN : ∀ (O' : Nat → Int64) (t' : Nat) (B : Nat → Int → Int), zRw2 B T n p L → ∃ B5, zLw B B5 ∧ zTr B5 T n ∧ (g = 0 → B5 185 10 = zBg T n q2) ∧ (g = 1 → B5 185 10 = zBh T n q2) ∧ B5 185 13 = 0 ∧ B5 185 16 = zLen L ∧ B5 186 (1273 + 4 * (L.length : Int)) = f ∧ B5 186 (1273 + 4 * (L.length : Int) + 1) = v0 ∧ B5 186 (1273 + 4 * (L.length : Int) + 2) = zLen L ∧ zLwR (fun i => B5 186 (i + 849)) 0 0 L ∧ ∀ (r : Int) (B' : Nat → Int → Int), (r = 0 ∨ r = 1) → (if g = 0 then mGd ar (d + 61) 242 128 [.ref 185, .int (zI (L.length : Int)), .int (zI (1273 + 4 * (L.length : Int)))] [] (zW K B5 O' t') else mGd ar (d + 61) 242 119 [.ref 185, .int (zI (L.length : Int)), .int (zI (1273 + 4 * (L.length : Int)))] [] (zW K B5 O' t')) = some (.inl (some (.int (zI r))), zW K B' O' t') → mGd ar (d + 62) 228 0 [.ref 185, .int (zI 0), .int (zI (L.length : Int))] [] (zW K B O' t') = some (.inl (some (.int (zI r))), zW K B' O' t') := fun O' t' B hB => by
    obtain ⟨B3, v, y1, y2, y3, y4, y5, y6, y7, y8⟩ := refM O' t' B hB
    obtain ⟨z1, z2⟩ := y2 hN
    rw [hv0] at z1
    subst z1
    rw [hq2] at z2
    generalize hB4 : zU (zU (zU B3 186 (1273 + 4 * (L.length : Int) + 1) v) 186 (1273 + 4 * (L.length : Int) + 2) (zLen L)) 185 13 0 = B4
    have lw4 : zLw B B4 := by
      refine zLw_trans y4 (zLw_trans (zLw_u (i := 1273 + 4 * (L.length : Int) + 1) (v := v) (by omega)) (zLw_trans (zLw_u (i := 1273 + 4 * (L.length : Int) + 2) (v := zLen L) (by omega)) ?_))
      rw [← hB4]
      exact ⟨fun j _ _ a _ => zU_s a, fun c a _ => zU_r a, fun i _ => by rw [zU_r (by decide)]⟩
    obtain ⟨B5, r, w1, w2, w3, w4, w5, w6, w7⟩ := c_passes (d := d + 55) (K := K) (O := O') (t := t') (ar := ar) (A := B4) hS (s := 19) (by decide) (zTr_lw hB.1 lw4) (show 0 ≤ q2 ∧ q2 ≤ n by omega) (by rw [← hB4, zU_s (by decide), zU_r (by decide), zU_r (by decide), z2])
    have er : r = g := by
      by_cases hz : zIs T n q2 19
      · rw [w3.2 hz, g3.2 hz]
      · have q1 : r ≠ 1 := fun q => hz (w3.1 q)
        have q2 : g ≠ 1 := fun q => hz (g3.1 q)
        omega
    subst er
    have f6 : ∀ i, B5 186 i = B4 186 i := fun i => by rw [w7.2 186 (by decide)]
    have f46 : ∀ i, i ≠ 1273 + 4 * (L.length : Int) + 1 → i ≠ 1273 + 4 * (L.length : Int) + 2 → B4 186 i = B3 186 i := fun i i1 i2 => by rw [← hB4, zU_r (by decide), zU_s i2, zU_s i1]
    refine ⟨B5, zLw_trans lw4 (zLw_fp w7), zTr_fp (zTr_lw hB.1 lw4) w7, w6, w5, ?_, ?_, ?_, ?_, ?_, ?_, fun r' B' hr hm => y8 r' B' hr ?_⟩
    · rw [w7.1 13 (by decide) (by decide), ← hB4, zU_at]
    · rw [w7.1 16 (by decide) (by decide), ← hB4, zU_s (by decide), zU_r (by decide), zU_r (by decide), y5]
    · rw [f6, f46 _ (by omega) (by omega), y6]
    · rw [f6, ← hB4, zU_r (by decide), zU_s (by omega), zU_at]
    · rw [f6, ← hB4, zU_r (by decide), zU_at]
    · refine zLwR_cg (fun i i0 i1 => ?_) (fun i i0 i1 => ?_) hB.2.2.2
      · show B5 186 (i + 849) = B 186 (i + 849)
        rw [f6, f46 _ (by omega) (by omega), y7 _ (by omega)]
      · show B5 186 (i + 849) = B 186 (i + 849)
        rw [f6, f46 _ (by omega) (by omega), y7 _ (by omega)]
    · have k5 : (zU B3 186 (1273 + 4 * (L.length : Int) + 1) v) 185 16 = zLen L := by rw [zU_r (by decide), y5]
      rw [i242_79 (by omega) (by omega) (by rw [zU_at]; omega), zU_at, if_pos (by omega), i242_93 (by omega), k5, hB4, w1, mB1_i, i242_116 (by omega)]
      exact hm
  rcases g2 with g0 | g0
  · refine zQl_ok (A' := zU (zU E 166 (L.length : Int) (E 163 2)) 163 1 ((L.length : Int) + 1)) (p' := zBg T n q2) (L' := L ++ [(f, v0, [])]) ?_ (zCw_end hxE (by omega) (zTk_bg (by omega) hkE) e1 (by rw [e2]; simp) eL hok hln (by simp; omega) (by omega) hv20 (Or.inl rfl) e4 e5 rfl) (by rw [List.length_append]; rfl) (zKw_trans kwE ⟨fun c _ c2 _ => by rw [zU_r (by omega), zU_r (by omega)], by rw [zU_s (by decide), zU_r (by decide)]⟩) (fun O' t' B hB => ?_)
    · rw [cls2, i91_48, g1, mB1_i, i91_57 (by omega), if_pos g0, i91_77, c_endLine e1 (by omega), mB0_i, i91_84]
    · obtain ⟨B5, y1, y2, y3, -, y5, y6, y7, y8, y9, y10, y11⟩ := refN O' t' B hB
      refine ⟨zU B5 186 (1273 + 4 * (L.length : Int) + 3) (B5 185 16), y11 1 _ (by omega) ?_, zLw_trans y1 (zLw_u (by omega)), zRw2_end y2 (y3 g0) (by rw [y6]; simp) y10 hln y7 y8 y9 trivial⟩
      rw [if_pos g0, i242_128 (by omega)]
  · have hw := g3.1 g0
    have kd2 := zIs_kd (by omega) (by decide) hw
    have bh2 := zIs_bh (by omega) (by decide) hw
    obtain ⟨F, w1, w2, w3, w4, w5⟩ := c_advance (d := d + 60) (K := K) (O := O) (t := t) (ar := ar) (A := E) hxE hkE.2.1 (by omega)
    have clF : zCl F T n (zBh T n q2) (zLen L) [] := ⟨w3, by omega, w2, by rw [w5 163 (by decide), e2]; simp, rfl, hnn, by simp; omega⟩
    obtain ⟨A1, r, p1, cs1, c1, c2, c3, c4, c5, c6, c7⟩ := pair_condition (d := d) (K := K) (O := O) (t := t) (ar := ar) hS (zBh T n q2) [] clF rfl
    have kwF : zKw A F := zKw_trans kwE (zKw_1 (fun c a _ => w5 c a))
    have cls3 : mGd ar (d + 61) 91 0 [.ref 172, .double 0] [] (zW K A O t) = if r = 0 then some (.inl (some (.int (zI 0))), zW K A1 O t) else mGd ar (d + 61) 91 77 [.ref 172, .int (zI f)] [] (zW K A1 O t) := by
      rw [cls2, i91_48, g1, mB1_i, i91_57 (by omega), if_neg (by omega), i91_60, w1, mB0_i, i91_67, c1, mB1_i, i91_72 (by omega), i91_75]
    have refR : ∀ (O' : Nat → Int64) (t' : Nat) (B5 : Nat → Int → Int), zTr B5 T n → B5 185 10 = zBh T n q2 → B5 185 13 = 0 → B5 185 16 = zLen L → zRl B5 T n (zBh T n q2) (zLen L) [] 0 := fun O' t' B5 b1 b2 b3 b4 => ⟨b1, b2, b3, by rw [b4]; simp, trivial⟩
    rcases c2 with r0 | r0
    · subst r0
      rw [if_pos rfl] at cls3
      refine zQl_no (A' := A1) cls3 (c4 rfl) c5 (zKw_trans kwF (zKl_kw c6)) (fun O' t' B hB => ?_)
      obtain ⟨B5, y1, y2, -, y4, y5, y6, y7, y8, y9, y10, y11⟩ := refN O' t' B hB
      obtain ⟨B6, x1, x2, -, x4⟩ := c7 O' t' B5 (refR O' t' B5 y2 (y4 g0) y5 y6)
      refine ⟨B6, y11 0 _ (by omega) ?_, zLw_trans y1 (zLl_lw hnn x2), x4 rfl⟩
      rw [if_neg (by omega), i242_119, x1, mB1_i, i242_123 (by omega), if_pos rfl, i242_126]
    · subst r0
      rw [if_neg (by omega)] at cls3
      obtain ⟨f1, f2, f3⟩ := c3 rfl
      obtain ⟨hx1, hp1, hk1, h21, hl1, he0, hsl1⟩ := id f1
      have k1 : A1 163 1 = L.length := by rw [c6.2.1 1 (by decide), w5 163 (by decide), e1]
      have kc : ∀ c, c = 164 ∨ c = 165 ∨ c = 166 → A1 c = E c := fun c hc => by rw [c6.1 c (by omega) (by omega) (by omega) (by omega), w5 c (by omega)]
      have kL : zLwC A1 163 0 0 L := by
        refine zLwC_cg (A := E) (fun i i0 i1 => ⟨by rw [kc (163 + 1) (by omega)], by rw [kc (163 + 2) (by omega)], by rw [kc (163 + 3) (by omega)]⟩) (fun i i0 i1 => ?_) eL
        rw [Int.zero_add] at i1
        show A1 167 i = E 167 i
        rw [c6.2.2 i i1, w5 167 (by decide)]
      refine zQl_ok (A' := zU (zU A1 166 (L.length : Int) (A1 163 2)) 163 1 ((L.length : Int) + 1)) (p' := p1) (L' := L ++ [(f, v0, cs1)]) ?_ (zCw_end hx1 hp1 hk1 k1 h21 kL hok hln (by omega) (by omega) hv20 (Or.inr f3) (by rw [kc 164 (by omega), e4]) (by rw [kc 165 (by omega), e5]) hl1) (by rw [List.length_append]; rfl) (zKw_trans kwF (zKw_trans (zKl_kw c6) ⟨fun c _ c2 _ => by rw [zU_r (by omega), zU_r (by omega)], by rw [zU_s (by decide), zU_r (by decide)]⟩)) (fun O' t' B hB => ?_)
      · rw [cls3, i91_77, c_endLine k1 (by omega), mB0_i, i91_84]
      · obtain ⟨B5, y1, y2, -, y4, y5, y6, y7, y8, y9, y10, y11⟩ := refN O' t' B hB
        obtain ⟨B6, x1, x2, x3, -⟩ := c7 O' t' B5 (refR O' t' B5 y2 (y4 g0) y5 y6)
        obtain ⟨hR1, hR2, hR3, hR4, hR5⟩ := x3 rfl
        have f6 : ∀ i, i < 1321 + 2 * zLen L → B6 186 i = B5 186 i := x2.2.2
        refine ⟨zU B6 186 (1273 + 4 * (L.length : Int) + 3) (B6 185 16), y11 1 _ (by omega) ?_, zLw_trans y1 (zLw_trans (zLl_lw hnn x2) (zLw_u (by omega))), zRw2_end hR1 hR2 hR4 (zLwR_cg (fun i i0 i1 => f6 _ (by omega)) (fun i i0 i1 => f6 _ (by omega)) y10) hln (by rw [f6 _ (by omega), y7]) (by rw [f6 _ (by omega), y8]) (by rw [f6 _ (by omega), y9]) hR5⟩
        rw [if_neg (by omega), i242_119, x1, mB1_i, i242_123 (by omega), if_neg (by omega), i242_128 (by omega)]
end LREAD
