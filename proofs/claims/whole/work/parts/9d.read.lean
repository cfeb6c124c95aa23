/-! TEXTS, 8: the lines of the hall's text -/
section DEEP
variable {ar : Nat → Nat × (Nat → Int32)}
theorem mGo_dp : ∀ {n d M pc : Nat} {l st : List Value} {w : mW} {r : mEnd × mW}, mGo ar n d M pc l st w = some r → mGo ar n (d + 1) M pc l st w = some r := by
  intro n
  induction n with
  | zero => intro d M pc l st w r h; unfold mGo at h; cases h
  | succ n ih =>
    intro d M pc l st w r h
    obtain ⟨E, w'⟩ := r
    obtain ⟨i, len, hf, h1 | h1 | h1 | h1 | h1⟩ := mGo_cases h
    · obtain ⟨rfl, x, ty, rfl, h2, h3, rfl, rfl⟩ := h1
      exact mI_ir hf h2 h3
    · obtain ⟨rfl, rfl, h2, rfl, rfl⟩ := h1
      exact mI_rt hf h2
    · obtain ⟨x, rfl, h8, rfl, rfl⟩ := h1
      exact mI_th hf h8
    · obtain ⟨M', k, d', hcal, rfl, hok, h2 | h2⟩ := h1
      · obtain ⟨v, w1, h3, h4⟩ := h2
        rw [mI_ca hf hcal hok, ih h3]
        exact ih h4
      · obtain ⟨x, w1, h3, h4, h5⟩ := h2
        rw [mI_ca hf hcal hok, ih h3]
        unfold mBk
        dsimp only
        rw [if_pos h4]
        rcases h5 with ⟨pc', j, h6, h7, h8⟩ | ⟨h6, rfl, rfl⟩
        · rw [h6]
          dsimp only
          rw [if_pos h7]
          exact ih h8
        · rw [h6]
    · obtain ⟨z, h2, h3⟩ := h1
      rw [mI_st hf h2]
      exact ih h3
theorem mGd_dp1 {d M pc : Nat} {l st : List Value} {w : mW} {r : mEnd × mW} (h : mGd ar d M pc l st w = some r) : mGd ar (d + 1) M pc l st w = some r := by
  obtain ⟨n, hn⟩ := mGd_iff.mp h
  exact mGd_iff.mpr ⟨n, mGo_dp hn⟩
theorem mGd_dp {d D M pc : Nat} {l st : List Value} {w : mW} {r : mEnd × mW} (h : mGd ar d M pc l st w = some r) (hd : d ≤ D) : mGd ar D M pc l st w = some r := by
  induction hd with
  | refl => exact h
  | step _ ih => exact mGd_dp1 ih
end DEEP
section READ
variable {ar : Nat → Nat × (Nat → Int32)} {d t : Nat} {K : Nat → Nat → Option Nat} {A : Nat → Int → Int} {O : Nat → Int64}
theorem zPh_dp {D1 M1 D2 M2 E1 E2 : Nat} {l1 l2 : List Value} {T : Int → Int} {n p : Int} {h : Int → Int} (hP : zPh ar K O t D1 M1 l1 D2 M2 l2 A T n p h) (h1 : D1 ≤ E1) (h2 : D2 ≤ E2) : zPh ar K O t E1 M1 l1 E2 M2 l2 A T n p h := by
  obtain ⟨A', r, p', h', e1, e2, e3, e4, e5, e6, e7⟩ := hP
  refine ⟨A', r, p', h', mGd_dp e1 h1, e2, e3, e4, e5, e6, fun O' t' B b1 b2 b3 => ?_⟩
  obtain ⟨B', x1, x2⟩ := e7 O' t' B b1 b2 b3
  exact ⟨B', mGd_dp x1 h2, x2⟩
theorem zPh_line {D1 M1 D2 M2 E1 N1 E2 N2 : Nat} {l1 l2 k1 k2 : List Value} {T : Int → Int} {n p q : Int} {h : Int → Int} {C : Nat → Int → Int} (hk : zKf A C) (hpq : p ≤ q) (hP : zPh ar K O t D1 M1 l1 D2 M2 l2 C T n q h) (hc : ∀ (r : Int) (A' : Nat → Int → Int), (r = 0 ∨ r = 1) → mGd ar D1 M1 0 l1 [] (zW K C O t) = some (.inl (some (.int (zI r))), zW K A' O t) → mGd ar E1 N1 0 k1 [] (zW K A O t) = some (.inl (some (.int (zI r))), zW K A' O t)) (hr : ∀ (O' : Nat → Int64) (t' : Nat) (B : Nat → Int → Int), zTr B T n → B 185 10 = p → B 186 = h → ∃ B2, zFp B B2 ∧ B2 185 10 = q ∧ ∀ (r : Int) (B' : Nat → Int → Int), (r = 0 ∨ r = 1) → mGd ar D2 M2 0 l2 [] (zW K B2 O' t') = some (.inl (some (.int (zI r))), zW K B' O' t') → mGd ar E2 N2 0 k2 [] (zW K B O' t') = some (.inl (some (.int (zI r))), zW K B' O' t')) : zPh ar K O t E1 N1 k1 E2 N2 k2 A T n p h := by
  obtain ⟨A', r, p', h', e1, e2, e3, e4, e5, e6, e7⟩ := hP
  refine ⟨A', r, p', h', hc r A' e2 e1, e2, fun q => ⟨(e3 q).1, by have := (e3 q).2; omega⟩, e4, e5, zKf_trans hk e6, fun O' t' B b1 b2 b3 => ?_⟩
  obtain ⟨B2, y1, y2, y3⟩ := hr O' t' B b1 b2 b3
  obtain ⟨B', x1, x2, x3⟩ := e7 O' t' B2 (zTr_fp b1 y1) y2 (by rw [y1.2 186 (by decide), b3])
  exact ⟨B', y3 r B' e2 x1, zLf_trans (zLf_fp y1) x2, x3⟩
theorem c_rW (hS : zArs ar) {T : Int → Int} {n p : Int} {s : Nat} (hs : s < 31) (hx : zTr A T n) (hp : 0 ≤ p ∧ p ≤ n) (h12 : A 185 12 = zBg T n p) (h10 : A 185 10 = zWe T n p) (h : zIs T n p s) : mGd ar (d + 4) 231 0 [.ref 185, .retAddr s, .double 0, .double 0] [] (zW K A O t) = some (.inl (some (.int (zI 1))), zW K A O t) := by
  obtain ⟨r, r1, r2, r3⟩ := c_rIsWord (d := d) (K := K) (O := O) (t := t) (ar := ar) hS hs hx hp h12 h10
  rw [r3.2 h] at r1
  exact r1
theorem c_rNW (hS : zArs ar) {T : Int → Int} {n p : Int} {s : Nat} (hs : s < 31) (hx : zTr A T n) (hp : 0 ≤ p ∧ p ≤ n) (h12 : A 185 12 = zBg T n p) (h10 : A 185 10 = zWe T n p) (h : ¬ zIs T n p s) : mGd ar (d + 4) 231 0 [.ref 185, .retAddr s, .double 0, .double 0] [] (zW K A O t) = some (.inl (some (.int (zI 0))), zW K A O t) := by
  obtain ⟨r, r1, r2, r3⟩ := c_rIsWord (d := d) (K := K) (O := O) (t := t) (ar := ar) hS hs hx hp h12 h10
  have : r = 0 := by
    rcases r2 with q | q
    · exact q
    · exact absurd (r3.1 q) h
  rw [this] at r1
  exact r1
theorem pair_line (hS : zArs ar) {T : Int → Int} {n p ln : Int} {h : Int → Int} (hC : zCp A T n p h) (hln : 0 ≤ ln ∧ ln < 14) : zPh ar K O t (d + 8) 70 [.ref 170, .double 0] (d + 9) 228 [.ref 185, .int (zI 1), .int (zI ln)] A T n p h := by
  obtain ⟨hx, hp, hk, hwf, hr⟩ := id hC
  have w0 := hwf.1.1
  have m0 : A 145 0 = h 0 := hr.1.1
  have hb := zBg_rng (T := T) hp.2
  have hbh := zBh_rng (T := T) hp.2
  have ca := c_among (d := d + 3) (K := K) (O := O) (t := t) (ar := ar) hS (s := 0) (by decide) zJw_tab.1 (by simp) (by decide) hx hk hp
  have fr := zFi_rng (T := T) (n := n) (p := p) (L := [9, 10, 11, 12, 13, 14]) (k := 0)
  have hlen : (([9, 10, 11, 12, 13, 14] : List Nat).length : Int) = 6 := rfl
  rw [hlen] at fr
  have fdef : zFi T n p [9, 10, 11, 12, 13, 14] 0 = @ite Int (zIs T n p 9) (Classical.propDecidable _) 0 (@ite Int (zIs T n p 10) (Classical.propDecidable _) 1 (@ite Int (zIs T n p 11) (Classical.propDecidable _) 2 (@ite Int (zIs T n p 12) (Classical.propDecidable _) 3 (@ite Int (zIs T n p 13) (Classical.propDecidable _) 4 (@ite Int (zIs T n p 14) (Classical.propDecidable _) 5 (-1)))))) := rfl
  have refL : ∀ (O' : Nat → Int64) (t' : Nat) (B : Nat → Int → Int), zTr B T n → B 185 10 = p → B 186 = h → ∃ B2, zFp B B2 ∧ B2 185 10 = zWe T n p ∧ B2 185 12 = zBg T n p ∧ zTr B2 T n ∧ (∀ s, s < 31 → zIs T n p s → mGd ar (d + 7) 231 0 [.ref 185, .retAddr s, .double 0, .double 0] [] (zW K B2 O' t') = some (.inl (some (.int (zI 1))), zW K B2 O' t')) ∧ (∀ s, s < 31 → ¬ zIs T n p s → mGd ar (d + 7) 231 0 [.ref 185, .retAddr s, .double 0, .double 0] [] (zW K B2 O' t') = some (.inl (some (.int (zI 0))), zW K B2 O' t')) ∧ ∀ (r : Int) (B' : Nat → Int → Int), (r = 0 ∨ r = 1) → mGd ar (d + 8) 230 0 [.ref 185] [] (zW K B2 O' t') = some (.inl (some (.int (zI r))), zW K B' O' t') → mGd ar (d + 9) 228 0 [.ref 185, .int (zI 1), .int (zI ln)] [] (zW K B O' t') = some (.inl (some (.int (zI r))), zW K B' O' t') := fun O' t' B b1 b2 b3 => by
    obtain ⟨B2, y1, y2, y3, y4⟩ := c_letters (d := d + 6) (K := K) (O := O') (t := t') (ar := ar) (A := B) b1 b2 hp
    refine ⟨B2, y4, y2, y3, zTr_fp b1 y4, fun s hs h => c_rW (d := d + 3) hS hs (zTr_fp b1 y4) hp y3 y2 h, fun s hs h => c_rNW (d := d + 3) hS hs (zTr_fp b1 y4) hp y3 y2 h, fun r B' hr hm => ?_⟩
    rw [i228_0, y1, mB0_i, i228_4 (by omega), if_neg (by omega), i228_9, i228_16 (by omega) (by omega), if_neg (by omega), i228_19 (by omega), if_neg (by omega), i228_23, hm, mB1_i, i228_27 (by omega)]
    rcases hr with q | q
    · rw [if_pos q, i228_45, i228_46 (by omega), q]
    · rw [if_neg (by omega), i228_30, i228_41, i228_46 (by omega), q]
  by_cases hno : zFi T n p [9, 10, 11, 12, 13, 14] 0 = -1
  · refine zPh_no (A' := A) ?_ (by rw [hk.1]; omega) hx zKf_refl (fun O' t' B b1 b2 b3 => ?_)
    · rw [i70_0, ca, mB1_i, i70_9 (by omega), if_pos hno, i70_31]
    · obtain ⟨B2, y1, y2, y3, y4, yes, no, y5⟩ := refL O' t' B b1 b2 b3
      rw [fdef] at hno
      have a9 : ¬ zIs T n p 9 := fun q => by rw [if_pos q] at hno; omega
      rw [if_neg a9] at hno
      have a10 : ¬ zIs T n p 10 := fun q => by rw [if_pos q] at hno; omega
      rw [if_neg a10] at hno
      have a11 : ¬ zIs T n p 11 := fun q => by rw [if_pos q] at hno; omega
      rw [if_neg a11] at hno
      have a12 : ¬ zIs T n p 12 := fun q => by rw [if_pos q] at hno; omega
      rw [if_neg a12] at hno
      have a13 : ¬ zIs T n p 13 := fun q => by rw [if_pos q] at hno; omega
      rw [if_neg a13] at hno
      have a14 : ¬ zIs T n p 14 := fun q => by rw [if_pos q] at hno; omega
      refine ⟨B2, y5 0 B2 (by omega) ?_, zLf_fp y1, by rw [y3, hk.1]⟩
      rw [i230_0, no 9 (by decide) a9, mB1_i, i230_6 (by omega), if_pos rfl, i230_14, no 10 (by decide) a10, mB1_i, i230_20 (by omega), if_pos rfl, i230_28, no 11 (by decide) a11, mB1_i, i230_34 (by omega), if_pos rfl, i230_42, no 12 (by decide) a12, mB1_i, i230_48 (by omega), if_pos rfl, i230_59, no 13 (by decide) a13, mB1_i, i230_65 (by omega), if_pos rfl, i230_75, no 14 (by decide) a14, mB1_i, i230_81 (by omega), if_pos rfl, i230_95, i230_96 (by omega)]
  -- a word is there
  have kd : zBg T n p < zWe T n p := by
    by_cases q : zBg T n p < zWe T n p
    · exact q
    · exact absurd (zFi_no hp.2 q (by decide)) hno
  have bhw : zBh T n p = zWe T n p := by unfold zBh; rw [if_pos kd]
  obtain ⟨C, v1, v2, v3, v4, v5⟩ := c_advance (d := d + 7) (K := K) (O := O) (t := t) (ar := ar) (A := A) hx hk.2.1 (by omega)
  have kfC : zKf A C := fun c c1 _ _ _ => v5 c c1
  have hCC : zCp C T n (zBh T n p) h := ⟨v3, by omega, v2, hwf, zHR_same (fun c c1 c2 => v5 c (by omega)) hwf hr⟩
  have cls : ∀ x, zFi T n p [9, 10, 11, 12, 13, 14] 0 = x → (x ≠ 0 ∨ h 0 < 8) → mGd ar (d + 8) 70 0 [.ref 170, .double 0] [] (zW K A O t) = mGd ar (d + 8) 70 40 [.ref 170, .int (zI x)] [] (zW K C O t) := fun x ex hx0 => by
    rw [i70_0, ca, ex, mB1_i, i70_9 (by omega), if_neg (by omega), i70_15 (by omega)]
    by_cases x0 : x = 0
    · rw [if_pos x0, i70_19 (by omega), if_pos (by omega), i70_33, v1, mB0_i]
    · rw [if_neg x0, i70_33, v1, mB0_i]
  by_cases a9 : zIs T n p 9
  · have ex : zFi T n p [9, 10, 11, 12, 13, 14] 0 = 0 := by rw [fdef, if_pos a9]
    by_cases h8 : h 0 < 8
    · refine zPh_line kfC (by omega) (zPh_dp (pair_person (d := d) hS hCC h8) (show d + 6 ≤ d + 7 by omega) (show d + 7 ≤ d + 7 by omega)) (fun r A' hr hm => ?_) (fun O' t' B b1 b2 b3 => ?_)
      · rw [cls 0 ex (Or.inr h8), i70_40 (by omega), if_pos rfl, i70_76, hm, mB1_i, i70_80 hr]
      · obtain ⟨B2, y1, y2, y3, y4, yes, no, y5⟩ := refL O' t' B b1 b2 b3
        refine ⟨B2, y1, by rw [y2, bhw], fun r B' hr hm => y5 r B' hr ?_⟩
        rw [i230_0, yes 9 (by decide) a9, mB1_i, i230_6 (by omega), if_neg (by omega), i230_9, hm, mB1_i, i230_13 hr]
    · refine zPh_no (A' := A) ?_ (by rw [hk.1]; omega) hx zKf_refl (fun O' t' B b1 b2 b3 => ?_)
      · rw [i70_0, ca, ex, mB1_i, i70_9 (by omega), if_neg (by omega), i70_15 (by omega), if_pos rfl, i70_19 (by omega), if_neg (by omega), i70_31]
      · obtain ⟨B2, y1, y2, y3, y4, yes, no, y5⟩ := refL O' t' B b1 b2 b3
        have eb : B2 186 0 = h 0 := by rw [y1.2 186 (by decide), b3]
        refine ⟨B2, y5 0 B2 (by omega) ?_, zLf_fp y1, by rw [y3, hk.1]⟩
        rw [i230_0, yes 9 (by decide) a9, mB1_i, i230_6 (by omega), if_neg (by omega), i230_9, i232_0, i233_0, mB1_i, eb, i232_4 (by omega), if_pos (by omega), i232_23, mB1_i, i230_13 (by omega)]
  by_cases a10 : zIs T n p 10
  · have ex : zFi T n p [9, 10, 11, 12, 13, 14] 0 = 1 := by rw [fdef, if_neg a9, if_pos a10]
    refine zPh_line kfC (by omega) (zPh_dp (pair_stub (d := d) hCC) (show d + 6 ≤ d + 7 by omega) (show d + 7 ≤ d + 7 by omega)) (fun r A' hr hm => ?_) (fun O' t' B b1 b2 b3 => ?_)
    · rw [cls 1 ex (by omega), i70_40 (by omega), if_neg (by omega), if_pos rfl, i70_81, hm, mB1_i, i70_85 hr]
    · obtain ⟨B2, y1, y2, y3, y4, yes, no, y5⟩ := refL O' t' B b1 b2 b3
      refine ⟨B2, y1, by rw [y2, bhw], fun r B' hr hm => y5 r B' hr ?_⟩
      rw [i230_0, no 9 (by decide) a9, mB1_i, i230_6 (by omega), if_pos rfl, i230_14, yes 10 (by decide) a10, mB1_i, i230_20 (by omega), if_neg (by omega), i230_23, hm, mB1_i, i230_27 hr]
  by_cases a11 : zIs T n p 11
  · have ex : zFi T n p [9, 10, 11, 12, 13, 14] 0 = 2 := by rw [fdef, if_neg a9, if_neg a10, if_pos a11]
    refine zPh_line kfC (by omega) (zPh_dp (pair_rule (d := d) hCC) (show d + 6 ≤ d + 7 by omega) (show d + 7 ≤ d + 7 by omega)) (fun r A' hr hm => ?_) (fun O' t' B b1 b2 b3 => ?_)
    · rw [cls 2 ex (by omega), i70_40 (by omega), if_neg (by omega), if_neg (by omega), if_pos rfl, i70_86, hm, mB1_i, i70_90 hr]
    · obtain ⟨B2, y1, y2, y3, y4, yes, no, y5⟩ := refL O' t' B b1 b2 b3
      refine ⟨B2, y1, by rw [y2, bhw], fun r B' hr hm => y5 r B' hr ?_⟩
      rw [i230_0, no 9 (by decide) a9, mB1_i, i230_6 (by omega), if_pos rfl, i230_14, no 10 (by decide) a10, mB1_i, i230_20 (by omega), if_pos rfl, i230_28, yes 11 (by decide) a11, mB1_i, i230_34 (by omega), if_neg (by omega), i230_37, hm, mB1_i, i230_41 hr]
  by_cases a12 : zIs T n p 12
  · have ex : zFi T n p [9, 10, 11, 12, 13, 14] 0 = 3 := by rw [fdef, if_neg a9, if_neg a10, if_neg a11, if_pos a12]
    refine zPh_line kfC (by omega) (zPh_dp (pair_strike (d := d) hCC) (show d + 6 ≤ d + 7 by omega) (show d + 7 ≤ d + 7 by omega)) (fun r A' hr hm => ?_) (fun O' t' B b1 b2 b3 => ?_)
    · rw [cls 3 ex (by omega), i70_40 (by omega), if_neg (by omega), if_neg (by omega), if_neg (by omega), if_pos rfl, i70_91, hm, mB1_i, i70_95 hr]
    · obtain ⟨B2, y1, y2, y3, y4, yes, no, y5⟩ := refL O' t' B b1 b2 b3
      refine ⟨B2, y1, by rw [y2, bhw], fun r B' hr hm => y5 r B' hr ?_⟩
      rw [i230_0, no 9 (by decide) a9, mB1_i, i230_6 (by omega), if_pos rfl, i230_14, no 10 (by decide) a10, mB1_i, i230_20 (by omega), if_pos rfl, i230_28, no 11 (by decide) a11, mB1_i, i230_34 (by omega), if_pos rfl, i230_42, yes 12 (by decide) a12, mB1_i, i230_48 (by omega), if_neg (by omega), i230_51, hm, mB1_i, i230_58 hr]
  by_cases a13 : zIs T n p 13
  · have ex : zFi T n p [9, 10, 11, 12, 13, 14] 0 = 4 := by rw [fdef, if_neg a9, if_neg a10, if_neg a11, if_neg a12, if_pos a13]
    refine zPh_line kfC (by omega) (zPh_dp (pair_man (d := d) hCC) (show d + 6 ≤ d + 7 by omega) (show d + 6 ≤ d + 7 by omega)) (fun r A' hr hm => ?_) (fun O' t' B b1 b2 b3 => ?_)
    · rw [cls 4 ex (by omega), i70_40 (by omega), if_neg (by omega), if_neg (by omega), if_neg (by omega), if_neg (by omega), if_pos rfl, i70_96, hm, mB1_i, i70_100 hr]
    · obtain ⟨B2, y1, y2, y3, y4, yes, no, y5⟩ := refL O' t' B b1 b2 b3
      refine ⟨B2, y1, by rw [y2, bhw], fun r B' hr hm => y5 r B' hr ?_⟩
      rw [i230_0, no 9 (by decide) a9, mB1_i, i230_6 (by omega), if_pos rfl, i230_14, no 10 (by decide) a10, mB1_i, i230_20 (by omega), if_pos rfl, i230_28, no 11 (by decide) a11, mB1_i, i230_34 (by omega), if_pos rfl, i230_42, no 12 (by decide) a12, mB1_i, i230_48 (by omega), if_pos rfl, i230_59, yes 13 (by decide) a13, mB1_i, i230_65 (by omega), if_neg (by omega), i230_68, hm, mB1_i, i230_74 hr]
  have a14 : zIs T n p 14 := by
    by_cases q : zIs T n p 14
    · exact q
    · rw [fdef, if_neg a9, if_neg a10, if_neg a11, if_neg a12, if_neg a13, if_neg q] at hno
      exact absurd rfl hno
  have ex : zFi T n p [9, 10, 11, 12, 13, 14] 0 = 5 := by rw [fdef, if_neg a9, if_neg a10, if_neg a11, if_neg a12, if_neg a13, if_pos a14]
  refine zPh_line kfC (by omega) (zPh_dp (pair_numb (d := d) hCC) (show d + 6 ≤ d + 7 by omega) (show d + 7 ≤ d + 7 by omega)) (fun r A' hr hm => ?_) (fun O' t' B b1 b2 b3 => ?_)
  · rw [cls 5 ex (by omega), i70_40 (by omega), if_neg (by omega), if_neg (by omega), if_neg (by omega), if_neg (by omega), if_neg (by omega), i70_101, hm, mB1_i, i70_105 hr]
  · obtain ⟨B2, y1, y2, y3, y4, yes, no, y5⟩ := refL O' t' B b1 b2 b3
    refine ⟨B2, y1, by rw [y2, bhw], fun r B' hr hm => y5 r B' hr ?_⟩
    rw [i230_0, no 9 (by decide) a9, mB1_i, i230_6 (by omega), if_pos rfl, i230_14, no 10 (by decide) a10, mB1_i, i230_20 (by omega), if_pos rfl, i230_28, no 11 (by decide) a11, mB1_i, i230_34 (by omega), if_pos rfl, i230_42, no 12 (by decide) a12, mB1_i, i230_48 (by omega), if_pos rfl, i230_59, no 13 (by decide) a13, mB1_i, i230_65 (by omega), if_pos rfl, i230_75, yes 14 (by decide) a14, mB1_i, i230_81 (by omega), if_neg (by omega), i230_84, hm, mB1_i, i230_88 (by omega)]
    rcases hr with q | q
    · rw [if_pos q, i230_95, i230_96 (by omega), q]
    · rw [if_neg (by omega), i230_91, i230_96 (by omega), q]
theorem zKd_0 {T : Int → Int} {n p : Int} (hp : p ≤ n) : zKd T n p = 0 ↔ zBg T n p = n := by
  have hb := zBg_rng (T := T) hp
  have hw := zWe_rng (T := T) hp
  have hd := zDe_rng (T := T) hp
  unfold zKd
  constructor
  · intro q
    split at q
    · omega
    · split at q
      · omega
      · split at q <;> omega
  · intro q
    rw [if_neg (by omega), if_neg (by omega), if_neg (by omega)]
end READ
