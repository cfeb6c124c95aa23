/-! TEXTS, 18: law, the call -/
section LAWQ
variable {ar : Nat → Nat × (Nat → Int32)} {d t : Nat} {K : Nat → Nat → Option Nat} {A : Nat → Int → Int} {O : Nat → Int64}
theorem q_law (hS : zArs ar) (hI : zInv A) : zQ ar K O t (d + 66) 102 [.ref 0] 253 [.ref 185, .double 0, .double 0] (fun E => if E = 0 then 1 else 0) A := by
  obtain ⟨⟨hwA, hrA⟩, -, ⟨t1, t2, t3⟩, hacts, himg, -, h176⟩ := id hI
  generalize hA0 : zU (zU (zU A 163 0 0) 163 1 0) 163 2 0 = A0
  have a0c : ∀ c, c ≠ 163 → A0 c = A c := fun c hc => by rw [← hA0, zU_r hc, zU_r hc, zU_r hc]
  have hx0 : zTx A0 (A 2) (A 1 1) := ⟨t1, by rw [a0c 1 (by decide)], fun i i0 i1 => ⟨by rw [a0c 2 (by decide)], (t3 i i0 i1).1⟩⟩
  obtain ⟨A1, f, p', L, q1, q2, q3, q5, q6⟩ := lread_all (d := d) (K := K) (O := O) (t := t) (ar := ar) (A := A0) hS hx0 (by rw [← hA0]; simp (disch := first | assumption | omega) only [zU_at, zU_c, zU_s, zU_r]) (by rw [← hA0]; simp (disch := first | assumption | omega) only [zU_at, zU_c, zU_s, zU_r])
  have q1' := mGd_dp q1 (show d + 63 ≤ d + 65 by omega)
  have f400 : -1 ≤ f ∧ f ≤ 400 := by omega
  generalize hA2 : zU (zU A1 0 15 f) 1 1 0 = A2
  have a15 : A2 0 15 = f := by rw [← hA2]; simp (disch := first | assumption | omega) only [zU_at, zU_c, zU_s, zU_r]
  have a11 : A2 1 1 = 0 := by rw [← hA2]; simp (disch := first | assumption | omega) only [zU_at, zU_c, zU_s, zU_r]
  have a21 : ∀ c, c ≠ 0 → c ≠ 1 → A2 c = A1 c := fun c n0 n1 => by rw [← hA2, zU_r n1, zU_r n0]
  have a2c : ∀ c, c ≠ 0 → c ≠ 1 → ¬ (163 ≤ c ∧ c ≤ 167) → c ≠ 172 → A2 c = A c := fun c n0 n1 n2 n3 => by rw [a21 c n0 n1, q3.1 c n1 n2 n3, a0c c (by omega)]
  have a00 : A2 0 14 = A 0 14 := by rw [← hA2, zU_r (by decide), zU_s (by decide), q3.1 0 (by decide) (by decide) (by decide), a0c 0 (by decide)]
  have a163 : A2 163 0 = 0 := by rw [a21 163 (by decide) (by decide), q3.2, ← hA0]; simp (disch := first | assumption | omega) only [zU_at, zU_c, zU_s, zU_r]
  have cls : mGd ar (d + 66) 102 0 [.ref 0] [] (zW K A O t) = if f = -1 then mGd ar (d + 66) 102 46 [.ref 0] [] (zW K A2 O t) else mGd ar (d + 66) 102 36 [.ref 0] [] (zW K A2 O t) := by
    rw [i102_0, i103_0 isLaw163, mB0_i, hA0, i102_7, q1', mB1n_i, i102_17 (by rw [hA2, a15]; omega), hA2, a15]
  have refS : ∀ (F : Nat → Int → Int) (O' : Nat → Int64) (t' : Nat), F 185 = A 185 → F 191 = A 191 → ∃ B r, mGd ar (d + 66) 253 0 [.ref 185, .double 0, .double 0] [] (zW K F O' t') = mGd ar (d + 66) 253 5 [.ref 185, .double 0, .double 0] [.int (zI r)] (zW K B O' t') ∧ (∀ j, j = 6 ∨ j = 7 ∨ j = 14 → B 185 j = A 185 j) ∧ B 185 0 = 0 ∧ B 185 9 = 0 ∧ (∀ c, c ≠ 185 → c ≠ 186 → B c = F c) ∧ (∀ i, i < 1273 → B 186 i = F 186 i) ∧ (f = -1 → r = L.length ∧ zLwR (fun i => B 186 (i + 849)) 0 0 L) ∧ (f ≠ -1 → r = -1 ∧ B 185 12 = f) := fun F O' t' f5 f91 => by
    obtain ⟨B, r, x1, x2, x3, x4, x5, x6, x7, x8⟩ := q6 O' t' F (by rw [f5]; exact t2) (fun i i0 i1 => ⟨by rw [f91]; exact (t3 i i0 i1).2, (t3 i i0 i1).1⟩)
    refine ⟨B, r, ?_, fun j hj => by rw [x2 j hj, f5], x3, x4, x5, x6, x7, x8⟩
    rw [i253_0, mGd_dp x1 (show d + 64 ≤ d + 65 by omega), mB1_i]
  by_cases hf : f = -1
  · rw [if_pos hf] at cls
    obtain ⟨hx1, hp1, hk1, k1, k2, k3, k4, k5, k6⟩ := q5 hf
    have hL2 : zLawC A2 163 L := ⟨by rw [a21 163 (by decide) (by decide)]; exact k1, k5, by have := hx1.1; omega, k4, zLwC_cg (A := A1) (fun i _ _ => ⟨by rw [a21 (163 + 1) (by decide) (by decide)], by rw [a21 (163 + 2) (by decide) (by decide)], by rw [a21 (163 + 3) (by decide) (by decide)]⟩) (fun i _ _ => by rw [a21 (163 + 4) (by decide) (by decide)]) k3⟩
    obtain ⟨A3, d1, d2, d3, d4⟩ := c_lawCopy (d := d + 65) (K := K) (O := O) (t := t) (ar := ar) (A := A2) isLaw12 isLaw163 (by omega) (Or.inl a163) hL2
    have d2' := d2
    obtain ⟨j1, j2, j3, j4, j5⟩ := d2'
    refine ⟨zU (zU A3 12 0 1) 19 0 0, Or.inl ⟨L.length, ?_, by omega, fun O' t' => ?_⟩⟩
    · rw [cls, i102_46, d1, mB0_i, i102_57, i61_0, mB0_i, i102_72, zU_r (by decide), zU_s (by decide), j1]
    · have fc : ∀ c, c ≠ 0 → c ≠ 1 → c ≠ 19 → ¬ (12 ≤ c ∧ c ≤ 16) → ¬ (163 ≤ c ∧ c ≤ 167) → c ≠ 172 → (zU (zU A3 12 0 1) 19 0 0) c = A c := fun c n0 n1 n19 n3 n4 n5 => by rw [zU_r n19, zU_r (by omega), d4 c (by omega), a2c c n0 n1 n4 n5]
      have f01 : ∀ c, c = 0 ∨ c = 1 → (zU (zU A3 12 0 1) 19 0 0) c = A2 c := fun c hc => by rw [zU_r (by omega), zU_r (by omega), d4 c (by omega)]
      obtain ⟨B, r, x1, x2, x3, x4, x5, x6, x7, -⟩ := refS (zU (zU A3 12 0 1) 19 0 0) O' t' (fc 185 (by decide) (by decide) (by decide) (by decide) (by decide) (by decide)) (fc 191 (by decide) (by decide) (by decide) (by decide) (by decide) (by decide))
      obtain ⟨r1, rL⟩ := x7 hf
      subst r1
      obtain ⟨C, y1, y2, y3, y4⟩ := rlaw_loop (d := d + 66) (K := K) (O := O') (t := t') (ar := ar) (A := zU (zU B 185 14 (-1)) 186 1272 (L.length : Int)) (x1 := (L.length : Int)) 849 0 (zU (zU B 185 14 (-1)) 186 1272 (L.length : Int)) (by omega) (by omega) (fun _ _ => rfl) (fun i i0 i1 => by omega) (fun _ _ => rfl)
      generalize hD : zU (zU C 186 2 1) 185 7 0 = D
      rw [hD] at y1
      have ec : ∀ c, c ≠ 185 → c ≠ 186 → D c = (zU (zU A3 12 0 1) 19 0 0) c := fun c n1 n2 => by rw [← hD, zU_r n1, zU_r n2, y2 c n2, zU_r n2, zU_r n1, x5 c n1 n2]
      have e5 : ∀ j, j ≠ 7 → j ≠ 14 → D 185 j = B 185 j := fun j n1 n2 => by rw [← hD, zU_s n1, zU_r (by decide), y2 185 (by decide), zU_r (by decide), zU_s n2]
      have e62 : D 186 2 = 1 := by rw [← hD, zU_r (by decide), zU_at]
      have e6C : ∀ i, i ≠ 2 → D 186 i = C 186 i := fun i hi => by rw [← hD, zU_r (by decide), zU_s hi]
      have e6l : ∀ i, i < 423 → i ≠ 2 → D 186 i = A 186 i := fun i i1 i2 => by
        rw [e6C i i2, y4 i (by omega), zU_s (by omega), zU_r (by decide), x6 i (by omega), fc 186 (by decide) (by decide) (by decide) (by decide) (by decide) (by decide)]
      have e6h : ∀ i, 423 < i → i < 1272 → D 186 i = B 186 (i + 849) := fun i i1 i2 => by
        have := y3 (i - 423) (by omega) (by omega)
        rw [show 423 + (i - 423) = i by omega, show 1272 + (i - 423) = i + 849 by omega] at this
        rw [e6C i (by omega), this, zU_s (by omega), zU_r (by decide)]
      have e423 : D 186 423 = L.length := by
        have := y3 0 (by omega) (by omega)
        rw [show (423 : Int) + 0 = 423 by omega, show (1272 : Int) + 0 = 1272 by omega] at this
        rw [e6C 423 (by omega), this, zU_at]
      have erow : ∀ i, 0 ≤ i → i < 423 → D 186 i = zPt (A 186) 2 1 i := fun i i0 i1 => by
        by_cases h2 : i = 2
        · rw [h2, e62, zPt_at]
        · rw [zPt_ne h2, e6l i i1 h2]
      have hwT : zHWf (zPt (A 186) 2 1) := ⟨zHW0_law hwA.1, zHWl_pt (by decide) hwA.2⟩
      have hrT : zHR A 3 (zPt (A 186) 2 1) := ⟨zHR0_law hwA.1 hrA.1, zLog_pt (by decide) hwA.2 hrA.2⟩
      have hZ := k5
      refine ⟨D, ?_, ?_, ⟨zHWf_congr erow hwT, zHR_congr erow hwT (zHR_same (fun c n1 n2 => by rw [ec c (by omega) (by omega), fc c (by omega) (by omega) (by omega) (by omega) (by omega) (by omega)]) hwT hrT)⟩, ⟨L, ⟨?_, j2, j3, j4, ?_⟩, Or.inr ⟨e62, e423, j2, j3, j4, ?_⟩, ?_⟩, ?_, zActs_none ?_ ?_ ?_, ?_, ⟨?_, ?_⟩, ?_⟩
      · rw [x1, i253_5 (by omega), if_pos (by omega), i253_18, i253_19 (by omega), if_pos (by omega), i253_31, i253_32, c_thr0, mB1_i, i253_36 (by omega), if_pos rfl, i253_41]
        exact y1
      · rw [e5 0 (by decide) (by decide), x3]
      · rw [ec 12 (by decide) (by decide), zU_r (by decide), zU_s (by decide)]; exact j1
      · refine zLwC_cg (A := A3) (fun i _ _ => ⟨?_, ?_, ?_⟩) (fun i _ _ => ?_) j5
        · rw [ec (12 + 1) (by decide) (by decide), zU_r (by decide), zU_r (by decide)]
        · rw [ec (12 + 2) (by decide) (by decide), zU_r (by decide), zU_r (by decide)]
        · rw [ec (12 + 3) (by decide) (by decide), zU_r (by decide), zU_r (by decide)]
        · rw [ec (12 + 4) (by decide) (by decide), zU_r (by decide), zU_r (by decide)]
      · exact zLwR_cg (fun i i0 i1 => e6h i (by omega) (by omega)) (fun i i0 i1 => e6h i (by omega) (by omega)) rL
      · rw [e62, ec 12 (by decide) (by decide), zU_r (by decide), zU_at]
      · have z1 : D 1 1 = 0 := by rw [ec 1 (by decide) (by decide), f01 1 (by omega), a11]
        exact ⟨by omega, by rw [z1, e5 9 (by decide) (by decide), x4], fun i i0 i1 => by omega⟩
      · rw [ec 19 (by decide) (by decide), zU_at]
      · rw [← hD, zU_at]
      · rw [ec 19 (by decide) (by decide), zU_s (by decide), zU_r (by decide), d4 19 (by omega), a2c 19 (by decide) (by decide) (by decide) (by decide)]
        exact hacts.2.2.1
      · obtain ⟨b1, b2, b3⟩ := himg
        unfold zImg
        rw [ec 0 (by decide) (by decide), f01 0 (by omega), a00, e5 6 (by decide) (by decide), x2 6 (by omega), ec 187 (by decide) (by decide), fc 187 (by decide) (by decide) (by decide) (by decide) (by decide) (by decide)]
        refine ⟨b1, b2, fun hk => ?_⟩
        obtain ⟨m1, m2, L', m3, m4, m5⟩ := b3 hk
        have em : ∀ c, 129 ≤ c → c < 143 → D c = A c := fun c n1 n2 => by rw [ec c (by omega) (by omega), fc c (by omega) (by omega) (by omega) (by omega) (by omega) (by omega)]
        exact ⟨m1, zHR_same (fun c n1 n2 => em c (by omega) (by omega)) m1 m2, L', zLawC_same m3 (fun c n1 n2 => em c (by omega) (by omega)), m4, by rw [em 138 (by omega) (by omega)]; exact m5⟩
      · rw [← hD, zU_s (by decide), zU_r (by decide), y2 185 (by decide), zU_r (by decide), zU_at, hD, ec 0 (by decide) (by decide), f01 0 (by omega), a15, hf]
      · rw [ec 0 (by decide) (by decide), f01 0 (by omega), a15]; exact f400
      · rw [ec 176 (by decide) (by decide), fc 176 (by decide) (by decide) (by decide) (by decide) (by decide) (by decide)]; exact h176
  · rw [if_neg hf] at cls
    refine ⟨A2, Or.inr ⟨0, ?_, by decide, fun O' t' => ?_⟩⟩
    · rw [cls, i102_36]
    · obtain ⟨B, r, x1, x2, x3, x4, x5, x6, -, x8⟩ := refS A2 O' t' (a2c 185 (by decide) (by decide) (by decide) (by decide)) (a2c 191 (by decide) (by decide) (by decide) (by decide))
      obtain ⟨r1, b12⟩ := x8 hf
      subst r1
      have e : ∀ c, c ≠ 0 → c ≠ 1 → ¬ (163 ≤ c ∧ c ≤ 167) → c ≠ 172 → c ≠ 185 → c ≠ 186 → (zU (zU B 185 14 f) 185 0 1) c = A c := fun c n0 n1 n2 n3 n4 n5 => by rw [zU_r n4, zU_r n4, x5 c n4 n5, a2c c n0 n1 n2 n3]
      have e01 : ∀ c, c = 0 ∨ c = 1 → (zU (zU B 185 14 f) 185 0 1) c = A2 c := fun c hc => by rw [zU_r (by omega), zU_r (by omega), x5 c (by omega) (by omega)]
      have e6 : ∀ i, i < 1273 → (zU (zU B 185 14 f) 185 0 1) 186 i = A 186 i := fun i hi => by rw [zU_r (by decide), zU_r (by decide), x6 i hi, a2c 186 (by decide) (by decide) (by decide) (by decide)]
      have er : ∀ i, 0 ≤ i → i < 423 → (zU (zU B 185 14 f) 185 0 1) 186 i = A 186 i := fun i i0 i1 => e6 i (by omega)
      refine ⟨0, zU (zU B 185 14 f) 185 0 1, ?_, ?_, zInv_text hI (zHWf_congr er hwA) (zHR_congr er hwA (zHR_same (fun c n1 n2 => e c (by omega) (by omega) (by omega) (by omega) (by omega) (by omega)) hwA hrA)) (e6 2 (by omega)) (fun i i1 i2 => e6 i (by omega)) ?_ (zActs_same hacts (e6 2 (by omega)) (fun c hc => e c (by omega) (by omega) (by omega) (by omega) (by omega) (by omega)) (by rw [zU_s (by decide), zU_s (by decide), x2 7 (by omega)])) (fun c hc => e c (by omega) (by omega) (by omega) (by omega) (by omega) (by omega)) (by rw [e01 0 (by omega), a00]) (by rw [zU_s (by decide), zU_s (by decide), x2 6 (by omega)]) ⟨by rw [zU_s (by decide), zU_at, e01 0 (by omega), a15], by rw [e01 0 (by omega), a15]; exact f400⟩⟩
      · rw [x1, i253_5 (by omega), if_neg (by omega), i253_11, b12, i253_19 (by omega), if_neg (by omega), i253_27, i253_32, c_thr1, mB1_i, i253_36 (by omega), if_neg (by omega), i253_39]
      · rw [zU_at]; rfl
      · have z1 : (zU (zU B 185 14 f) 185 0 1) 1 1 = 0 := by rw [e01 1 (by omega), a11]
        exact ⟨by omega, by rw [z1, zU_s (by decide), zU_s (by decide), x4], fun i i0 i1 => by omega⟩
end LAWQ
