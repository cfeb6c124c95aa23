/-! TEXTS, 10: hall, the call -/
theorem zInv_text {A D : Nat → Int → Int} (hI : zInv A) (hw : zHWf (D 186)) (hr : zHR D 3 (D 186)) (e2 : D 186 2 = A 186 2) (el : ∀ i, 423 ≤ i → i < 1272 → D 186 i = A 186 i) (ht : zTp D) (ha : zActs D) (ec : ∀ c, (12 ≤ c ∧ c ≤ 16) ∨ (129 ≤ c ∧ c < 143) ∨ c = 176 ∨ c = 187 → D c = A c) (e14 : D 0 14 = A 0 14) (e6 : D 185 6 = A 185 6) (hf : D 185 14 = D 0 15 ∧ -1 ≤ D 0 15 ∧ D 0 15 ≤ 400) : zInv D := by
  obtain ⟨-, ⟨L, l1, l2, l3⟩, -, -, h6, -, h8⟩ := hI
  refine ⟨⟨hw, hr⟩, ⟨L, zLawC_same l1 (fun c c1 c2 => ec c (by omega)), zLawR_congr e2 (fun i i1 i2 => el i i1 (by omega)) l2, by rw [e2, ec 12 (by omega)]; exact l3⟩, ht, ha, ?_, hf, ?_⟩
  · obtain ⟨a1, a2, a3⟩ := h6
    unfold zImg
    rw [e14, e6, ec 187 (by omega)]
    refine ⟨a1, a2, fun hk => ?_⟩
    obtain ⟨b1, b2, L', b3, b4, b5⟩ := a3 hk
    exact ⟨b1, zHR_same (fun c c1 c2 => ec c (by omega)) b1 b2, L', zLawC_same b3 (fun c c1 c2 => ec c (by omega)), b4, by rw [ec 138 (by omega)]; exact b5⟩
  · rw [ec 176 (by omega)]; exact h8
theorem zActs_none {D : Nat → Int → Int} (h0 : D 19 0 = 0) (h7 : D 185 7 = 0) (h1 : 0 ≤ D 19 1 ∧ D 19 1 < 12) : zActs D := ⟨by rw [h0, h7], by omega, h1, fun j j0 j1 => by omega⟩
theorem zHW0_texts {h : Int → Int} {v : Int} (hv : 0 ≤ v ∧ v ≤ 12) (hw : zHW0 h) : zHW0 (zPt h 1 v) := by
  have f : ∀ i, i ≠ 1 → zPt h 1 v i = h i := fun i hi => zPt_ne hi
  obtain ⟨w0, w1, w2, w3, w4, wr, wm, wn, ww, ws⟩ := hw
  unfold zHW0
  rw [f 0 (by omega), zPt_at, f 2 (by omega), f 3 (by omega), f 4 (by omega)]
  refine ⟨w0, hv, w2, w3, w4, fun j h1 h2 => ?_, fun j h1 h2 => ?_, fun q j h1 h2 h3 h4 => ?_, fun q h1 h2 => ?_, fun q h1 h2 => ?_⟩
  · rw [f _ (by omega)]; exact wr j h1 h2
  · rw [f _ (by omega)]; exact wm j h1 h2
  · rw [f _ (by omega)]; exact wn q j h1 h2 h3 h4
  · rw [f _ (by omega)]; exact ww q h1 h2
  · rw [f _ (by omega)]; exact ws q h1 h2
theorem zHR0_texts {A : Nat → Int → Int} {h : Int → Int} {v : Int} (hw : zHW0 h) (hr : zHR0 A 3 h) : zHR0 (zU A 3 9 v) 3 (zPt h 1 v) := by
  have f : ∀ i, i ≠ 1 → zPt h 1 v i = h i := fun i hi => zPt_ne hi
  obtain ⟨r0, r9, r7, r6, r8, rr, rm, rn, rw', ⟨s1, s2⟩⟩ := hr
  have w0 := hw.1
  unfold zHR0 zStub
  rw [f 0 (by omega), zPt_at, f 3 (by omega), f 4 (by omega), f 6 (by omega), zU_s (show (0 : Int) ≠ 9 by decide), zU_at, zU_s (show (7 : Int) ≠ 9 by decide), zU_s (show (6 : Int) ≠ 9 by decide), zU_s (show (8 : Int) ≠ 9 by decide), zU_s (show (3 : Int) ≠ 9 by decide), zU_r (show (3 + 3 : Nat) ≠ 3 by decide), zU_r (show (3 + 4 : Nat) ≠ 3 by decide), zU_r (show (3 + 1 : Nat) ≠ 3 by decide), zU_r (show (3 + 2 : Nat) ≠ 3 by decide)]
  refine ⟨r0, rfl, r7, r6, r8, fun j h1 h2 => ?_, fun j h1 h2 => ?_, fun q j h1 h2 h3 h4 => ?_, fun q h1 h2 => ?_, ⟨s1, fun q h1 h2 => ?_⟩⟩
  · rw [f _ (by omega)]; exact rr j h1 h2
  · rw [f _ (by omega)]; exact rm j h1 h2
  · rw [f _ (by omega)]; exact rn q j h1 h2 h3 h4
  · rw [f _ (by omega)]; exact rw' q h1 h2
  · rw [f _ (by omega)]; exact s2 q h1 h2
section QHALL
variable {ar : Nat → Nat × (Nat → Int32)} {d t : Nat} {K : Nat → Nat → Option Nat} {A : Nat → Int → Int} {O : Nat → Int64}
theorem q_hall (hS : zArs ar) (hI : zInv A) : zQ ar K O t (d + 12) 65 [.ref 0] 223 [.ref 185, .double 0, .double 0] (fun E => if E = 0 then 1 else if E = 1 then 2 else 0) A := by
  obtain ⟨⟨hwA, hrA⟩, -, ⟨t1, t2, t3⟩, hacts, -, -, -⟩ := id hI
  obtain ⟨A0, c1, c2, c3⟩ := c_copy (d := d + 10) (K := K) (O := O) (t := t) (ar := ar) (A := A) isHall145 isHall3 (by decide)
  have hx0 : zTx A0 (A 2) (A 1 1) := ⟨t1, by rw [c3 1 (by omega)], fun i i0 i1 => ⟨by rw [c3 2 (by omega)], (t3 i i0 i1).1⟩⟩
  obtain ⟨A1, f, h', q1, q2, q3, q4, q5, q6⟩ := hread_all (d := d) (K := K) (O := O) (t := t) (ar := ar) (A := A0) hS hx0 hwA (zHR_eq c2 hwA hrA)
  have q1' := mGd_dp q1 (show d + 10 ≤ d + 11 by omega)
  have f400 : -1 ≤ f ∧ f ≤ 400 := by omega
  generalize hA2 : zU (zU A1 0 15 f) 1 1 0 = A2
  have a15 : A2 0 15 = f := by rw [← hA2]; simp (disch := first | assumption | omega) only [zU_at, zU_c, zU_s, zU_r]
  have a11 : A2 1 1 = 0 := by rw [← hA2]; simp (disch := first | assumption | omega) only [zU_at, zU_c, zU_s, zU_r]
  have a2c : ∀ c, c ≠ 0 → c ≠ 1 → ¬ (145 ≤ c ∧ c ≤ 153) → c ≠ 170 → c ≠ 171 → A2 c = A c := fun c n0 n1 n2 n3 n4 => by rw [← hA2, zU_r n1, zU_r n0, q3 c n1 n2 n3 n4, c3 c n2]
  have a2d : ∀ c, 145 ≤ c → c ≤ 153 → A2 c = A1 c := fun c n0 n1 => by rw [← hA2, zU_r (by omega), zU_r (by omega)]
  have a00 : A2 0 14 = A 0 14 := by rw [← hA2, zU_r (by decide), zU_s (by decide), q3 0 (by decide) (by decide) (by decide) (by decide), c3 0 (by decide)]
  have n9 : A2 3 9 = A 186 1 := by rw [a2c 3 (by decide) (by decide) (by decide) (by decide) (by decide)]; exact hrA.1.2.1
  have w1 := hwA.1.2.1
  have cls : mGd ar (d + 12) 65 0 [.ref 0] [] (zW K A O t) = if f = -1 then mGd ar (d + 12) 65 50 [.ref 0] [] (zW K A2 O t) else mGd ar (d + 12) 65 40 [.ref 0] [] (zW K A2 O t) := by
    rw [i65_0, c1, mB0_i, i65_11, q1', mB1n_i, i65_21 (by rw [hA2, a15]; omega), hA2, a15]
  -- the reference, up to its decision
  have refS : ∀ (F : Nat → Int → Int) (O' : Nat → Int64) (t' : Nat), F 185 = A 185 → F 186 = A 186 → F 191 = A 191 → ∃ B r, mGd ar (d + 12) 223 0 [.ref 185, .double 0, .double 0] [] (zW K F O' t') = mGd ar (d + 12) 223 32 [.ref 185, .int (zI 1272), .double 0] [.int (zI r)] (zW K B O' t') ∧ (∀ j, j = 6 ∨ j = 7 ∨ j = 14 → B 185 j = A 185 j) ∧ B 185 0 = 0 ∧ B 185 9 = 0 ∧ (∀ c, c ≠ 185 → c ≠ 186 → c ≠ 188 → B c = F c) ∧ (∀ i, 0 ≤ i → i < 1272 → B 188 i = A 186 i) ∧ (∀ i, i = 1 ∨ i = 2 ∨ 63 ≤ i → B 186 i = A 186 i) ∧ (f = -1 → (0 ≤ r ∧ r ≤ 14) ∧ B 186 = h') ∧ (f ≠ -1 → r = -1 ∧ B 185 12 = f) := fun F O' t' f5 f6 f91 => by
    obtain ⟨G, k1, k2, k3⟩ := rkeep_loop (d := d + 12) (K := K) (O := O') (t := t') (ar := ar) (A := F) 1272 0 F (.double 0) (by omega) (by omega) (fun _ _ => rfl) (fun i i0 i1 => by omega)
    obtain ⟨B, r, x1, x2, x3, x4, x5, x6, x7, x8⟩ := q6 O' t' G (by rw [k2 185 (by decide), f5]; exact t2) (fun i i0 i1 => ⟨by rw [k2 191 (by decide), f91]; exact (t3 i i0 i1).2, (t3 i i0 i1).1⟩) (by rw [k2 186 (by decide), f6])
    refine ⟨B, r, ?_, fun j hj => by rw [x2 j hj, k2 185 (by decide), f5], x3, x4, fun c n1 n2 n3 => by rw [x5 c n1 n2, k2 c n3], fun i i0 i1 => by rw [x5 188 (by decide) (by decide), k3 i i0 i1, f6], fun i hi => by rw [x6 i hi, k2 186 (by decide), f6], x7, x8⟩
    rw [i223_0, k1, i223_27, x1, mB1_i]
  -- the row as it was
  have back : ∀ (F D : Nat → Int → Int), (∀ c, c ≠ 0 → c ≠ 1 → ¬ (145 ≤ c ∧ c ≤ 153) → c ≠ 170 → c ≠ 171 → F c = A c) → F 0 14 = A 0 14 → F 0 15 = f → F 1 1 = 0 → (∀ c, c ≠ 185 → c ≠ 186 → c ≠ 188 → D c = F c) → (∀ j, j = 6 ∨ j = 7 → D 185 j = A 185 j) → D 185 9 = 0 → D 185 14 = f → (∀ i, 0 ≤ i → i < 1272 → D 186 i = A 186 i) → zInv D := fun F D k1 k2 k3 k4 k5 k6 k7 k8 k9 => by
    have e : ∀ c, c ≠ 0 → c ≠ 1 → ¬ (145 ≤ c ∧ c ≤ 153) → c ≠ 170 → c ≠ 171 → c ≠ 185 → c ≠ 186 → c ≠ 188 → D c = A c := fun c n0 n1 n2 n3 n4 n5 n6 n7 => by rw [k5 c n5 n6 n7, k1 c n0 n1 n2 n3 n4]
    have er : ∀ i, 0 ≤ i → i < 423 → D 186 i = A 186 i := fun i i0 i1 => k9 i i0 (by omega)
    refine zInv_text hI (zHWf_congr er hwA) (zHR_congr er hwA (zHR_same (fun c n1 n2 => e c (by omega) (by omega) (by omega) (by omega) (by omega) (by omega) (by omega) (by omega)) hwA hrA)) (k9 2 (by omega) (by omega)) (fun i i1 i2 => k9 i (by omega) i2) ?_ (zActs_same hacts (k9 2 (by omega) (by omega)) (fun c hc => e c (by omega) (by omega) (by omega) (by omega) (by omega) (by omega) (by omega) (by omega)) (k6 7 (by omega))) (fun c hc => e c (by omega) (by omega) (by omega) (by omega) (by omega) (by omega) (by omega) (by omega)) (by rw [k5 0 (by decide) (by decide) (by decide), k2]) (k6 6 (by omega)) ⟨by rw [k8, k5 0 (by decide) (by decide) (by decide), k3], by rw [k5 0 (by decide) (by decide) (by decide), k3]; exact f400⟩
    have z1 : D 1 1 = 0 := by rw [k5 1 (by decide) (by decide) (by decide), k4]
    refine ⟨by omega, by rw [z1, k7], fun i i0 i1 => by omega⟩
  by_cases hf : f = -1
  · rw [if_pos hf] at cls
    obtain ⟨hwf', hr'⟩ := q5 hf
    by_cases h12 : A 186 1 < 12
    · -- told
      have hr2 : zHR A2 145 h' := zHR_same (fun c n1 n2 => a2d c n1 (by omega)) hwf' hr'
      obtain ⟨A3, d1, d2, d3⟩ := c_copy (d := d + 10) (K := K) (O := O) (t := t) (ar := ar) (A := A2) isHall3 isHall145 (by decide)
      have hr3 : zHR A3 3 h' := zHR_eq d2 hwf' hr2
      have m9 : A3 3 9 = h' 1 := hr3.1.2.1
      have hw1 := hwf'.1.2.1
      have e145 : h' 1 = A 186 1 := by
        obtain ⟨B, r, -, -, -, -, -, -, y6, y7, -⟩ := refS A O 0 rfl rfl rfl
        rw [← (y7 hf).2]; exact y6 1 (by omega)
      refine ⟨zU (zU A3 3 9 (h' 1 + 1)) 19 0 0, Or.inl ⟨h' 1 + 1, ?_, by omega, fun O' t' => ?_⟩⟩
      · rw [cls, i65_50 (by omega), if_pos (by omega), i65_72, d1, mB0_i, i65_83, m9, i61_0, mB0_i, i65_103, zU_r (by decide), zU_at]
      · have fc : ∀ c, c ≠ 0 → c ≠ 1 → c ≠ 19 → ¬ (3 ≤ c ∧ c ≤ 11) → ¬ (145 ≤ c ∧ c ≤ 153) → c ≠ 170 → c ≠ 171 → (zU (zU A3 3 9 (h' 1 + 1)) 19 0 0) c = A c := fun c n0 n1 n19 n3 n4 n5 n6 => by rw [zU_r n19, zU_r (by omega), d3 c (by omega), a2c c n0 n1 n4 n5 n6]
        obtain ⟨B, r, x1, x2, x3, x4, x5, x6, x7, x8, -⟩ := refS (zU (zU A3 3 9 (h' 1 + 1)) 19 0 0) O' t' (fc 185 (by decide) (by decide) (by decide) (by decide) (by decide) (by decide) (by decide)) (fc 186 (by decide) (by decide) (by decide) (by decide) (by decide) (by decide) (by decide)) (fc 191 (by decide) (by decide) (by decide) (by decide) (by decide) (by decide) (by decide))
        obtain ⟨r14, b6⟩ := x8 hf
        have b61 : B 186 1 = h' 1 := by rw [b6]
        have u61 : ∀ v, (zU B 185 14 v) 186 1 = h' 1 := fun v => by rw [zU_r (by decide), b61]
        refine ⟨zU (zU (zU B 185 14 (-1)) 186 1 (h' 1 + 1)) 185 7 0, ?_, ?_, ?_⟩
        · rw [x1, i223_32 (by omega), if_pos (by omega), i223_45, i223_46 (by omega), if_pos (by omega), i223_58, i223_59, c_thr0, mB1_i, i223_63 (by omega), if_pos rfl, i223_66 (by rw [u61]; omega), u61, if_neg (by omega), i223_82, i223_83, c_thr0, mB1_i, i223_87 (by omega), if_pos rfl, i223_119, u61, zU_r (by decide), zU_at]
        · rw [zU_s (by decide), zU_r (by decide), zU_s (by decide), x3]
        · have e6 : (zU (zU (zU B 185 14 (-1)) 186 1 (h' 1 + 1)) 185 7 0) 186 = zPt h' 1 (h' 1 + 1) := by
            rw [zU_r (by decide), zPt_u, zU_r (by decide), b6]
          have ec : ∀ c, c ≠ 185 → c ≠ 186 → c ≠ 188 → (zU (zU (zU B 185 14 (-1)) 186 1 (h' 1 + 1)) 185 7 0) c = (zU (zU A3 3 9 (h' 1 + 1)) 19 0 0) c := fun c n1 n2 n3 => by rw [zU_r n1, zU_r n2, zU_r n1, x5 c n1 n2 n3]
          have eA : ∀ c, c ≠ 185 → c ≠ 186 → c ≠ 188 → c ≠ 0 → c ≠ 1 → c ≠ 19 → ¬ (3 ≤ c ∧ c ≤ 11) → ¬ (145 ≤ c ∧ c ≤ 153) → c ≠ 170 → c ≠ 171 → (zU (zU (zU B 185 14 (-1)) 186 1 (h' 1 + 1)) 185 7 0) c = A c := fun c n1 n2 n3 n4 n5 n6 n7 n8 n9 n10 => by rw [ec c n1 n2 n3, fc c n4 n5 n6 n7 n8 n9 n10]
          have hwT : zHWf (zPt h' 1 (h' 1 + 1)) := ⟨zHW0_texts (by omega) hwf'.1, zHWl_pt (by decide) hwf'.2⟩
          have hrT : zHR (zU (zU A3 3 9 (h' 1 + 1)) 19 0 0) 3 (zPt h' 1 (h' 1 + 1)) := zHR_same (A := zU A3 3 9 (h' 1 + 1)) (fun c n1 n2 => zU_r (by omega)) hwT ⟨zHR0_texts hwf'.1 hr3.1, zLog_same (A := A3) (fun c n1 n2 => zU_r (by omega)) (zLog_pt (by decide) hwf'.2 hr3.2)⟩
          have f01 : ∀ c, c = 0 ∨ c = 1 → (zU (zU A3 3 9 (h' 1 + 1)) 19 0 0) c = A2 c := fun c hc => by rw [zU_r (by omega), zU_r (by omega), d3 c (by omega)]
          refine zInv_text hI (by rw [e6]; exact hwT) (by rw [e6]; exact zHR_same (fun c n1 n2 => ec c (by omega) (by omega) (by omega)) hwT hrT) ?_ (fun i i1 i2 => ?_) ?_ (zActs_none ?_ ?_ ?_) (fun c hc => eA c (by omega) (by omega) (by omega) (by omega) (by omega) (by omega) (by omega) (by omega) (by omega) (by omega)) ?_ ?_ ⟨?_, ?_⟩
          · rw [e6, zPt_ne (by decide), ← b6]; exact x7 2 (by omega)
          · rw [e6, zPt_ne (by omega), ← b6]; exact x7 i (by omega)
          · have z1 : (zU (zU (zU B 185 14 (-1)) 186 1 (h' 1 + 1)) 185 7 0) 1 1 = 0 := by rw [ec 1 (by decide) (by decide) (by decide), f01 1 (by omega), a11]
            refine ⟨by omega, ?_, fun i i0 i1 => by omega⟩
            rw [z1, zU_s (by decide), zU_r (by decide), zU_s (by decide), x4]
          · rw [ec 19 (by decide) (by decide) (by decide), zU_at]
          · exact zU_at
          · rw [ec 19 (by decide) (by decide) (by decide), zU_s (by decide), zU_r (by decide), d3 19 (by omega), a2c 19 (by decide) (by decide) (by decide) (by decide) (by decide)]
            exact hacts.2.2.1
          · rw [ec 0 (by decide) (by decide) (by decide), f01 0 (by omega), a00]
          · rw [zU_s (by decide), zU_r (by decide), zU_s (by decide)]; exact x2 6 (by omega)
          · rw [zU_s (by decide), zU_r (by decide), zU_at, ec 0 (by decide) (by decide) (by decide), f01 0 (by omega), a15, hf]
          · rw [ec 0 (by decide) (by decide) (by decide), f01 0 (by omega), a15]; exact f400
    · -- too many texts
      refine ⟨A2, Or.inr ⟨1, ?_, by decide, fun O' t' => ?_⟩⟩
      · rw [cls, i65_50 (by omega), if_neg (by omega), i65_62]
      · obtain ⟨B, r, x1, x2, x3, x4, x5, x6, x7, x8, -⟩ := refS A2 O' t' (a2c 185 (by decide) (by decide) (by decide) (by decide) (by decide)) (a2c 186 (by decide) (by decide) (by decide) (by decide) (by decide)) (a2c 191 (by decide) (by decide) (by decide) (by decide) (by decide))
        obtain ⟨r14, b6⟩ := x8 hf
        have u61 : ∀ v, (zU B 185 14 v) 186 1 = 12 := fun v => by rw [zU_r (by decide), x7 1 (by omega)]; omega
        obtain ⟨D, y1, y2, y3, y4⟩ := rback_loop (d := d + 12) (K := K) (O := O') (t := t') (ar := ar) (A := zU (zU B 185 14 (-1)) 185 0 2) (x1 := r) 1272 0 (zU (zU B 185 14 (-1)) 185 0 2) (by omega) (by omega) (fun _ _ => rfl) (fun i i0 i1 => by omega) (fun _ _ => rfl)
        refine ⟨0, D, ?_, ?_, ?_⟩
        · rw [x1, i223_32 (by omega), if_pos (by omega), i223_45, i223_46 (by omega), if_pos (by omega), i223_58, i223_59, c_thr0, mB1_i, i223_63 (by omega), if_pos rfl, i223_66 (by rw [u61]; omega), u61, if_pos rfl, i223_78, i223_83, c_thr1, mB1_i, i223_87 (by omega), if_neg (by omega), i223_90, y1]
        · rw [y2 185 (by decide), zU_at]; rfl
        · refine back A2 D a2c a00 a15 a11 (fun c n1 n2 n3 => by rw [y2 c n2, zU_r n1, zU_r n1, x5 c n1 n2 n3]) (fun j hj => by rw [y2 185 (by decide), zU_s (by omega), zU_s (by omega), x2 j (by omega)]) (by rw [y2 185 (by decide), zU_s (by decide), zU_s (by decide), x4]) (by rw [y2 185 (by decide), zU_s (by decide), zU_at, hf]) (fun i i0 i1 => by rw [y3 i i0 i1, zU_r (by decide), zU_r (by decide), x6 i i0 i1])
  · rw [if_neg hf] at cls
    refine ⟨A2, Or.inr ⟨0, ?_, by decide, fun O' t' => ?_⟩⟩
    · rw [cls, i65_40]
    · obtain ⟨B, r, x1, x2, x3, x4, x5, x6, x7, -, x8⟩ := refS A2 O' t' (a2c 185 (by decide) (by decide) (by decide) (by decide) (by decide)) (a2c 186 (by decide) (by decide) (by decide) (by decide) (by decide)) (a2c 191 (by decide) (by decide) (by decide) (by decide) (by decide))
      obtain ⟨r1, b12⟩ := x8 hf
      subst r1
      obtain ⟨D, y1, y2, y3, y4⟩ := rback_loop (d := d + 12) (K := K) (O := O') (t := t') (ar := ar) (A := zU (zU B 185 14 f) 185 0 1) (x1 := -1) 1272 0 (zU (zU B 185 14 f) 185 0 1) (by omega) (by omega) (fun _ _ => rfl) (fun i i0 i1 => by omega) (fun _ _ => rfl)
      refine ⟨0, D, ?_, ?_, ?_⟩
      · rw [x1, i223_32 (by omega), if_neg (by omega), i223_38, b12, i223_46 (by omega), if_neg (by omega), i223_54, i223_59, c_thr1, mB1_i, i223_63 (by omega), if_neg (by omega), i223_90, y1]
      · rw [y2 185 (by decide), zU_at]; rfl
      · refine back A2 D a2c a00 a15 a11 (fun c n1 n2 n3 => by rw [y2 c n2, zU_r n1, zU_r n1, x5 c n1 n2 n3]) (fun j hj => by rw [y2 185 (by decide), zU_s (by omega), zU_s (by omega), x2 j (by omega)]) (by rw [y2 185 (by decide), zU_s (by decide), zU_s (by decide), x4]) (by rw [y2 185 (by decide), zU_s (by decide), zU_at]) (fun i i0 i1 => by rw [y3 i i0 i1, zU_r (by decide), zU_r (by decide), x6 i i0 i1])
end QHALL
