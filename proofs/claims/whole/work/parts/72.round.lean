/-! CALLS, 20: round -/
theorem zIt_succ {f : (Int → Int) → Int → Int} : ∀ {n : Nat} {h : Int → Int}, zIt f (n + 1) h = f (zIt f n h)
  | 0, _ => rfl
  | n + 1, h => by
    rw [show zIt f (n + 1 + 1) h = zIt f (n + 1) (f h) from rfl, zIt_succ (n := n)]
    rfl
theorem zIt_add {f : (Int → Int) → Int → Int} {a : Nat} : ∀ {b : Nat} {h : Int → Int}, zIt f b (zIt f a h) = zIt f (a + b) h
  | 0, _ => rfl
  | b + 1, h => by
    rw [zIt_succ, zIt_add (b := b)]
    exact zIt_succ.symm
theorem zSame_symm {h h' : Int → Int} (hs : zSame h h') : zSame h' h := fun i i0 i1 => (hs i i0 i1).symm
noncomputable def zRd (c : Int → Prop) : Nat → Int → Int
  | 0, _ => -1
  | m + 1, p => @ite Int (c p) (Classical.propDecidable _) p (zRd c m (p + 1))
theorem zRd_rng {c : Int → Prop} : ∀ {m : Nat} {p : Int}, 0 ≤ p → p + m ≤ 61 → -1 ≤ zRd c m p ∧ zRd c m p ≤ 61
  | 0, _, _, _ => by show (-1 : Int) ≤ -1 ∧ (-1 : Int) ≤ 61; decide
  | m + 1, p, h0, h1 => by
    unfold zRd
    split
    · omega
    · exact zRd_rng (by omega) (by omega)
section ROUND
variable {ar : Nat → Nat × (Nat → Int32)} {d t : Nat} {K : Nat → Nat → Option Nat} {A : Nat → Int → Int} {O : Nat → Int64}
theorem isHall154 : isHall 154 := by unfold isHall; omega
theorem c_hasNumbers {a b : Nat} (ha : isHall a) (hb : isHall b) {h h' : Int → Int} (hw : zHW0 h) (hw' : zHW0 h') (e0 : h' 0 = h 0) (hr : zHR0 A a h) (hr' : zHR0 A b h') : ∃ r, mGd ar (d + 1) 46 0 [.ref a, .ref b, .double 0] [] (zW K A O t) = some (.inl (some (.int (zI r))), zW K A O t) ∧ (r = 0 ∨ r = 1) ∧ (r = 1 ↔ zSame h h') := by
  have w0 := hw.1
  have r0 := hr.1
  have p1 := c_pm (d := d) (K := K) (O := O) (t := t) (ar := ar) ha hw hr
  have p2 := c_pm (d := d) (K := K) (O := O) (t := t) (ar := ar) hb hw' hr'
  have q1 : 0 ≤ zPm h ∧ zPm h ≤ 300000000 := by
    obtain ⟨a1, a2, a3, a4⟩ := zMan_r hw
    exact zPk_rng a1 a2 a3 a4
  have q2 : 0 ≤ zPm h' ∧ zPm h' ≤ 300000000 := by
    obtain ⟨a1, a2, a3, a4⟩ := zMan_r hw'
    exact zPk_rng a1 a2 a3 a4
  have pm := zPm_iff hw hw'
  have si := zSame_iff w0 e0
  have v1 : ∀ x, 0 ≤ x → x < h 0 * 4 → A (a + 1) x = h (15 + 6 * (x / 4) + x % 4) := fun x x0 x1 => by
    have := hr.2.2.2.2.2.2.2.1 (x / 4) (x % 4) (by omega) (by omega) (by omega) (by omega)
    rwa [show x / 4 * 4 + x % 4 = x by omega] at this
  have v2 : ∀ x, 0 ≤ x → x < h 0 * 4 → A (b + 1) x = h' (15 + 6 * (x / 4) + x % 4) := fun x x0 x1 => by
    have := hr'.2.2.2.2.2.2.2.1 (x / 4) (x % 4) (by omega) (by omega) (by omega) (by omega)
    rwa [show x / 4 * 4 + x % 4 = x by omega] at this
  have l1 : ∀ (m : Nat) (x : Int), x + m = h 0 * 4 → 0 ≤ x → (∀ y, 0 ≤ y → y < x → h (15 + 6 * (y / 4) + y % 4) = h' (15 + 6 * (y / 4) + y % 4)) → ∃ r, mGd ar (d + 1) 46 2 [.ref a, .ref b, .int (zI x)] [] (zW K A O t) = some (.inl (some (.int (zI r))), zW K A O t) ∧ (r = 0 ∨ r = 1) ∧ (r = 1 ↔ zSame h h') := by
    intro m
    induction m with
    | zero =>
      intro x hx x0 hy
      rw [i46_2 ha hb (by omega) (by omega)]
      by_cases hp : zPm h' = zPm h
      · refine ⟨1, ?_, Or.inr rfl, ⟨fun _ => si.2 ⟨pm.1 hp, fun p k p0 p1 k0 k1 => ?_⟩, fun _ => rfl⟩⟩
        · simp (disch := first | assumption | omega | exact zr_and | exact zr_or | exact zr_xor | exact zr_shl | exact zr_shr | exact zr_ushr | exact zr_byte | exact isHall3 | exact isLaw12) only [i46_12, i46_27, i46_29, i46_35, i46_39, i46_43, i46_46, i46_50, i46_51, p1, p2, hp, mB1_i, mB0_i, mB1n_i, mB0n_i, mB1_x, mB0_x, ↓if_pos, ↓if_neg, if_true, if_false, if_pos, if_neg]
        · have := hy (p * 4 + k) (by omega) (by omega)
          rwa [show (p * 4 + k) / 4 = p by omega, show (p * 4 + k) % 4 = k by omega] at this
      · refine ⟨0, ?_, Or.inl rfl, ⟨fun hh => absurd hh (by decide), fun hh => absurd (pm.2 (si.1 hh).1) hp⟩⟩
        have hp' : ¬ zPm h = zPm h' := fun e => hp e.symm
        simp (disch := first | assumption | omega | exact zr_and | exact zr_or | exact zr_xor | exact zr_shl | exact zr_shr | exact zr_ushr | exact zr_byte | exact isHall3 | exact isLaw12) only [i46_12, i46_27, i46_29, i46_35, i46_39, i46_43, i46_46, i46_50, i46_51, p1, p2, mB1_i, mB0_i, mB1n_i, mB0n_i, mB1_x, mB0_x, ↓if_pos, ↓if_neg, if_true, if_false, if_pos, if_neg]
    | succ m ih =>
      intro x hx x0 hy
      have f1 := v1 x x0 (by omega)
      have f2 := v2 x x0 (by omega)
      have n1 := hw.2.2.2.2.2.2.2.1 (x / 4) (x % 4) (by omega) (by omega) (by omega) (by omega)
      have n2 := hw'.2.2.2.2.2.2.2.1 (x / 4) (x % 4) (by omega) (by omega) (by omega) (by omega)
      rw [i46_2 ha hb (by omega) (by omega)]
      by_cases he : h (15 + 6 * (x / 4) + x % 4) = h' (15 + 6 * (x / 4) + x % 4)
      · obtain ⟨r, q1, q2, q3⟩ := ih (x + 1) (by omega) (by omega) (fun y y0 y1 => by
          by_cases hyx : y = x
          · rw [hyx]; exact he
          · exact hy y y0 (by omega))
        refine ⟨r, ?_, q2, q3⟩
        rw [← q1]
        simp (disch := first | assumption | omega | exact zr_and | exact zr_or | exact zr_xor | exact zr_shl | exact zr_shr | exact zr_ushr | exact zr_byte | exact isHall3 | exact isLaw12) only [i46_12, f1, f2, he, i46_29, mB1_i, mB0_i, mB1n_i, mB0n_i, mB1_x, mB0_x, ↓if_pos, ↓if_neg, if_true, if_false, if_pos, if_neg]
      · refine ⟨0, ?_, Or.inl rfl, ⟨fun hh => absurd hh (by decide), fun hh => absurd ((si.1 hh).2 (x / 4) (x % 4) (by omega) (by omega) (by omega) (by omega)) he⟩⟩
        simp (disch := first | assumption | omega | exact zr_and | exact zr_or | exact zr_xor | exact zr_shl | exact zr_shr | exact zr_ushr | exact zr_byte | exact isHall3 | exact isLaw12) only [i46_12, f1, f2, he, i46_27, mB1_i, mB0_i, mB1n_i, mB0n_i, mB1_x, mB0_x, ↓if_pos, ↓if_neg, if_true, if_false, if_pos, if_neg]
  obtain ⟨r, q1, q2, q3⟩ := l1 (h 0 * 4).toNat 0 (by omega) (by omega) (fun y y0 y1 => by omega)
  exact ⟨r, by rw [i46_0 ha hb]; exact q1, q2, q3⟩
noncomputable def zSn (L : zLines) (h : Int → Int) (x : Int) : Int → Int := zIt (zD0 L) x.toNat h
theorem zSn_wf {L : zLines} {h : Int → Int} (hw : zHWf h) {x : Int} : zHWf (zSn L h x) := zIt_wff (fun _ hh => zD0_wff hh) hw
theorem zSn_0 {L : zLines} {h : Int → Int} {x : Int} : zSn L h x 0 = h 0 := zD0n_0
theorem zSn_s {L : zLines} {h : Int → Int} {x y : Int} (hx : 0 ≤ x) (hy : y = x + 1) : zD0 L (zSn L h x) = zSn L h y := by
  unfold zSn
  rw [hy, show (x + 1).toNat = x.toNat + 1 by omega]
  exact zIt_succ.symm
theorem q_round (hI : zInv A) : zQ ar K O t (d + 12) 44 [.ref 0, .double 0, .double 0] 297 [.ref 185, .double 0] (fun _ => 0) A := by
  obtain ⟨hw, hr, e0, w0⟩ := zInv_f hI
  obtain ⟨-, ⟨L, lc, lr, -⟩, -⟩ := id hI
  have wS : ∀ x, zHWf (zSn L (A 186) x) := fun x => zSn_wf hI.1.1
  have law : ∀ B, zFc A B → zLawC B 12 L := fun B hB => zLawC_same lc (fun c c1 c2 => hB c (by unfold zSc; omega))
  have cl : ∀ (m : Nat) (p : Int) (B : Nat → Int → Int) (le : Int), p = m → m ≤ 30 → zHR0 B 145 (zSn L (A 186) (60 - p)) → zHR0 B 154 (zSn L (A 186) 60) → zFc A B → le = zRd (fun p => zSame (zSn L (A 186) (60 - p)) (zSn L (A 186) 60)) (30 - m) (p + 1) → ∃ C, mGd ar (d + 12) 44 63 [.ref 0, .int (zI le), .int (zI p)] [] (zW K B O t) = some (.inl (some (.int (zI (zRd (fun p => zSame (zSn L (A 186) (60 - p)) (zSn L (A 186) 60)) 30 1)))), zW K C O t) ∧ zFc A C := by
    intro m
    induction m with
    | zero =>
      intro p B le hp hm h1 h2 hB hle
      have : p = 0 := by omega
      subst this
      refine ⟨B, ?_, hB⟩
      rw [hle]
      simp (disch := first | assumption | omega | exact zr_and | exact zr_or | exact zr_xor | exact zr_shl | exact zr_shr | exact zr_ushr | exact zr_byte | exact isHall3 | exact isLaw12) only [i44_63, i44_107, mB1_i, mB0_i, mB1n_i, mB0n_i, mB1_x, mB0_x, ↓if_pos, ↓if_neg, if_true, if_false, if_pos, if_neg]
      rfl
    | succ m ih =>
      intro p B le hp hm h1 h2 hB hle
      obtain ⟨r, d1, d2, d3⟩ := c_hasNumbers (d := d + 10) (K := K) (O := O) (t := t) (ar := ar) isHall145 isHall154 (wS (60 - p)).1 (wS 60).1 (by rw [zSn_0, zSn_0]) h1 h2
      obtain ⟨C1, f1, f2, f3⟩ := c_passDay (d := d + 7) (K := K) (O := O) (t := t) (ar := ar) isHall145 isLaw12 (by omega) (wS (60 - p)).1 h1 (law B hB) (dr := 0) (Or.inl rfl)
      rw [if_neg (show ¬ (0 : Int) = 1 by decide), zSn_s (y := 60 - (p - 1)) (by omega) (by omega)] at f2
      have f4 := zFc_pf hB f3
      have f5 : zHR0 C1 154 (zSn L (A 186) 60) := zHR0_same5 (fun c c1 c2 => f3 c (by omega) (by omega) (by omega) (by omega) (by omega) (by omega) (by omega)) h2
      have hz : zRd (fun p => zSame (zSn L (A 186) (60 - p)) (zSn L (A 186) 60)) (30 - m) (p - 1 + 1) = @ite Int (zSame (zSn L (A 186) (60 - p)) (zSn L (A 186) 60)) (Classical.propDecidable _) p le := by
        rw [hle, show 30 - m = 30 - (m + 1) + 1 by omega, show p - 1 + 1 = p by omega]
        rfl
      obtain ⟨C', q1, q2⟩ := ih (p - 1) C1 (@ite Int (zSame (zSn L (A 186) (60 - p)) (zSn L (A 186) 60)) (Classical.propDecidable _) p le) (by omega) (by omega) f2 f5 f4 hz.symm
      refine ⟨C', ?_, q2⟩
      rw [← q1, i44_63 (by omega)]
      by_cases hs : zSame (zSn L (A 186) (60 - p)) (zSn L (A 186) 60)
      · have hr1 := d3.2 hs
        subst hr1
        rw [if_pos hs]
        simp (disch := first | assumption | omega | exact zr_and | exact zr_or | exact zr_xor | exact zr_shl | exact zr_shr | exact zr_ushr | exact zr_byte | exact isHall3 | exact isLaw12) only [i44_11, i44_29, i44_40, i44_58, i44_68, i44_79, i44_82, i44_84, i44_100, i44_107, d1, f1, Int.sub_eq_add_neg, mB1_i, mB0_i, mB1n_i, mB0n_i, mB1_x, mB0_x, ↓if_pos, ↓if_neg, if_true, if_false, if_pos, if_neg]
      · have hr0 : r = 0 := by
          rcases d2 with h | h
          · exact h
          · exact absurd (d3.1 h) hs
        subst hr0
        rw [if_neg hs]
        simp (disch := first | assumption | omega | exact zr_and | exact zr_or | exact zr_xor | exact zr_shl | exact zr_shr | exact zr_ushr | exact zr_byte | exact isHall3 | exact isLaw12) only [i44_11, i44_29, i44_40, i44_58, i44_68, i44_79, i44_82, i44_84, i44_100, i44_107, d1, f1, Int.sub_eq_add_neg, mB1_i, mB0_i, mB1n_i, mB0n_i, mB1_x, mB0_x, ↓if_pos, ↓if_neg, if_true, if_false, if_pos, if_neg]
  obtain ⟨C1, f1, f2, f3⟩ := c_draft (d := d + 10) (K := K) (O := O) (t := t) (ar := ar) hI zFc_refl
  obtain ⟨C2, f4, f5, f6⟩ := c_passDays (d := d + 6) (K := K) (O := O) (t := t) (ar := ar) isHall145 isLaw12 (by omega) (dr := 0) (n := 30) (Or.inl rfl) (by decide) hw f2.1 (law C1 f3)
  rw [if_neg (show ¬ (0 : Int) = 1 by decide)] at f5
  have f5' : zHR0 C2 145 (zSn L (A 186) 30) := f5
  have f7 := zFc_pf f3 f6
  obtain ⟨C3, a1, a2, a3⟩ := c_copy (d := d + 10) (K := K) (O := O) (t := t) (ar := ar) (A := C2) isHall154 isHall145 (by decide)
  have a4 := zHR0_eq a2 (wS 30).1 f5'
  have a5 : zHR0 C3 145 (zSn L (A 186) 30) := zHR0_same5 (fun c c1 c2 => a3 c (by omega)) f5'
  have a6 : zFc A C3 := fun c hc => by
    unfold zSc at hc
    rw [a3 c (by omega)]
    exact f7 c (by unfold zSc; omega)
  obtain ⟨C4, b1, b2, b3⟩ := c_passDays (d := d + 6) (K := K) (O := O) (t := t) (ar := ar) isHall154 isLaw12 (by omega) (dr := 0) (n := 30) (Or.inl rfl) (by decide) (wS 30).1 a4 (law C3 a6)
  rw [if_neg (show ¬ (0 : Int) = 1 by decide)] at b2
  have b2' : zHR0 C4 154 (zSn L (A 186) 60) := by
    have e : zIt (zD0 L) (30 : Int).toNat (zSn L (A 186) 30) = zSn L (A 186) 60 := zIt_add
    rw [e] at b2
    exact b2
  have b4 : zHR0 C4 145 (zSn L (A 186) 30) := zHR0_same5 (fun c c1 c2 => b3 c (by omega) (by omega) (by omega) (by omega) (by omega) (by omega) (by omega)) a5
  have b5 : zFc A C4 := fun c hc => by
    unfold zSc at hc
    rw [b3 c (by omega) (by omega) (by omega) (by omega) (by omega) (by omega) (by omega)]
    exact a6 c (by unfold zSc; omega)
  obtain ⟨A1, g1, g2⟩ := cl 30 30 C4 (-1) rfl (by omega) b4 b2' b5 rfl
  have rr := zRd_rng (c := fun p => zSame (zSn L (A 186) (60 - p)) (zSn L (A 186) 60)) (m := 30) (p := 1) (by omega) (by omega)
  refine zQ_ok (b := zRd (fun p => zSame (zSn L (A 186) (60 - p)) (zSn L (A 186) 60)) 30 1) (A1 := A1) hI ?_ g2 (by omega) (fun O' t' => ?_)
  · simp (disch := first | assumption | omega | exact zr_and | exact zr_or | exact zr_xor | exact zr_shl | exact zr_shr | exact zr_ushr | exact zr_byte | exact isHall3 | exact isLaw12) only [i44_0, i44_11, i44_29, i44_40, i44_58, i44_68, i44_79, i44_82, i44_84, i44_100, i44_107, f1, f4, a1, b1, g1, mB1_i, mB0_i, mB1n_i, mB0n_i, mB1_x, mB0_x, ↓if_pos, ↓if_neg, if_true, if_false, if_pos, if_neg]
  · have e6 : A1 186 = A 186 := g2 186 (by unfold zSc; omega)
    have u6' : (zU A1 185 0 0) 186 = A 186 := by rw [zU_r (by decide), e6]
    obtain ⟨D0, p1, p2, p3⟩ := t_keeps (d := d + 11) (K := K) (O := O') (t := t') (ar := ar) (A := zU A1 185 0 0) (L := L) (by rw [u6']; exact hI.1.1) (by rw [u6']; exact lr)
    rw [u6'] at p3
    have l1 : ∀ (m : Nat) (x : Int) (C : Nat → Int → Int), x + m = 60 → 0 ≤ x → zT L (zU A1 185 0 0) C → C 186 = zSn L (A 186) x → (∀ y i, 60 - x < y → y ≤ 30 → 0 ≤ i → i < 36 → C 196 (36 * y + i) = zSg (zSn L (A 186) (60 - y)) i) → ∃ C', mGd ar (d + 12) 297 11 [.ref 185, .int (zI x)] [] (zW K C O' t') = mGd ar (d + 12) 297 41 [.ref 185, .int (zI 60)] [] (zW K C' O' t') ∧ zT L (zU A1 185 0 0) C' ∧ C' 186 = zSn L (A 186) 60 ∧ ∀ y i, 0 < y → y ≤ 30 → 0 ≤ i → i < 36 → C' 196 (36 * y + i) = zSg (zSn L (A 186) (60 - y)) i := by
      intro m
      induction m with
      | zero =>
        intro x C hx x0 hC h6 hS
        have : x = 60 := by omega
        subst this
        exact ⟨C, by simp (disch := first | assumption | omega | exact zr_and | exact zr_or | exact zr_xor | exact zr_shl | exact zr_shr | exact zr_ushr | exact zr_byte | exact isHall3 | exact isLaw12) only [i297_11, mB1_i, mB0_i, mB1n_i, mB0n_i, mB1_x, mB0_x, ↓if_pos, ↓if_neg, if_true, if_false, if_pos, if_neg], hC, h6, fun y i y0 y1 => hS y i (by omega) y1⟩
      | succ m ih =>
        intro x C hx x0 hC h6 hS
        rw [i297_11 (by omega)]
        by_cases h30 : x < 30
        · obtain ⟨C2, c1, c2, c3, c4⟩ := t_calm' (d := d + 4) (K := K) (O := O') (t := t') (ar := ar) hC
          rw [h6, zSn_s (y := x + 1) x0 rfl] at c3
          obtain ⟨C', q1, q2⟩ := ih (x + 1) C2 (by omega) (by omega) c2 c3 (fun y i y0 y1 => by omega)
          refine ⟨C', ?_, q2⟩
          rw [← q1]
          simp (disch := first | assumption | omega | exact zr_and | exact zr_or | exact zr_xor | exact zr_shl | exact zr_shr | exact zr_ushr | exact zr_byte | exact isHall3 | exact isLaw12) only [i297_17, i297_31, c1, i297_35, mB1_i, mB0_i, mB1n_i, mB0n_i, mB1_x, mB0_x, ↓if_pos, ↓if_neg, if_true, if_false, if_pos, if_neg]
        · have wC := hC.2.2.2.2.1
          obtain ⟨C1, n1, n2, n3⟩ := c_notes (d := d + 8) (K := K) (O := O') (t := t') (ar := ar) (A := C) (x := 60 - x) (by omega) wC.1.1
          have hC1 := zT_196 hC n2
          obtain ⟨C2, c1, c2, c3, c4⟩ := t_calm' (d := d + 4) (K := K) (O := O') (t := t') (ar := ar) hC1
          rw [n2 186 (by decide), h6, zSn_s (y := x + 1) x0 rfl] at c3
          obtain ⟨C', q1, q2⟩ := ih (x + 1) C2 (by omega) (by omega) c2 c3 (fun y i y0 y1 i0 i1 => by
            rw [c4, n3, h6]
            by_cases hy : y = 60 - x
            · rw [if_pos (by omega), hy, show 36 * (60 - x) + i - 36 * (60 - x) = i by omega, show 60 - (60 - x) = x by omega]
            · rw [if_neg (by omega)]; exact hS y i (by omega) y1 i0 i1)
          refine ⟨C', ?_, q2⟩
          rw [← q1]
          simp (disch := first | assumption | omega | exact zr_and | exact zr_or | exact zr_xor | exact zr_shl | exact zr_shr | exact zr_ushr | exact zr_byte | exact isHall3 | exact isLaw12) only [i297_17, i297_23, n1, i297_31, c1, i297_35, mB1_i, mB0_i, mB1n_i, mB0n_i, mB1_x, mB0_x, ↓if_pos, ↓if_neg, if_true, if_false, if_pos, if_neg]
    obtain ⟨D1, q1, q2, q3, q4⟩ := l1 60 0 D0 (by omega) (by omega) p2 p3 (fun y i y0 y1 => by omega)
    obtain ⟨D2, n1, n2, n3⟩ := c_notes (d := d + 8) (K := K) (O := O') (t := t') (ar := ar) (A := D1) (x := 0) (by omega) q2.2.2.2.2.1.1.1
    obtain ⟨D3, s1, s2, -, -, s5⟩ := t_brings' (d := d + 11) (K := K) (O := O') (t := t') (ar := ar) (A := zU A1 185 0 0) (L := L) (by rw [u6']; exact hI.1.1) (by rw [u6']; exact lr) (zT_196 q2 n2)
    have v0 : ∀ i, 0 ≤ i → i < 36 → D3 196 (36 * 0 + i) = zSg (zSn L (A 186) 60) i := fun i i0 i1 => by
      rw [s5, n3, if_pos (by omega), q3, show 36 * 0 + i - 36 * 0 = i by omega]
    have v1 : ∀ y i, 0 < y → y ≤ 30 → 0 ≤ i → i < 36 → D3 196 (36 * y + i) = zSg (zSn L (A 186) (60 - y)) i := fun y i y0 y1 i0 i1 => by
      rw [s5, n3, if_neg (by omega)]; exact q4 y i y0 y1 i0 i1
    have l2 : ∀ (m : Nat) (p : Int), p + m = 31 → 1 ≤ p → mGd ar (d + 12) 297 52 [.ref 185, .int (zI p)] [] (zW K D3 O' t') = some (.inl (some (.int (zI (zRd (fun p => zSame (zSn L (A 186) (60 - p)) (zSn L (A 186) 60)) m p)))), zW K D3 O' t') := by
      intro m
      induction m with
      | zero =>
        intro p hp p0
        simp (disch := first | assumption | omega | exact zr_and | exact zr_or | exact zr_xor | exact zr_shl | exact zr_shr | exact zr_ushr | exact zr_byte | exact isHall3 | exact isLaw12) only [i297_52, i297_75, mB1_i, mB0_i, mB1n_i, mB0n_i, mB1_x, mB0_x, ↓if_pos, ↓if_neg, if_true, if_false, if_pos, if_neg]
        rfl
      | succ m ih =>
        intro p hp p0
        obtain ⟨r, d1, d2, d3⟩ := c_alike (d := d + 11) (K := K) (O := O') (t := t') (ar := ar) (A := D3) (x := 0) (y := p) (by omega) (by omega) (fun i i0 i1 => by
          rw [v0 i i0 i1, v1 p i (by omega) (by omega) i0 i1]
          exact ⟨zSg_rng (wS 60).1 ⟨i0, i1⟩, zSg_rng (wS (60 - p)).1 ⟨i0, i1⟩⟩)
        have d4 : r = 1 ↔ zSame (zSn L (A 186) (60 - p)) (zSn L (A 186) 60) := by
          rw [d3]
          constructor
          · intro hh i i0 i1
            have := hh i i0 i1
            rw [v0 i i0 i1, v1 p i (by omega) (by omega) i0 i1] at this
            exact this.symm
          · intro hh i i0 i1
            rw [v0 i i0 i1, v1 p i (by omega) (by omega) i0 i1]; exact (hh i i0 i1).symm
        have q := ih (p + 1) (by omega) (by omega)
        unfold zRd
        rw [i297_52 (by omega)]
        by_cases hs : zSame (zSn L (A 186) (60 - p)) (zSn L (A 186) 60)
        · have hr1 := d4.2 hs
          subst hr1
          rw [if_pos hs]
          simp (disch := first | assumption | omega | exact zr_and | exact zr_or | exact zr_xor | exact zr_shl | exact zr_shr | exact zr_ushr | exact zr_byte | exact isHall3 | exact isLaw12) only [i297_58, d1, i297_64, i297_67, mB1_i, mB0_i, mB1n_i, mB0n_i, mB1_x, mB0_x, ↓if_pos, ↓if_neg, if_true, if_false, if_pos, if_neg]
        · have hr0 : r = 0 := by
            rcases d2 with h | h
            · exact h
            · exact absurd (d4.1 h) hs
          subst hr0
          rw [if_neg hs, ← q]
          simp (disch := first | assumption | omega | exact zr_and | exact zr_or | exact zr_xor | exact zr_shl | exact zr_shr | exact zr_ushr | exact zr_byte | exact isHall3 | exact isLaw12) only [i297_58, d1, i297_64, i297_69, mB1_i, mB0_i, mB1n_i, mB0n_i, mB1_x, mB0_x, ↓if_pos, ↓if_neg, if_true, if_false, if_pos, if_neg]
    have q5 := l2 30 1 (by omega) (by omega)
    refine ⟨D3, ?_, zFm_0 s2⟩
    simp (disch := first | assumption | omega | exact zr_and | exact zr_or | exact zr_xor | exact zr_shl | exact zr_shr | exact zr_ushr | exact zr_byte | exact isHall3 | exact isLaw12) only [i297_0, i297_9, p1, q1, i297_41, n1, i297_46, s1, i297_50, q5, mB1_i, mB0_i, mB1n_i, mB0n_i, mB1_x, mB0_x, ↓if_pos, ↓if_neg, if_true, if_false, if_pos, if_neg]
end ROUND
