/-! CALLS, 12: pull -/
section PULL2
variable {ar : Nat → Nat × (Nat → Int32)} {d t : Nat} {K : Nat → Nat → Option Nat} {A : Nat → Int → Int} {O : Nat → Int64}
theorem zNo3_congr {f g : Int → Int} {x y : Int} (hx : x = y) (h0 : f 0 = g 0) (h1 : f 1 = g 1) (h2 : f 2 = g 2) : zNo3 f x = zNo3 g y := by
  unfold zNo3
  simp only [hx, h0, h1, h2]
theorem zAbs_rng {x : Int} (h : -99 ≤ x ∧ x ≤ 99) : 0 ≤ zAbs x ∧ zAbs x ≤ 99 := by unfold zAbs; split <;> omega
theorem c_isNearest {at_ fi st own : Int} (hs : st = 1 ∨ st = 3) (ha : 0 ≤ at_ ∧ at_ < 9) (hf : 0 ≤ fi ∧ fi + 2 * st < 9) (ho : 0 ≤ own ∧ own ≤ 99) (hv : ∀ i, 0 ≤ i → i < 9 → 0 ≤ A 182 i ∧ A 182 i ≤ 99) : mGd ar (d + 1) 184 0 [.ref 181, .int (zI at_), .int (zI fi), .int (zI st), .int (zI own), .double 0, .double 0] [] (zW K A O t) = some (.inl (some (.int (zI (if zNo3 (fun c => zAbs (A 182 (fi + c * st) - own)) (zAbs (A 182 at_ - own)) = true then 1 else 0)))), zW K A O t) := by
  have va := hv at_ ha.1 ha.2
  have ra := zAbs_rng (x := A 182 at_ - own) (by omega)
  have ca := c_abs (d := d) (K := K) (O := O) (t := t) (ar := ar) (A := A) (x := A 182 at_ - own) (by omega)
  have stp : ∀ (c : Int) (u : Value), 0 ≤ c → c < 3 → mGd ar (d + 1) 184 3 [.ref 181, .int (zI at_), .int (zI fi), .int (zI st), .int (zI own), .int (zI c), u] [] (zW K A O t) = if zAbs (A 182 at_ - own) ≤ zAbs (A 182 (fi + c * st) - own) then mGd ar (d + 1) 184 3 [.ref 181, .int (zI at_), .int (zI fi), .int (zI st), .int (zI own), .int (zI ((c + 1))), .int (zI ((fi + c * st)))] [] (zW K A O t) else some (.inl (some (.int (zI 0))), zW K A O t) := fun c u c0 c1 => by
    have hi : 0 ≤ fi + c * st ∧ fi + c * st < 9 := by rcases hs with rfl | rfl <;> omega
    have vi := hv (fi + c * st) hi.1 hi.2
    have ri := zAbs_rng (x := A 182 (fi + c * st) - own) (by omega)
    have cb := c_abs (d := d) (K := K) (O := O) (t := t) (ar := ar) (A := A) (x := A 182 (fi + c * st) - own) (by omega)
    rw [i184_3 (by omega)]
    by_cases hc : zAbs (A 182 at_ - own) ≤ zAbs (A 182 (fi + c * st) - own)
    · simp (disch := first | assumption | omega | exact zr_and | exact zr_or | exact zr_xor | exact zr_shl | exact zr_shr | exact zr_ushr | exact zr_byte | exact isHall3 | exact isLaw12) only [i184_9, i184_27, i184_40, i184_52, i184_55, i184_57, i184_63, ca, cb, mB1_i, mB0_i, mB1n_i, mB0n_i, mB1_x, mB0_x, ↓if_pos, ↓if_neg, if_true, if_false, if_pos, if_neg]
    · simp (disch := first | assumption | omega | exact zr_and | exact zr_or | exact zr_xor | exact zr_shl | exact zr_shr | exact zr_ushr | exact zr_byte | exact isHall3 | exact isLaw12) only [i184_9, i184_27, i184_40, i184_52, i184_55, i184_57, i184_63, ca, cb, mB1_i, mB0_i, mB1n_i, mB0n_i, mB1_x, mB0_x, ↓if_pos, ↓if_neg, if_true, if_false, if_pos, if_neg]
  have fin : ∀ (u : Value), mGd ar (d + 1) 184 3 [.ref 181, .int (zI at_), .int (zI fi), .int (zI st), .int (zI own), .int (zI ((0 + 1 + 1 + 1))), u] [] (zW K A O t) = some (.inl (some (.int (zI 1))), zW K A O t) := fun u => by
    simp (disch := first | assumption | omega | exact zr_and | exact zr_or | exact zr_xor | exact zr_shl | exact zr_shr | exact zr_ushr | exact zr_byte | exact isHall3 | exact isLaw12) only [i184_3, i184_9, i184_27, i184_40, i184_52, i184_55, i184_57, i184_63, mB1_i, mB0_i, mB1n_i, mB0n_i, mB1_x, mB0_x, ↓if_pos, ↓if_neg, if_true, if_false, if_pos, if_neg]
  rw [i184_0, stp 0 _ (by omega) (by omega), stp (0 + 1) _ (by omega) (by omega), stp (0 + 1 + 1) _ (by omega) (by omega), fin]
  unfold zNo3
  simp only [Int.reduceAdd]
  by_cases h0 : zAbs (A 182 at_ - own) ≤ zAbs (A 182 (fi + 0 * st) - own) <;> by_cases h1 : zAbs (A 182 at_ - own) ≤ zAbs (A 182 (fi + 1 * st) - own) <;> by_cases h2 : zAbs (A 182 at_ - own) ≤ zAbs (A 182 (fi + 2 * st) - own) <;> simp only [h0, h1, h2, decide_true, decide_false, Bool.and_self, Bool.and_true, Bool.and_false, Bool.false_and, Bool.false_eq_true, if_true, if_false]
theorem c_offBy {h : Int → Int} {k p q r a b : Int} (hw : zHW0 h) (hk : 0 ≤ k ∧ k < 4) (hp : 0 ≤ p ∧ p < h 0) (hq : 0 ≤ q ∧ q < h 0) (hne : p ≠ q) (hr : 0 ≤ r ∧ r ≤ 5) (ha : 0 ≤ a ∧ a ≤ 2) (hb : 0 ≤ b ∧ b ≤ 2) {B : Nat → Int → Int} (hB : zLd h k B) : ∃ C, mGd ar (d + 4) 323 0 [.ref 185, .int (zI r), .int (zI p), .int (zI q), .int (zI a), .int (zI b), .double 0, .double 0, .double 0] [] (zW K B O t) = some (.inl (some (.int (zI (zAbs (zPl1 h k p q r a b - h (15 + 6 * p + k)))))), zW K C O t) ∧ zFr B C ∧ zLd h k C := by
  have hB' := hB
  obtain ⟨b1, b2, b3⟩ := hB
  have w0 := hw.1
  have hl := zAll_lt w0
  have hpos := zAll_pos (n := h 0) (by omega)
  have ep := b3 p hp.1 hp.2
  have eq := b3 q hq.1 hq.2
  have wnp := hw.2.2.2.2.2.2.2.1 p k hp.1 hp.2 hk.1 hk.2
  have wnq := hw.2.2.2.2.2.2.2.1 q k hq.1 hq.2 hk.1 hk.2
  have rx := zTl_rng (c := a) wnp
  have ry := zTl_rng (c := b) wnq
  have c1 := c_toldBy (d := d + 3) (K := K) (O := O) (t := t) (ar := ar) (A := B) (own := h (15 + 6 * p + k)) ha
  have c2 := c_toldBy (d := d + 3) (K := K) (O := O) (t := t) (ar := ar) (A := zU B 193 p (zTl (h (15 + 6 * p + k)) a)) (own := h (15 + 6 * q + k)) hb
  have u6 : zU (zU B 193 p (zTl (h (15 + 6 * p + k)) a)) 193 q (zTl (h (15 + 6 * q + k)) b) 186 = h := by rw [zU_r (by decide), zU_r (by decide), b1]
  have ok1 : zROk (zU (zU B 193 p (zTl (h (15 + 6 * p + k)) a)) 193 q (zTl (h (15 + 6 * q + k)) b)) := by
    have qq := b2
    unfold zROk at qq ⊢
    rw [u6]
    rw [b1] at qq
    refine ⟨qq.1, fun i i0 i1 => ?_, qq.2.2⟩
    by_cases hiq : i = q
    · rw [hiq, zU_at]; exact ry
    · rw [zU_s hiq]
      by_cases hip : i = p
      · rw [hip, zU_at]; exact rx
      · rw [zU_s hip]; exact qq.2.1 i i0 i1
  have call := c_all (d := d + 2) (K := K) (O := O) (t := t) (ar := ar) (A := zU (zU B 193 p (zTl (h (15 + 6 * p + k)) a)) 193 q (zTl (h (15 + 6 * q + k)) b)) (by rw [u6]; exact w0)
  rw [u6] at call
  obtain ⟨C, g1, g2⟩ := c_middleOf (d := d) (K := K) (O := O) (t := t) (ar := ar) (A := zU (zU B 193 p (zTl (h (15 + 6 * p + k)) a)) 193 q (zTl (h (15 + 6 * q + k)) b)) (r := r) (s := zAll (h 0)) ok1 (by rw [u6]; omega) hr
  have e : zMid r (zSel (zAll (h 0)) (zRP (zU (zU B 193 p (zTl (h (15 + 6 * p + k)) a)) 193 q (zTl (h (15 + 6 * q + k)) b))) 0 (zU (zU B 193 p (zTl (h (15 + 6 * p + k)) a)) 193 q (zTl (h (15 + 6 * q + k)) b) 186 0).toNat) = zPl1 h k p q r a b := by
    rw [u6]
    have e1 : zSel (zAll (h 0)) (zRP (zU (zU B 193 p (zTl (h (15 + 6 * p + k)) a)) 193 q (zTl (h (15 + 6 * q + k)) b))) 0 (h 0).toNat = zSel (zAll (h 0)) (fun i => if i = q then (zTl (h (15 + 6 * q + k)) b, h (15 + 6 * q + 4)) else if i = p then (zTl (h (15 + 6 * p + k)) a, h (15 + 6 * p + 4)) else zWP h k i) 0 (h 0).toNat := by
      refine zSel_congr (fun i i1 i2 => ⟨rfl, fun _ => ?_⟩)
      unfold zRP
      rw [u6]
      by_cases hiq : i = q
      · rw [if_pos hiq, hiq, zU_at]
      · rw [if_neg hiq, zU_s hiq]
        by_cases hip : i = p
        · rw [if_pos hip, hip, zU_at]
        · rw [if_neg hip, zU_s hip, b3 i i1 (by omega)]; rfl
    rw [e1]
    exact zMid_perm (zPM_perm w0 hp hq hne (by rw [if_neg hne, if_pos rfl]) (if_pos rfl) (fun i i1 i2 => by rw [if_neg i2, if_neg i1]))
  rw [e] at g1
  have rpm : 0 ≤ zPl1 h k p q r a b ∧ zPl1 h k p q r a b ≤ 99 := zMid_rng (zPo_ok hw hk hp hq hne rx ry) (by simp) hr
  have hfr : zFr B (zU (zU C 193 p (h (15 + 6 * p + k))) 193 q (h (15 + 6 * q + k))) := by
    refine ⟨fun j hj => by rw [zU_c (by decide), zU_c (by decide), g2.1 j hj, zU_c (by decide), zU_c (by decide)], fun c c1 c2 => ?_⟩
    by_cases hc : c = 193
    · subst hc
      funext j
      have e193 := g2.2 193 (by decide) (by decide)
      by_cases hjq : j = q
      · rw [hjq, zU_at, eq]
      · rw [zU_s hjq]
        by_cases hjp : j = p
        · rw [hjp, zU_at, ep]
        · rw [zU_s hjp, e193, zU_s hjq, zU_s hjp]
    · rw [zU_r hc, zU_r hc, g2.2 c c1 c2, zU_r hc, zU_r hc]
  have cab := c_abs (d := d + 3) (K := K) (O := O) (t := t) (ar := ar) (A := zU (zU C 193 p (h (15 + 6 * p + k))) 193 q (h (15 + 6 * q + k))) (x := zPl1 h k p q r a b - h (15 + 6 * p + k)) (by omega)
  refine ⟨_, ?_, hfr, zLd_fr hB' hfr⟩
  simp (disch := first | assumption | omega | exact zr_and | exact zr_or | exact zr_xor | exact zr_shl | exact zr_shr | exact zr_ushr | exact zr_byte | exact isHall3 | exact isLaw12) only [i323_0, i323_28, i323_41, i323_48, i323_51, i323_77, ep, eq, c1, c2, call, g1, cab, mB1_i, mB0_i, mB1n_i, mB0n_i, mB1_x, mB0_x, ↓if_pos, ↓if_neg, if_true, if_false, if_pos, if_neg]
theorem c_isRest {h : Int → Int} {k p q r a b : Int} (hw : zHW0 h) (hk : 0 ≤ k ∧ k < 4) (hp : 0 ≤ p ∧ p < h 0) (hq : 0 ≤ q ∧ q < h 0) (hne : p ≠ q) (hr : 0 ≤ r ∧ r ≤ 5) (ha : 0 ≤ a ∧ a ≤ 2) (hb : 0 ≤ b ∧ b ≤ 2) {B : Nat → Int → Int} (hB : zLd h k B) : ∃ C, mGd ar (d + 5) 322 0 [.ref 185, .int (zI r), .int (zI p), .int (zI q), .int (zI a), .int (zI b), .double 0, .double 0] [] (zW K B O t) = some (.inl (some (.int (zI (if zNo3 (fun c => zAbs (zPl1 h k p q r c b - h (15 + 6 * p + k))) (zAbs (zPl1 h k p q r a b - h (15 + 6 * p + k))) = true then 1 else 0)))), zW K C O t) ∧ zFr B C ∧ zLd h k C := by
  have wnp := hw.2.2.2.2.2.2.2.1 p k hp.1 hp.2 hk.1 hk.2
  have wnq := hw.2.2.2.2.2.2.2.1 q k hq.1 hq.2 hk.1 hk.2
  have rg : ∀ c, 0 ≤ zAbs (zPl1 h k p q r c b - h (15 + 6 * p + k)) ∧ zAbs (zPl1 h k p q r c b - h (15 + 6 * p + k)) ≤ 99 := fun c => by
    have : 0 ≤ zPl1 h k p q r c b ∧ zPl1 h k p q r c b ≤ 99 := zMid_rng (zPo_ok hw hk hp hq hne (zTl_rng wnp) (zTl_rng wnq)) (by simp) hr
    exact zAbs_rng (by omega)
  have stp : ∀ (c : Int) (bb : Bool) (C : Nat → Int → Int), 0 ≤ c → c < 3 → zFr B C → zLd h k C → ∃ C', mGd ar (d + 5) 322 6 [.ref 185, .int (zI r), .int (zI p), .int (zI q), .int (zI a), .int (zI b), .int (zI ((if bb = true then 1 else 0))), .int (zI c)] [] (zW K C O t) = mGd ar (d + 5) 322 6 [.ref 185, .int (zI r), .int (zI p), .int (zI q), .int (zI a), .int (zI b), .int (zI ((if (bb && decide (zAbs (zPl1 h k p q r a b - h (15 + 6 * p + k)) ≤ zAbs (zPl1 h k p q r c b - h (15 + 6 * p + k)))) = true then 1 else 0))), .int (zI ((c + 1)))] [] (zW K C' O t) ∧ zFr B C' ∧ zLd h k C' := fun c bb C c0 c1 hf hC => by
    cases bb with
    | false =>
      refine ⟨C, ?_, hf, hC⟩
      rw [Bool.false_and, if_neg (show ¬ false = true by decide), i322_6 (by omega)]
      simp (disch := first | assumption | omega | exact zr_and | exact zr_or | exact zr_xor | exact zr_shl | exact zr_shr | exact zr_ushr | exact zr_byte | exact isHall3 | exact isLaw12) only [i322_12, i322_17, i322_28, i322_39, i322_42, i322_46, i322_47, i322_55, mB1_i, mB0_i, mB1n_i, mB0n_i, mB1_x, mB0_x, ↓if_pos, ↓if_neg, if_true, if_false, if_pos, if_neg]
    | true =>
      obtain ⟨C1, d1, d2, d3⟩ := c_offBy (d := d) (K := K) (O := O) (t := t) (ar := ar) hw hk hp hq hne hr (a := c) (by omega) hb hC
      obtain ⟨C2, e1, e2, e3⟩ := c_offBy (d := d) (K := K) (O := O) (t := t) (ar := ar) hw hk hp hq hne hr ha hb d3
      have r1 := rg c
      have r2 := rg a
      refine ⟨C2, ?_, ⟨fun j hj => by rw [e2.1 j hj, d2.1 j hj, hf.1 j hj], fun x c1 c2 => by rw [e2.2 x c1 c2, d2.2 x c1 c2, hf.2 x c1 c2]⟩, e3⟩
      rw [Bool.true_and, if_pos (show true = true from rfl), i322_6 (by omega)]
      by_cases hc : zAbs (zPl1 h k p q r a b - h (15 + 6 * p + k)) ≤ zAbs (zPl1 h k p q r c b - h (15 + 6 * p + k))
      · rw [decide_eq_true hc, if_pos (show true = true from rfl)]
        simp (disch := first | assumption | omega | exact zr_and | exact zr_or | exact zr_xor | exact zr_shl | exact zr_shr | exact zr_ushr | exact zr_byte | exact isHall3 | exact isLaw12) only [i322_12, i322_17, i322_28, i322_39, i322_42, i322_46, i322_47, i322_55, d1, e1, mB1_i, mB0_i, mB1n_i, mB0n_i, mB1_x, mB0_x, ↓if_pos, ↓if_neg, if_true, if_false, if_pos, if_neg]
      · rw [decide_eq_false hc, if_neg (show ¬ false = true by decide)]
        simp (disch := first | assumption | omega | exact zr_and | exact zr_or | exact zr_xor | exact zr_shl | exact zr_shr | exact zr_ushr | exact zr_byte | exact isHall3 | exact isLaw12) only [i322_12, i322_17, i322_28, i322_39, i322_42, i322_46, i322_47, i322_55, d1, e1, mB1_i, mB0_i, mB1n_i, mB0n_i, mB1_x, mB0_x, ↓if_pos, ↓if_neg, if_true, if_false, if_pos, if_neg]
  obtain ⟨C1, x1, x2, x3⟩ := stp 0 true B (by omega) (by omega) zFr_refl hB
  obtain ⟨C2, y1, y2, y3⟩ := stp (0 + 1) (true && decide (zAbs (zPl1 h k p q r a b - h (15 + 6 * p + k)) ≤ zAbs (zPl1 h k p q r 0 b - h (15 + 6 * p + k)))) C1 (by omega) (by omega) x2 x3
  obtain ⟨C3, z1, z2, z3⟩ := stp (0 + 1 + 1) (true && decide (zAbs (zPl1 h k p q r a b - h (15 + 6 * p + k)) ≤ zAbs (zPl1 h k p q r 0 b - h (15 + 6 * p + k))) && decide (zAbs (zPl1 h k p q r a b - h (15 + 6 * p + k)) ≤ zAbs (zPl1 h k p q r (0 + 1) b - h (15 + 6 * p + k)))) C2 (by omega) (by omega) y2 y3
  have fin : ∀ bb : Bool, mGd ar (d + 5) 322 6 [.ref 185, .int (zI r), .int (zI p), .int (zI q), .int (zI a), .int (zI b), .int (zI ((if bb = true then 1 else 0))), .int (zI ((0 + 1 + 1 + 1)))] [] (zW K C3 O t) = some (.inl (some (.int (zI (if bb = true then 1 else 0)))), zW K C3 O t) := fun bb => by
    cases bb with
    | false => rw [if_neg (show ¬ false = true by decide)]; simp (disch := first | assumption | omega | exact zr_and | exact zr_or | exact zr_xor | exact zr_shl | exact zr_shr | exact zr_ushr | exact zr_byte | exact isHall3 | exact isLaw12) only [i322_6, i322_12, i322_17, i322_28, i322_39, i322_42, i322_46, i322_47, i322_55, mB1_i, mB0_i, mB1n_i, mB0n_i, mB1_x, mB0_x, ↓if_pos, ↓if_neg, if_true, if_false, if_pos, if_neg]
    | true => rw [if_pos (show true = true from rfl)]; simp (disch := first | assumption | omega | exact zr_and | exact zr_or | exact zr_xor | exact zr_shl | exact zr_shr | exact zr_ushr | exact zr_byte | exact isHall3 | exact isLaw12) only [i322_6, i322_12, i322_17, i322_28, i322_39, i322_42, i322_46, i322_47, i322_55, mB1_i, mB0_i, mB1n_i, mB0n_i, mB1_x, mB0_x, ↓if_pos, ↓if_neg, if_true, if_false, if_pos, if_neg]
  refine ⟨C3, ?_, z2, z3⟩
  rw [if_pos (show true = true from rfl)] at x1
  rw [i322_0, x1, y1, z1, fin]
  unfold zNo3
  simp only [Int.reduceAdd, Bool.true_and]
theorem q_pull {p q k : Int} (hI : zInv A) (h_p : -2147483648 ≤ p ∧ p < 2147483648) (h_q : -2147483648 ≤ q ∧ q < 2147483648) (h_k : -2147483648 ≤ k ∧ k < 2147483648) : zQ ar K O t (d + 12) 180 [.ref 0, .int (zI p), .int (zI q), .int (zI k)] 321 [.ref 185, .int (zI p), .int (zI q), .int (zI k), .double 0, .double 0, .double 0] (fun E => if E = 2 then 1 else if E = 0 then 2 else 0) A := by
  obtain ⟨hw, hr, e0, w0⟩ := zInv_f hI
  have u6 : ∀ v, zU A 185 0 v 186 = A 186 := fun v => zU_r (by decide)
  have M1 : ∀ (B : Nat → Int → Int) (O' : Nat → Int64) (t' : Nat), B 186 = A 186 → mGd ar (d + 11) 255 0 [.ref 185, .int (zI p)] [] (zW K B O' t') = some (.inl (some (.int (zI (if 0 ≤ p ∧ p < A 186 0 then 0 else 1)))), zW K B O' t') := fun B O' t' e => by rw [← e]; exact c_noPerson (d := (d + 10)) h_p (by rw [e]; exact w0)
  have M2 : ∀ (B : Nat → Int → Int) (O' : Nat → Int64) (t' : Nat), B 186 = A 186 → mGd ar (d + 11) 255 0 [.ref 185, .int (zI q)] [] (zW K B O' t') = some (.inl (some (.int (zI (if 0 ≤ q ∧ q < A 186 0 then 0 else 1)))), zW K B O' t') := fun B O' t' e => by rw [← e]; exact c_noPerson (d := (d + 10)) h_q (by rw [e]; exact w0)
  have M3 : ∀ (B : Nat → Int → Int) (O' : Nat → Int64) (t' : Nat), B 186 = A 186 → mGd ar (d + 11) 257 0 [.int (zI k)] [] (zW K B O' t') = some (.inl (some (.int (zI (if 0 ≤ k ∧ k < 4 then 0 else 1)))), zW K B O' t') := fun B O' t' e => c_noKind (d := (d + 10)) h_k
  by_cases g1 : 0 ≤ p ∧ p < A 186 0
  case neg =>
    have k1 := c_nPersonX (d := (d + 11)) (K := K) (O := O) (t := t) (ar := ar) (A := A) (p := p) h_p (by omega) (by omega)
    refine zQ_ex (E := 2) hI ?_ (by decide) (fun O' t' => ⟨0, zU A 185 0 1, ?_, zU_at, zFm_u⟩)
    · simp (disch := first | assumption | omega | exact zr_and | exact zr_or | exact zr_xor | exact zr_shl | exact zr_shr | exact zr_ushr | exact zr_byte | exact isHall3 | exact isLaw12) only [i180_0, i180_5, i180_10, i180_15, i180_20, i180_31, i180_41, k1, mB1_i, mB0_i, mB1n_i, mB0n_i, mB1_x, mB0_x, ↓if_pos, ↓if_neg, if_true, if_false, if_pos, if_neg]
    · have n1 := M1 (zU A 185 0 0) O' t' (u6 0)
      rw [if_neg (by omega)] at n1
      simp (disch := first | assumption | omega | exact zr_and | exact zr_or | exact zr_xor | exact zr_shl | exact zr_shr | exact zr_ushr | exact zr_byte | exact isHall3 | exact isLaw12) only [i321_0, i321_11, i321_14, i321_19, i321_22, i321_26, i321_29, i321_33, i321_34, i321_38, i321_41, i321_47, i321_51, i321_52, i321_56, i321_59, i321_61, i321_66, i321_71, i321_79, i321_86, i321_104, i321_107, i321_123, i321_126, i321_133, i321_134, i321_143, n1, c_thr0, c_thr1, zU_uu, i233_0, zU_c, mB1_i, mB0_i, mB1n_i, mB0n_i, mB1_x, mB0_x, ↓if_pos, ↓if_neg, if_true, if_false, if_pos, if_neg]
  have k1 := c_nPerson (d := (d + 11)) (K := K) (O := O) (t := t) (ar := ar) (A := A) (p := p) (by omega) (by omega)
  have m1 : ∀ (B : Nat → Int → Int) (O' : Nat → Int64) (t' : Nat), B 186 = A 186 → mGd ar (d + 11) 255 0 [.ref 185, .int (zI p)] [] (zW K B O' t') = some (.inl (some (.int (zI 0))), zW K B O' t') := fun B O' t' e => by have q := M1 B O' t' e; rwa [if_pos (by omega)] at q
  by_cases g2 : 0 ≤ q ∧ q < A 186 0
  case neg =>
    have k2 := c_nPersonX (d := (d + 11)) (K := K) (O := O) (t := t) (ar := ar) (A := A) (p := q) h_q (by omega) (by omega)
    refine zQ_ex (E := 2) hI ?_ (by decide) (fun O' t' => ⟨0, zU A 185 0 1, ?_, zU_at, zFm_u⟩)
    · simp (disch := first | assumption | omega | exact zr_and | exact zr_or | exact zr_xor | exact zr_shl | exact zr_shr | exact zr_ushr | exact zr_byte | exact isHall3 | exact isLaw12) only [i180_0, i180_5, i180_10, i180_15, i180_20, i180_31, i180_41, k1, k2, mB1_i, mB0_i, mB1n_i, mB0n_i, mB1_x, mB0_x, ↓if_pos, ↓if_neg, if_true, if_false, if_pos, if_neg]
    · have n1 := M1 (zU A 185 0 0) O' t' (u6 0)
      rw [if_pos (by omega)] at n1
      have n2 := M2 (zU A 185 0 0) O' t' (u6 0)
      rw [if_neg (by omega)] at n2
      simp (disch := first | assumption | omega | exact zr_and | exact zr_or | exact zr_xor | exact zr_shl | exact zr_shr | exact zr_ushr | exact zr_byte | exact isHall3 | exact isLaw12) only [i321_0, i321_11, i321_14, i321_19, i321_22, i321_26, i321_29, i321_33, i321_34, i321_38, i321_41, i321_47, i321_51, i321_52, i321_56, i321_59, i321_61, i321_66, i321_71, i321_79, i321_86, i321_104, i321_107, i321_123, i321_126, i321_133, i321_134, i321_143, n1, n2, c_thr0, c_thr1, zU_uu, i233_0, zU_c, mB1_i, mB0_i, mB1n_i, mB0n_i, mB1_x, mB0_x, ↓if_pos, ↓if_neg, if_true, if_false, if_pos, if_neg]
  have k2 := c_nPerson (d := (d + 11)) (K := K) (O := O) (t := t) (ar := ar) (A := A) (p := q) (by omega) (by omega)
  have m2 : ∀ (B : Nat → Int → Int) (O' : Nat → Int64) (t' : Nat), B 186 = A 186 → mGd ar (d + 11) 255 0 [.ref 185, .int (zI q)] [] (zW K B O' t') = some (.inl (some (.int (zI 0))), zW K B O' t') := fun B O' t' e => by have q := M2 B O' t' e; rwa [if_pos (by omega)] at q
  by_cases g3 : 0 ≤ k ∧ k < 4
  case neg =>
    have k3 := c_nKindX (d := (d + 11)) (K := K) (O := O) (t := t) (ar := ar) (A := A) (p := k) h_k g3
    refine zQ_ex (E := 2) hI ?_ (by decide) (fun O' t' => ⟨0, zU A 185 0 1, ?_, zU_at, zFm_u⟩)
    · simp (disch := first | assumption | omega | exact zr_and | exact zr_or | exact zr_xor | exact zr_shl | exact zr_shr | exact zr_ushr | exact zr_byte | exact isHall3 | exact isLaw12) only [i180_0, i180_5, i180_10, i180_15, i180_20, i180_31, i180_41, k1, k2, k3, mB1_i, mB0_i, mB1n_i, mB0n_i, mB1_x, mB0_x, ↓if_pos, ↓if_neg, if_true, if_false, if_pos, if_neg]
    · have n1 := M1 (zU A 185 0 0) O' t' (u6 0)
      rw [if_pos (by omega)] at n1
      have n2 := M2 (zU A 185 0 0) O' t' (u6 0)
      rw [if_pos (by omega)] at n2
      have n3 := M3 (zU A 185 0 0) O' t' (u6 0)
      rw [if_neg (by omega)] at n3
      simp (disch := first | assumption | omega | exact zr_and | exact zr_or | exact zr_xor | exact zr_shl | exact zr_shr | exact zr_ushr | exact zr_byte | exact isHall3 | exact isLaw12) only [i321_0, i321_11, i321_14, i321_19, i321_22, i321_26, i321_29, i321_33, i321_34, i321_38, i321_41, i321_47, i321_51, i321_52, i321_56, i321_59, i321_61, i321_66, i321_71, i321_79, i321_86, i321_104, i321_107, i321_123, i321_126, i321_133, i321_134, i321_143, n1, n2, n3, c_thr0, c_thr1, zU_uu, i233_0, zU_c, mB1_i, mB0_i, mB1n_i, mB0n_i, mB1_x, mB0_x, ↓if_pos, ↓if_neg, if_true, if_false, if_pos, if_neg]
  have k3 := c_nKind (d := (d + 11)) (K := K) (O := O) (t := t) (ar := ar) (A := A) (p := k) g3
  have m3 : ∀ (B : Nat → Int → Int) (O' : Nat → Int64) (t' : Nat), B 186 = A 186 → mGd ar (d + 11) 257 0 [.int (zI k)] [] (zW K B O' t') = some (.inl (some (.int (zI 0))), zW K B O' t') := fun B O' t' e => by have q := M3 B O' t' e; rwa [if_pos (by omega)] at q
  by_cases g4 : p = q
  · refine zQ_ex (E := 0) hI ?_ (by decide) (fun O' t' => ⟨0, zU A 185 0 2, ?_, zU_at, zFm_u⟩)
    · simp (disch := first | assumption | omega | exact zr_and | exact zr_or | exact zr_xor | exact zr_shl | exact zr_shr | exact zr_ushr | exact zr_byte | exact isHall3 | exact isLaw12) only [i180_0, i180_5, i180_10, i180_15, i180_20, i180_31, i180_41, k1, k2, k3, mB1_i, mB0_i, mB1n_i, mB0n_i, mB1_x, mB0_x, ↓if_pos, ↓if_neg, if_true, if_false, if_pos, if_neg]
    · have n1 := m1 (zU A 185 0 0) O' t' (u6 0)
      have n2 := m2 (zU A 185 0 0) O' t' (u6 0)
      have n3 := m3 (zU A 185 0 0) O' t' (u6 0)
      simp (disch := first | assumption | omega | exact zr_and | exact zr_or | exact zr_xor | exact zr_shl | exact zr_shr | exact zr_ushr | exact zr_byte | exact isHall3 | exact isLaw12) only [i321_0, i321_11, i321_14, i321_19, i321_22, i321_26, i321_29, i321_33, i321_34, i321_38, i321_41, i321_47, i321_51, i321_52, i321_56, i321_59, i321_61, i321_66, i321_71, i321_79, i321_86, i321_104, i321_107, i321_123, i321_126, i321_133, i321_134, i321_143, n1, n2, n3, c_thr0, c_thr1, zU_uu, mB1_i, mB0_i, mB1n_i, mB0n_i, mB1_x, mB0_x, ↓if_pos, ↓if_neg, if_true, if_false, if_pos, if_neg]
  have wr := hw.2.2.2.2.2.1 k g3.1 g3.2
  have wnp := hw.2.2.2.2.2.2.2.1 p k g1.1 g1.2 g3.1 g3.2
  have wnq := hw.2.2.2.2.2.2.2.1 q k g2.1 g2.2 g3.1 g3.2
  have rnp := hr.2.2.2.2.2.2.2.1 p k g1.1 g1.2 g3.1 g3.2
  have rnq := hr.2.2.2.2.2.2.2.1 q k g2.1 g2.2 g3.1 g3.2
  obtain ⟨B, f1, f2, f3⟩ := c_pullAll (d := d + 7) (K := K) (O := O) (t := t) (ar := ar) hI g1 g2 g4 g3
  have hc : zFc A B := fun c hc => f2 c (fun e => hc (by unfold zSc; omega)) (fun e => hc (by unfold zSc; omega)) (fun e => hc (by unfold zSc; omega))
  have rv : ∀ i, 0 ≤ i → i < 9 → 0 ≤ B 182 i ∧ B 182 i ≤ 99 := fun i i0 i1 => by
    rw [f3 i i0 i1]
    exact zMid_rng (zPo_ok hw g3 g1 g2 g4 (zTl_rng wnp) (zTl_rng wnq)) (by simp) wr
  have l1 : ∀ (m : Nat) (i b : Int) (u : Value), i + m = 9 → 0 ≤ i → (0 ≤ b ∧ b < 512) → mGd ar (d + 11) 181 35 [.ref 181, .int (zI p), .int (zI q), .int (zI k), .int (zI (A 186 (15 + 6 * p + k))), .int (zI (A 186 (15 + 6 * q + k))), .int (zI b), .int (zI i), u] [] (zW K B O t) = some (.inl (some (.int (zI (zBf (zRst (A 186) k p q (A 186 (7 + k))) i m b)))), zW K B O t) := by
    intro m
    induction m with
    | zero =>
      intro i b u hi i0 hb
      simp (disch := first | assumption | omega | exact zr_and | exact zr_or | exact zr_xor | exact zr_shl | exact zr_shr | exact zr_ushr | exact zr_byte | exact isHall3 | exact isLaw12) only [i181_35, i181_9, i181_20, i181_29, i181_42, i181_59, i181_62, i181_76, i181_79, i181_88, i181_94, mB1_i, mB0_i, mB1n_i, mB0n_i, mB1_x, mB0_x, ↓if_pos, ↓if_neg, if_true, if_false, if_pos, if_neg]
      rfl
    | succ m ih =>
      intro i b u hi i0 hb
      have tm : Int.tmod i 3 = i % 3 := Int.tmod_eq_emod_of_nonneg i0
      have x1 := c_isNearest (d := d + 9) (K := K) (O := O) (t := t) (ar := ar) (A := B) (at_ := i) (fi := i % 3) (st := 3) (own := A 186 (15 + 6 * p + k)) (Or.inr rfl) (by omega) (by omega) wnp rv
      have x2 := c_isNearest (d := d + 9) (K := K) (O := O) (t := t) (ar := ar) (A := B) (at_ := i) (fi := i - i % 3) (st := 1) (own := A 186 (15 + 6 * q + k)) (Or.inl rfl) (by omega) (by omega) wnq rv
      have y1 : zNo3 (fun c => zAbs (B 182 (i % 3 + c * 3) - A 186 (15 + 6 * p + k))) (zAbs (B 182 i - A 186 (15 + 6 * p + k))) = zNo3 (fun c => zAbs (zPl1 (A 186) k p q (A 186 (7 + k)) c (i % 3) - A 186 (15 + 6 * p + k))) (zAbs (zPl1 (A 186) k p q (A 186 (7 + k)) (i / 3) (i % 3) - A 186 (15 + 6 * p + k))) := by
        have e := fun c (c0 : 0 ≤ c) (c2 : c ≤ 2) => f3 (i % 3 + c * 3) (by omega) (by omega)
        refine zNo3_congr ?_ ?_ ?_ ?_
        · rw [f3 i i0 (by omega)]
        · rw [e 0 (by omega) (by omega), show (i % 3 + 0 * 3) / 3 = 0 by omega, show (i % 3 + 0 * 3) % 3 = i % 3 by omega]
        · rw [e 1 (by omega) (by omega), show (i % 3 + 1 * 3) / 3 = 1 by omega, show (i % 3 + 1 * 3) % 3 = i % 3 by omega]
        · rw [e 2 (by omega) (by omega), show (i % 3 + 2 * 3) / 3 = 2 by omega, show (i % 3 + 2 * 3) % 3 = i % 3 by omega]
      have y2 : zNo3 (fun c => zAbs (B 182 (i - i % 3 + c * 1) - A 186 (15 + 6 * q + k))) (zAbs (B 182 i - A 186 (15 + 6 * q + k))) = zNo3 (fun c => zAbs (zPl1 (A 186) k p q (A 186 (7 + k)) (i / 3) c - A 186 (15 + 6 * q + k))) (zAbs (zPl1 (A 186) k p q (A 186 (7 + k)) (i / 3) (i % 3) - A 186 (15 + 6 * q + k))) := by
        have e := fun c (c0 : 0 ≤ c) (c2 : c ≤ 2) => f3 (i - i % 3 + c * 1) (by omega) (by omega)
        refine zNo3_congr ?_ ?_ ?_ ?_
        · rw [f3 i i0 (by omega)]
        · rw [e 0 (by omega) (by omega), show (i - i % 3 + 0 * 1) / 3 = i / 3 by omega, show (i - i % 3 + 0 * 1) % 3 = 0 by omega]
        · rw [e 1 (by omega) (by omega), show (i - i % 3 + 1 * 1) / 3 = i / 3 by omega, show (i - i % 3 + 1 * 1) % 3 = 1 by omega]
        · rw [e 2 (by omega) (by omega), show (i - i % 3 + 2 * 1) / 3 = i / 3 by omega, show (i - i % 3 + 2 * 1) % 3 = 2 by omega]
      rw [y1] at x1
      rw [y2] at x2
      rw [show zBf (zRst (A 186) k p q (A 186 (7 + k))) i (m + 1) b = zBf (zRst (A 186) k p q (A 186 (7 + k))) (i + 1) m (if zRst (A 186) k p q (A 186 (7 + k)) i = true then zOr b (zShl 1 i) else b) from rfl, i181_35 (by omega)]
      rw [show zRst (A 186) k p q (A 186 (7 + k)) i = (zNo3 (fun c => zAbs (zPl1 (A 186) k p q (A 186 (7 + k)) c (i % 3) - A 186 (15 + 6 * p + k))) (zAbs (zPl1 (A 186) k p q (A 186 (7 + k)) (i / 3) (i % 3) - A 186 (15 + 6 * p + k))) && zNo3 (fun c => zAbs (zPl1 (A 186) k p q (A 186 (7 + k)) (i / 3) c - A 186 (15 + 6 * q + k))) (zAbs (zPl1 (A 186) k p q (A 186 (7 + k)) (i / 3) (i % 3) - A 186 (15 + 6 * q + k)))) from rfl]
      cases h1 : zNo3 (fun c => zAbs (zPl1 (A 186) k p q (A 186 (7 + k)) c (i % 3) - A 186 (15 + 6 * p + k))) (zAbs (zPl1 (A 186) k p q (A 186 (7 + k)) (i / 3) (i % 3) - A 186 (15 + 6 * p + k))) with
      | false =>
        rw [h1, if_neg (show ¬ false = true by decide)] at x1
        rw [Bool.false_and, if_neg (show ¬ false = true by decide), ← ih (i + 1) b (.int (zI (i % 3))) (by omega) (by omega) hb]
        simp (disch := first | assumption | omega | exact zr_and | exact zr_or | exact zr_xor | exact zr_shl | exact zr_shr | exact zr_ushr | exact zr_byte | exact isHall3 | exact isLaw12) only [i181_9, i181_20, i181_29, i181_42, i181_59, i181_62, i181_76, i181_79, i181_88, i181_94, tm, x1, mB1_i, mB0_i, mB1n_i, mB0n_i, mB1_x, mB0_x, ↓if_pos, ↓if_neg, if_true, if_false, if_pos, if_neg]
      | true =>
        rw [h1, if_pos (show true = true from rfl)] at x1
        cases h2 : zNo3 (fun c => zAbs (zPl1 (A 186) k p q (A 186 (7 + k)) (i / 3) c - A 186 (15 + 6 * q + k))) (zAbs (zPl1 (A 186) k p q (A 186 (7 + k)) (i / 3) (i % 3) - A 186 (15 + 6 * q + k))) with
        | false =>
          rw [h2, if_neg (show ¬ false = true by decide)] at x2
          rw [Bool.and_false, if_neg (show ¬ false = true by decide), ← ih (i + 1) b (.int (zI (i % 3))) (by omega) (by omega) hb]
          simp (disch := first | assumption | omega | exact zr_and | exact zr_or | exact zr_xor | exact zr_shl | exact zr_shr | exact zr_ushr | exact zr_byte | exact isHall3 | exact isLaw12) only [i181_9, i181_20, i181_29, i181_42, i181_59, i181_62, i181_76, i181_79, i181_88, i181_94, tm, x1, x2, mB1_i, mB0_i, mB1n_i, mB0n_i, mB1_x, mB0_x, ↓if_pos, ↓if_neg, if_true, if_false, if_pos, if_neg]
        | true =>
          rw [h2, if_pos (show true = true from rfl)] at x2
          rw [Bool.and_self, if_pos (show true = true from rfl), ← ih (i + 1) (zOr b (zShl 1 i)) (.int (zI (i % 3))) (by omega) (by omega) (zf_more9 hb (by omega))]
          simp (disch := first | assumption | omega | exact zr_and | exact zr_or | exact zr_xor | exact zr_shl | exact zr_shr | exact zr_ushr | exact zr_byte | exact isHall3 | exact isLaw12) only [i181_9, i181_20, i181_29, i181_42, i181_59, i181_62, i181_76, i181_79, i181_88, i181_94, tm, x1, x2, mB1_i, mB0_i, mB1n_i, mB0n_i, mB1_x, mB0_x, ↓if_pos, ↓if_neg, if_true, if_false, if_pos, if_neg]
  have rb : ∀ (m : Nat) (i b : Int), 0 ≤ i → i + m ≤ 9 → (0 ≤ b ∧ b < 512) → 0 ≤ zBf (zRst (A 186) k p q (A 186 (7 + k))) i m b ∧ zBf (zRst (A 186) k p q (A 186 (7 + k))) i m b < 512 := by
    intro m
    induction m with
    | zero => intro i b _ _ h; exact h
    | succ m ih =>
      intro i b i0 i9 h
      refine ih (i + 1) _ (by omega) (by omega) ?_
      split
      · exact zf_more9 h (by omega)
      · exact h
  have hv := rb 9 0 0 (by omega) (by omega) (by decide)
  refine zQ_ok (b := zBf (zRst (A 186) k p q (A 186 (7 + k))) 0 9 0) (A1 := B) hI ?_ hc (by omega) (fun O' t' => ?_)
  · have x := l1 9 0 0 (.double 0) (by omega) (by omega) (by decide)
    simp (disch := first | assumption | omega | exact zr_and | exact zr_or | exact zr_xor | exact zr_shl | exact zr_shr | exact zr_ushr | exact zr_byte | exact isHall3 | exact isLaw12) only [i180_0, i180_5, i180_10, i180_15, i180_20, i180_31, i180_41, k1, k2, k3, i181_0, i181_9, i181_20, i181_29, i181_42, i181_59, i181_62, i181_76, i181_79, i181_88, i181_94, i27_0, rnp, rnq, f1, x, mB1_i, mB0_i, mB1n_i, mB0n_i, mB1_x, mB0_x, ↓if_pos, ↓if_neg, if_true, if_false, if_pos, if_neg]
  · have u7 : zU B 185 0 0 186 = A 186 := by rw [zU_r (by decide), zFc_186 hc]
    have n1 := m1 (zU B 185 0 0) O' t' u7
    have n2 := m2 (zU B 185 0 0) O' t' u7
    have n3 := m3 (zU B 185 0 0) O' t' u7
    obtain ⟨A2, s1, s2, s3, s4, s5, s6, s7⟩ := c_laidAll (d := d + 9) (K := K) (O := O') (t := t') (ar := ar) (B := zU B 185 0 0) hw u7 g3
    have eR : A2 186 (7 + k) = A 186 (7 + k) := by rw [s3]
    have l2 : ∀ (m : Nat) (i b : Int) (C : Nat → Int → Int), i + m = 9 → 0 ≤ i → (0 ≤ b ∧ b < 512) → zFr A2 C → zLd (A 186) k C → ∃ C', mGd ar (d + 12) 321 79 [.ref 185, .int (zI p), .int (zI q), .int (zI k), .int (zI (A 186 (7 + k))), .int (zI b), .int (zI i)] [] (zW K C O' t') = some (.inl (some (.int (zI (zBf (zRst (A 186) k p q (A 186 (7 + k))) i m b)))), zW K C' O' t') ∧ zFr A2 C' := by
      intro m
      induction m with
      | zero =>
        intro i b C hi i0 hb hf hC
        refine ⟨C, ?_, hf⟩
        simp (disch := first | assumption | omega | exact zr_and | exact zr_or | exact zr_xor | exact zr_shl | exact zr_shr | exact zr_ushr | exact zr_byte | exact isHall3 | exact isLaw12) only [i321_79, i321_11, i321_14, i321_19, i321_22, i321_26, i321_29, i321_33, i321_34, i321_38, i321_41, i321_47, i321_51, i321_52, i321_56, i321_59, i321_61, i321_66, i321_71, i321_86, i321_104, i321_107, i321_123, i321_126, i321_133, i321_134, i321_143, mB1_i, mB0_i, mB1n_i, mB0n_i, mB1_x, mB0_x, ↓if_pos, ↓if_neg, if_true, if_false, if_pos, if_neg]
        rfl
      | succ m ih =>
        intro i b C hi i0 hb hf hC
        have td : Int.tdiv i 3 = i / 3 := Int.tdiv_eq_ediv_of_nonneg i0
        have tm : Int.tmod i 3 = i % 3 := Int.tmod_eq_emod_of_nonneg i0
        have o0 := zOr_0 (b := b) (by omega)
        obtain ⟨C1, d1, d2, d3⟩ := c_isRest (d := d + 6) (K := K) (O := O') (t := t') (ar := ar) hw g3 g1 g2 g4 wr (a := i / 3) (b := i % 3) (by omega) (by omega) hC
        obtain ⟨C2, e1, e2, e3⟩ := c_isRest (d := d + 6) (K := K) (O := O') (t := t') (ar := ar) hw g3 g2 g1 (fun h => g4 h.symm) wr (a := i % 3) (b := i / 3) (by omega) (by omega) d3
        have y2 : zNo3 (fun c => zAbs (zPl1 (A 186) k q p (A 186 (7 + k)) c (i / 3) - A 186 (15 + 6 * q + k))) (zAbs (zPl1 (A 186) k q p (A 186 (7 + k)) (i % 3) (i / 3) - A 186 (15 + 6 * q + k))) = zNo3 (fun c => zAbs (zPl1 (A 186) k p q (A 186 (7 + k)) (i / 3) c - A 186 (15 + 6 * q + k))) (zAbs (zPl1 (A 186) k p q (A 186 (7 + k)) (i / 3) (i % 3) - A 186 (15 + 6 * q + k))) := by
          have hc2 : ∀ a b, zPl1 (A 186) k q p (A 186 (7 + k)) b a = zPl1 (A 186) k p q (A 186 (7 + k)) a b := fun a b => zPM_comm w0 (by omega) (by omega)
          exact zNo3_congr (by rw [hc2]) (by rw [hc2]) (by rw [hc2]) (by rw [hc2])
        rw [y2] at e1
        have hf1 : zFr A2 C1 := ⟨fun j hj => by rw [d2.1 j hj, hf.1 j hj], fun c c1 c2 => by rw [d2.2 c c1 c2, hf.2 c c1 c2]⟩
        have hf2 : zFr A2 C2 := ⟨fun j hj => by rw [e2.1 j hj, hf1.1 j hj], fun c c1 c2 => by rw [e2.2 c c1 c2, hf1.2 c c1 c2]⟩
        rw [show zBf (zRst (A 186) k p q (A 186 (7 + k))) i (m + 1) b = zBf (zRst (A 186) k p q (A 186 (7 + k))) (i + 1) m (if zRst (A 186) k p q (A 186 (7 + k)) i = true then zOr b (zShl 1 i) else b) from rfl, i321_79 (by omega)]
        rw [show zRst (A 186) k p q (A 186 (7 + k)) i = (zNo3 (fun c => zAbs (zPl1 (A 186) k p q (A 186 (7 + k)) c (i % 3) - A 186 (15 + 6 * p + k))) (zAbs (zPl1 (A 186) k p q (A 186 (7 + k)) (i / 3) (i % 3) - A 186 (15 + 6 * p + k))) && zNo3 (fun c => zAbs (zPl1 (A 186) k p q (A 186 (7 + k)) (i / 3) c - A 186 (15 + 6 * q + k))) (zAbs (zPl1 (A 186) k p q (A 186 (7 + k)) (i / 3) (i % 3) - A 186 (15 + 6 * q + k)))) from rfl]
        cases h1 : zNo3 (fun c => zAbs (zPl1 (A 186) k p q (A 186 (7 + k)) c (i % 3) - A 186 (15 + 6 * p + k))) (zAbs (zPl1 (A 186) k p q (A 186 (7 + k)) (i / 3) (i % 3) - A 186 (15 + 6 * p + k))) with
        | false =>
          rw [h1, if_neg (show ¬ false = true by decide)] at d1
          obtain ⟨C', q1, q2⟩ := ih (i + 1) b C1 (by omega) (by omega) hb hf1 d3
          refine ⟨C', ?_, q2⟩
          rw [Bool.false_and, if_neg (show ¬ false = true by decide), ← q1]
          simp (disch := first | assumption | omega | exact zr_and | exact zr_or | exact zr_xor | exact zr_shl | exact zr_shr | exact zr_ushr | exact zr_byte | exact isHall3 | exact isLaw12) only [i321_11, i321_14, i321_19, i321_22, i321_26, i321_29, i321_33, i321_34, i321_38, i321_41, i321_47, i321_51, i321_52, i321_56, i321_59, i321_61, i321_66, i321_71, i321_86, i321_104, i321_107, i321_123, i321_126, i321_133, i321_134, i321_143, td, tm, d1, o0, mB1_i, mB0_i, mB1n_i, mB0n_i, mB1_x, mB0_x, ↓if_pos, ↓if_neg, if_true, if_false, if_pos, if_neg]
        | true =>
          rw [h1, if_pos (show true = true from rfl)] at d1
          cases h2 : zNo3 (fun c => zAbs (zPl1 (A 186) k p q (A 186 (7 + k)) (i / 3) c - A 186 (15 + 6 * q + k))) (zAbs (zPl1 (A 186) k p q (A 186 (7 + k)) (i / 3) (i % 3) - A 186 (15 + 6 * q + k))) with
          | false =>
            rw [h2, if_neg (show ¬ false = true by decide)] at e1
            obtain ⟨C', q1, q2⟩ := ih (i + 1) b C2 (by omega) (by omega) hb hf2 e3
            refine ⟨C', ?_, q2⟩
            rw [Bool.and_false, if_neg (show ¬ false = true by decide), ← q1]
            simp (disch := first | assumption | omega | exact zr_and | exact zr_or | exact zr_xor | exact zr_shl | exact zr_shr | exact zr_ushr | exact zr_byte | exact isHall3 | exact isLaw12) only [i321_11, i321_14, i321_19, i321_22, i321_26, i321_29, i321_33, i321_34, i321_38, i321_41, i321_47, i321_51, i321_52, i321_56, i321_59, i321_61, i321_66, i321_71, i321_86, i321_104, i321_107, i321_123, i321_126, i321_133, i321_134, i321_143, td, tm, d1, e1, o0, mB1_i, mB0_i, mB1n_i, mB0n_i, mB1_x, mB0_x, ↓if_pos, ↓if_neg, if_true, if_false, if_pos, if_neg]
          | true =>
            rw [h2, if_pos (show true = true from rfl)] at e1
            obtain ⟨C', q1, q2⟩ := ih (i + 1) (zOr b (zShl 1 i)) C2 (by omega) (by omega) (zf_more9 hb (by omega)) hf2 e3
            refine ⟨C', ?_, q2⟩
            rw [Bool.and_self, if_pos (show true = true from rfl), ← q1]
            simp (disch := first | assumption | omega | exact zr_and | exact zr_or | exact zr_xor | exact zr_shl | exact zr_shr | exact zr_ushr | exact zr_byte | exact isHall3 | exact isLaw12) only [i321_11, i321_14, i321_19, i321_22, i321_26, i321_29, i321_33, i321_34, i321_38, i321_41, i321_47, i321_51, i321_52, i321_56, i321_59, i321_61, i321_66, i321_71, i321_86, i321_104, i321_107, i321_123, i321_126, i321_133, i321_134, i321_143, td, tm, d1, e1, mB1_i, mB0_i, mB1n_i, mB0n_i, mB1_x, mB0_x, ↓if_pos, ↓if_neg, if_true, if_false, if_pos, if_neg]
    obtain ⟨A3, p1, p2⟩ := l2 9 0 0 A2 (by omega) (by omega) (by decide) zFr_refl ⟨s3, s4, s7⟩
    have hz := zFm_0 (A := B) (A' := A3) (zFt_trans s2 (zFt_fr p2))
    refine ⟨A3, ?_, hz.1, hz.2⟩
    rw [← p1]
    simp (disch := first | assumption | omega | exact zr_and | exact zr_or | exact zr_xor | exact zr_shl | exact zr_shr | exact zr_ushr | exact zr_byte | exact isHall3 | exact isLaw12) only [i321_0, i321_11, i321_14, i321_19, i321_22, i321_26, i321_29, i321_33, i321_34, i321_38, i321_41, i321_47, i321_51, i321_52, i321_56, i321_59, i321_61, i321_66, i321_71, i321_86, i321_104, i321_107, i321_123, i321_126, i321_133, i321_134, i321_143, n1, n2, n3, c_thr0, s1, i280_0, eR, mB1_i, mB0_i, mB1n_i, mB0n_i, mB1_x, mB0_x, ↓if_pos, ↓if_neg, if_true, if_false, if_pos, if_neg]
end PULL2
