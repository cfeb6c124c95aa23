/-! CALLS, 24: fewest: when some can bring it about -/
theorem zAt_tail {x : Int} {r : List Int} {j : Int} (h : 0 < j) : zAt (x :: r) j = zAt r (j - 1) := by
  unfold zAt
  rw [show j.toNat = (j - 1).toNat + 1 by omega]
  rfl
theorem zAt_lt {v : Int} : ∀ {L : List Int} {j : Int}, L.Pairwise (· ≤ ·) → 0 ≤ j → j < L.length → (zAt L j < v ↔ j < (L.countP (fun x => decide (x < v)) : Int))
  | [], j, _, h0, h1 => by
    have h1 : j < ((0 : Nat) : Int) := h1
    omega
  | x :: r, j, hp, h0, h1 => by
    have hp' := List.pairwise_cons.mp hp
    rw [List.length_cons] at h1
    have hz : ¬ x < v → r.countP (fun x => decide (x < v)) = 0 := fun hx => List.countP_eq_zero.mpr (fun a ha => by
      have := hp'.1 a ha
      simp only [decide_eq_true_eq]; omega)
    rw [List.countP_cons]
    by_cases hj : j = 0
    · subst hj
      show x < v ↔ _
      by_cases hx : x < v
      · simp only [hx, decide_true, if_true, true_iff]; omega
      · have := hz hx
        simp only [hx, decide_false, Bool.false_eq_true, if_false, false_iff]; omega
    · have ih := zAt_lt (v := v) (L := r) (j := j - 1) hp'.2 (by omega) (by omega)
      rw [zAt_tail (by omega), ih]
      by_cases hx : x < v
      · simp only [hx, decide_true, if_true, true_iff]; omega
      · have := hz hx
        simp only [hx, decide_false, Bool.false_eq_true, if_false, false_iff]; omega
theorem zAt_gt {v : Int} : ∀ {L : List Int} {j : Int}, L.Pairwise (· ≤ ·) → 0 ≤ j → j < L.length → (v < zAt L j ↔ (L.length : Int) ≤ j + (L.countP (fun x => decide (v < x)) : Int))
  | [], j, _, h0, h1 => by
    have h1 : j < ((0 : Nat) : Int) := h1
    omega
  | x :: r, j, hp, h0, h1 => by
    have hp' := List.pairwise_cons.mp hp
    rw [List.length_cons] at h1 ⊢
    have hz : v < x → r.countP (fun x => decide (v < x)) = r.length := fun hx => List.countP_eq_length.mpr (fun a ha => by
      have := hp'.1 a ha
      simp only [decide_eq_true_eq]; omega)
    have hle : r.countP (fun x => decide (v < x)) ≤ r.length := List.countP_le_length
    rw [List.countP_cons]
    by_cases hj : j = 0
    · subst hj
      show v < x ↔ _
      by_cases hx : v < x
      · have := hz hx
        simp only [hx, decide_true, if_true, true_iff]; omega
      · simp only [hx, decide_false, Bool.false_eq_true, if_false, false_iff]; omega
    · have ih := zAt_gt (v := v) (L := r) (j := j - 1) hp'.2 (by omega) (by omega)
      rw [zAt_tail (by omega), ih]
      by_cases hx : v < x
      · have := hz hx
        simp only [hx, decide_true, if_true, true_iff]; omega
      · simp only [hx, decide_false, Bool.false_eq_true, if_false, false_iff]; omega
theorem zAt_eq {v : Int} {L : List Int} {j : Int} (hp : L.Pairwise (· ≤ ·)) (h0 : 0 ≤ j) (h1 : j < L.length) : zAt L j = v ↔ (L.countP (fun x => decide (x < v)) : Int) ≤ j ∧ (L.countP (fun x => decide (v < x)) : Int) ≤ L.length - 1 - j := by
  have a := zAt_lt (v := v) hp h0 h1
  have b := zAt_gt (v := v) hp h0 h1
  omega
/-- there is a commonest -/
theorem zCom_aux {c : Int → Nat} : ∀ {M : List Int}, M ≠ [] → ∃ x ∈ M, ∀ y ∈ M, c y < c x ∨ (c y = c x ∧ x ≤ y)
  | [], h => absurd rfl h
  | [a], _ => ⟨a, by simp, fun y hy => by
    have : y = a := by simpa using hy
    rw [this]; right; omega⟩
  | a :: b :: r, _ => by
    obtain ⟨x, h1, h2⟩ := zCom_aux (c := c) (M := b :: r) (by simp)
    by_cases h : c x < c a ∨ (c x = c a ∧ a ≤ x)
    · refine ⟨a, by simp, fun y hy => ?_⟩
      rcases List.mem_cons.mp hy with rfl | hy
      · right; omega
      · have := h2 y hy; omega
    · refine ⟨x, List.mem_cons_of_mem _ h1, fun y hy => ?_⟩
      rcases List.mem_cons.mp hy with rfl | hy
      · omega
      · exact h2 y hy
theorem zCom_ex2 {L : List Int} (h : L ≠ []) : ∃ x, zIsCom L x := by
  obtain ⟨x, h1, h2⟩ := zCom_aux (c := fun y => L.count y) h
  have hx : 0 < L.count x := List.count_pos_iff.mpr h1
  refine ⟨x, h1, fun y => ?_, fun y hy => ?_⟩
  · by_cases hm : y ∈ L
    · have := h2 y hm; omega
    · rw [List.count_eq_zero.mpr hm]; omega
  · by_cases hm : y ∈ L
    · have := h2 y hm; omega
    · rw [List.count_eq_zero.mpr hm]; omega
theorem zCom_iff {L : List Int} {v : Int} (h : L ≠ []) : zCom L = v ↔ zIsCom L v :=
  ⟨fun e => by
    obtain ⟨x, hx⟩ := zCom_ex2 h
    rw [zCom_eq hx] at e
    rw [← e]; exact hx, zCom_eq⟩
def zCmn (Rn : List Int) (m v : Int) : Prop := 0 < (Rn.count v : Int) + m ∧ ∀ y, y ∈ Rn → y ≠ v → (y < v → (Rn.count y : Int) < Rn.count v + m) ∧ (v < y → (Rn.count y : Int) ≤ Rn.count v + m)
theorem zCom_with {Rn : List Int} {m : Nat} {v : Int} (hne : 0 < m + Rn.length) : zCom (zSort (List.replicate m v ++ Rn)) = v ↔ zCmn Rn m v := by
  have hc : ∀ y, (zSort (List.replicate m v ++ Rn)).count y = (if y = v then m else 0) + Rn.count y := fun y => by
    rw [zSort_perm.count_eq, List.count_append, List.count_replicate]
    by_cases h : y = v
    · rw [if_pos h, h]; simp
    · rw [if_neg h, if_neg (by simpa using fun e => h e.symm)]
  have hl : (zSort (List.replicate m v ++ Rn)) ≠ [] := fun e => by
    have := congrArg List.length e
    rw [zSort_len, List.length_append, List.length_replicate] at this
    have this : m + Rn.length = 0 := this
    omega
  rw [zCom_iff hl]
  have hv := hc v
  rw [if_pos rfl] at hv
  unfold zIsCom zCmn
  constructor
  · rintro ⟨h1, h2, h3⟩
    have h1' := List.count_pos_iff.mpr h1
    refine ⟨by omega, fun y hy hyv => ⟨fun h => ?_, fun h => ?_⟩⟩
    · have := h3 y h
      have e := hc y
      rw [if_neg hyv] at e
      omega
    · have := h2 y
      have e := hc y
      rw [if_neg hyv] at e
      omega
  · rintro ⟨h1, h2⟩
    refine ⟨List.count_pos_iff.mp (by omega), fun y => ?_, fun y hy => ?_⟩
    · by_cases hyv : y = v
      · rw [hyv]; omega
      · have e := hc y
        rw [if_neg hyv] at e
        by_cases hm : y ∈ Rn
        · have := h2 y hm hyv
          omega
        · rw [List.count_eq_zero.mpr hm] at e; omega
    · have hyv : y ≠ v := by omega
      have e := hc y
      rw [if_neg hyv] at e
      by_cases hm : y ∈ Rn
      · have := (h2 y hm hyv).1 hy
        omega
      · rw [List.count_eq_zero.mpr hm] at e; omega
/-- the middle by a rule that picks one of the numbers, some telling v -/
theorem zMid_with {R : List (Int × Int)} {m : Nat} {v r : Int} (hr : r = 1 ∨ r = 2 ∨ r = 4) (hne : 0 < m + R.length) : zMid r (List.replicate m (v, 1) ++ R) = v ↔
    if r = 4 then zCmn (R.map fun q => q.1) m v else ((R.map fun q => q.1).countP (fun x => decide (x < v)) : Int) ≤ (if r = 1 then ((m + R.length : Nat) : Int) - 1 else ((m + R.length : Nat) : Int)) / 2 ∧ ((R.map fun q => q.1).countP (fun x => decide (v < x)) : Int) ≤ ((m + R.length : Nat) : Int) - 1 - (if r = 1 then ((m + R.length : Nat) : Int) - 1 else ((m + R.length : Nat) : Int)) / 2 := by
  have hm : (List.replicate m (v, (1 : Int)) ++ R).map (fun q => q.1) = List.replicate m v ++ R.map fun q => q.1 := by
    rw [List.map_append, List.map_replicate]
  have hlen : (List.replicate m (v, (1 : Int)) ++ R).length = m + R.length := by
    rw [List.length_append, List.length_replicate]
  have hs : (zSort (List.replicate m v ++ R.map fun q => q.1)).Pairwise (· ≤ ·) := zSort_sorted
  have hl : (zSort (List.replicate m v ++ R.map fun q => q.1)).length = m + R.length := by
    rw [zSort_len, List.length_append, List.length_replicate, List.length_map]
  have c1 : (zSort (List.replicate m v ++ R.map fun q => q.1)).countP (fun x => decide (x < v)) = (R.map fun q => q.1).countP (fun x => decide (x < v)) := by
    rw [zSort_perm.countP_eq, List.countP_append, List.countP_replicate]
    simp
  have c2 : (zSort (List.replicate m v ++ R.map fun q => q.1)).countP (fun x => decide (v < x)) = (R.map fun q => q.1).countP (fun x => decide (v < x)) := by
    rw [zSort_perm.countP_eq, List.countP_append, List.countP_replicate]
    simp
  unfold zMid zV
  rw [hm, hlen]
  rcases hr with rfl | rfl | rfl
  · rw [if_neg (by decide), if_pos rfl, if_neg (by decide), if_pos rfl, zAt_eq hs (by omega) (by omega), c1, c2, hl]
  · rw [if_neg (by decide), if_neg (by decide), if_pos rfl, if_neg (by decide), if_neg (by decide), zAt_eq hs (by omega) (by omega), c1, c2, hl]
  · rw [if_neg (by decide), if_neg (by decide), if_neg (by decide), if_neg (by decide), if_pos rfl, if_pos rfl, zCom_with (by rw [List.length_map]; exact hne)]
/-- whether those of a set can bring the middle to v: n people, m told, all weights W, the others R -/
def zCan (r n v m W : Int) (R : List (Int × Int)) : Prop :=
  if r = 0 then zS1 R < (v + 1) * n ∧ v * n ≤ zS1 R + 99 * m else if r = 3 then (R = [] ∨ (m = 0 ∧ zMid 3 R = v) ∨ (m ≠ 0 ∧ zAt (zV R) (R.length - 1) < (v + 1) * 2 ∧ v * 2 ≤ zAt (zV R) 0 + 99)) else if r = 5 then zS3 R < (v + 1) * W ∧ v * W ≤ zS3 R + 99 * (W - zS2 R) else zMid r (List.replicate m.toNat (v, 1) ++ R) = v
theorem zCnt_not {n s : Int} (hn : 0 ≤ n ∧ n ≤ 8) (hs : 0 ≤ s ∧ s ≤ zAll n) : zCnt (zAll n - s) = n - zCnt s := by
  have h : ∀ n : Fin 9, ∀ s : Fin 256, (s.val : Int) ≤ zAll (n.val : Int) → zCnt (zAll (n.val : Int) - (s.val : Int)) = (n.val : Int) - zCnt (s.val : Int) := by decide +kernel
  have hl := zAll_lt hn
  have := h ⟨n.toNat, by omega⟩ ⟨s.toNat, by omega⟩
  simp only [Int.toNat_of_nonneg hs.1, Int.toNat_of_nonneg hn.1] at this
  exact this hs.2
section CAN
variable {ar : Nat → Nat × (Nat → Int32)} {d t : Nat} {K : Nat → Nat → Option Nat} {A : Nat → Int → Int} {O : Nat → Int64}
theorem c_reaches {x y v n : Int} (h1 : -2147483648 ≤ x ∧ x < 2147483648) (h2 : -2147483648 ≤ (v + 1) * n ∧ (v + 1) * n < 2147483648) (h3 : -2147483648 ≤ x + y ∧ x + y < 2147483648) (h4 : -2147483648 ≤ v * n ∧ v * n < 2147483648) : mGd ar (d) 140 0 [.int (zI x), .int (zI y), .int (zI v), .int (zI n)] [] (zW K A O t) = some (.inl (some (.int (zI (if x < (v + 1) * n ∧ v * n ≤ x + y then 1 else 0)))), zW K A O t) := by
  rw [i140_0 h1 h2]
  by_cases q1 : (v + 1) * n ≤ x
  · rw [if_pos q1, i140_22, i140_23 (by decide), if_neg (by omega)]
  · rw [if_neg q1, i140_9 h3 h4]
    by_cases q2 : x + y < v * n
    · rw [if_pos q2, i140_22, i140_23 (by decide), if_neg (by omega)]
    · rw [if_neg q2, i140_18, i140_23 (by decide), if_pos (by omega)]
theorem tellv_loop {v r M : Int} (hv : 0 ≤ v ∧ v ≤ 99) (hM : M ≤ 8) : ∀ (m : Nat) (x : Int) (B : Nat → Int → Int) (P : List (Int × Int)), x + m = M → 0 ≤ x → zBag B P → zOkP P → P.length + m ≤ 8 → (∀ c, c ≠ 173 → c ≠ 174 → B c = A c) → ∃ C, mGd ar (d + 1) 142 3 [.ref 183, .int (zI v), .int (zI M), .int (zI r), .int (zI x)] [] (zW K B O t) = mGd ar (d + 1) 142 24 [.ref 183, .int (zI v), .int (zI M), .int (zI r), .int (zI M)] [] (zW K C O t) ∧ zBag C (List.replicate m (v, 1) ++ P) ∧ zOkP (List.replicate m (v, 1) ++ P) ∧ ∀ c, c ≠ 173 → c ≠ 174 → C c = A c := by
  intro m
  induction m with
  | zero =>
    intro x B P hx x0 hb hP hl hc
    have : x = M := by omega
    subst this
    exact ⟨B, by rw [i142_3 (by omega) (by omega), if_pos (by omega)], hb, hP, hc⟩
  | succ m ih =>
    intro x B P hx x0 hb hP hl hc
    obtain ⟨B1, p1, p2, p3⟩ := c_put (d := d) (K := K) (O := O) (t := t) (ar := ar) (w := 1) hb hP (by omega) hv
    have hP1 : zOkP ((v, 1) :: P) := ⟨by rw [List.length_cons]; omega, fun q hq => by
      rcases List.mem_cons.mp hq with rfl | hq
      · exact ⟨hv, by show (1 : Int) ≤ 1 ∧ (1 : Int) ≤ 9; omega⟩
      · exact hP.2 q hq⟩
    obtain ⟨C, q1, q2, q3, q4⟩ := ih (x + 1) B1 ((v, 1) :: P) (by omega) (by omega) p2 hP1 (by rw [List.length_cons]; omega) (fun c c1 c2 => by rw [p3 c c1 c2, hc c c1 c2])
    have e : List.replicate m (v, (1 : Int)) ++ (v, 1) :: P = List.replicate (m + 1) (v, 1) ++ P := by
      rw [List.replicate_succ', List.append_assoc]; rfl
    rw [e] at q2 q3
    refine ⟨C, ?_, q2, q3, q4⟩
    rw [← q1, i142_3 (by omega) (by omega), if_neg (by omega), i142_9, p1, mB0_i, i142_18]
/-- all weights -/
theorem c_allW {h : Int → Int} (hw : zHW0 h) (hr : zHR0 A 3 h) : mGd ar (d) 63 0 [.ref 3, .double 0, .double 0] [] (zW K A O t) = some (.inl (some (.int (zI (zSm (fun p => h (15 + 6 * p + 4)) 0 (h 0).toNat)))), zW K A O t) := by
  have w0 := hw.1
  have e0 := hr.1
  have l1 : ∀ (m : Nat) (p s : Int), p + m = h 0 → 0 ≤ p → mGd ar (d) 63 4 [.ref 3, .int (zI s), .int (zI p)] [] (zW K A O t) = some (.inl (some (.int (zI (s + zSm (fun p => h (15 + 6 * p + 4)) p m)))), zW K A O t) := by
    intro m
    induction m with
    | zero =>
      intro p s hp p0
      rw [show s + zSm (fun p => h (15 + 6 * p + 4)) p 0 = s from Int.add_zero _]
      simp (disch := first | assumption | omega | exact zr_and | exact zr_or | exact zr_xor | exact zr_shl | exact zr_shr | exact zr_ushr | exact zr_byte | exact isHall3 | exact isLaw12) only [i63_4 isHall3, i63_27 isHall3, mB1_i, mB0_i, mB1n_i, mB0n_i, mB1_x, mB0_x, ↓if_pos, ↓if_neg, if_true, if_false, if_pos, if_neg]
    | succ m ih =>
      intro p s hp p0
      have rw' : A 5 p = h (15 + 6 * p + 4) := hr.2.2.2.2.2.2.2.2.1 p p0 (by omega)
      have q := ih (p + 1) (s + h (15 + 6 * p + 4)) (by omega) (by omega)
      rw [show s + zSm (fun p => h (15 + 6 * p + 4)) p (m + 1) = s + h (15 + 6 * p + 4) + zSm (fun p => h (15 + 6 * p + 4)) (p + 1) m from (Int.add_assoc _ _ _).symm, ← q, i63_4 isHall3 (by omega) (by omega), if_neg (by omega)]
      simp (disch := first | assumption | omega | exact zr_and | exact zr_or | exact zr_xor | exact zr_shl | exact zr_shr | exact zr_ushr | exact zr_byte | exact isHall3 | exact isLaw12) only [i63_12 isHall3, rw', mB1_i, mB0_i, mB1n_i, mB0n_i, mB1_x, mB0_x, ↓if_pos, ↓if_neg, if_true, if_false, if_pos, if_neg]
  have q := l1 (h 0).toNat 0 0 (by omega) (by omega)
  rw [Int.zero_add] at q
  rw [i63_0 isHall3, q]
theorem zS2_AP {h : Int → Int} {k : Int} (w0 : 0 ≤ h 0 ∧ h 0 ≤ 8) : zS2 (zAP h k) = zSm (fun p => h (15 + 6 * p + 4)) 0 (h 0).toNat :=
  zS2_all (fun i h1 h2 => by rw [zB_all w0 (by omega)]; exact decide_eq_true (by omega))
theorem zMul_rng {v n c : Int} (hv : 0 ≤ v ∧ v ≤ 100) (hn : 0 ≤ n ∧ n ≤ c) : 0 ≤ v * n ∧ v * n ≤ 100 * c := by
  refine ⟨Int.mul_nonneg hv.1 hn.1, ?_⟩
  have h1 : v * n ≤ 100 * n := Int.mul_le_mul_of_nonneg_right hv.2 hn.1
  omega
theorem zS2_split {f : Int → Int × Int} {a s s' : Int} : ∀ {m : Nat} {p : Int}, (∀ i, p ≤ i → i < p + m → zB a i = true ∧ zB s' i = !zB s i) → zS2 (zSel a f p m) = zS2 (zSel s f p m) + zS2 (zSel s' f p m)
  | 0, _, _ => rfl
  | m + 1, p, h => by
    have hp := h p (by omega) (by omega)
    have ih := zS2_split (f := f) (a := a) (s := s) (s' := s') (m := m) (p := p + 1) (fun i h1 h2 => h i (by omega) (by omega))
    have e : ∀ L, zS2 (f p :: L) = (f p).2 + zS2 L := fun L => rfl
    rw [zSel_cons, zSel_cons, zSel_cons, if_pos hp.1, hp.2, e]
    by_cases hb : zB s p = true
    · rw [if_pos hb, if_neg (by rw [hb]; decide), e]; omega
    · rw [if_neg hb, if_pos (by simpa using hb), e]; omega
/-- the class -/
theorem c_could {h : Int → Int} {k v s : Int} (hw : zHW0 h) (hr : zHR0 A 3 h) (hk : 0 ≤ k ∧ k < 4) (hv : 0 ≤ v ∧ v ≤ 99) (hp : 0 < h 0) (hs : 0 ≤ s ∧ s ≤ zAll (h 0)) : ∃ C x, mGd ar (d + 3) 139 0 [.ref 183, .int (zI k), .int (zI v), .int (zI s), .double 0, .double 0] [] (zW K A O t) = some (.inl (some (.int (zI x))), zW K C O t) ∧ (x = 0 ∨ x = 1) ∧ (x = 1 ↔ zCan (h (7 + k)) (h 0) v (zCnt s) (zS2 (zAP h k)) (zSel (zAll (h 0) - s) (zWP h k) 0 (h 0).toNat)) ∧ ∀ c, c ≠ 173 → c ≠ 174 → C c = A c := by
  have w0 := hw.1
  have e0 := hr.1
  have hl := zAll_lt w0
  have wr := hw.2.2.2.2.2.1 k hk.1 hk.2
  have rr : A 6 k = h (7 + k) := hr.2.2.2.2.2.1 k hk.1 hk.2
  have cb := c_bits (d := d + 2) (K := K) (O := O) (t := t) (ar := ar) (A := A) (s := s) (by omega)
  have ce := c_everyone (d := d + 2) (K := K) (O := O) (t := t) (ar := ar) (A := A) isHall3 (by rw [e0]; exact w0)
  rw [e0] at ce
  have hn := (zf_not hs w0).1
  obtain ⟨C, f1, f2, f3⟩ := c_fill (d := d + 1) (K := K) (O := O) (t := t) (ar := ar) (A := A) isHall3 (k := k) (s := zAll (h 0) - s) (zHOk_of_HR hw hr) hk (by omega)
  rw [zHP_sel hr hk] at f2
  have hcs := zCnt_not w0 hs
  have hcnt := zSel_cnt (f := zWP h k) (n := h 0) (s := zAll (h 0) - s) (by omega) w0
  rw [hcs] at hcnt
  have hcr := zCnt_rng (s := s)
  have hok := zWP_ok (s := zAll (h 0) - s) hw hk
  have hap := zAP_ok (k := k) hw hk
  have hal := zAP_len (h := h) (k := k) w0
  have hsp : zS2 (zAP h k) = zS2 (zSel s (zWP h k) 0 (h 0).toNat) + zS2 (zSel (zAll (h 0) - s) (zWP h k) 0 (h 0).toNat) := zS2_split (fun i h1 h2 => ⟨by rw [zB_all w0 (by omega)]; exact decide_eq_true (by omega), (zf_not hs w0).2 i (by omega)⟩)
  have hws := zOk_sums (zWP_ok (s := s) hw hk).2
  have hwa := zOk_sums hap.2
  have c6 : C 6 k = h (7 + k) := by rw [f3 6 (by decide) (by decide), rr]
  have c30 : C 3 0 = h 0 := by rw [f3 3 (by decide) (by decide), e0]
  have hrC : zHR0 C 3 h := zHR0_same5 (fun c c1 c2 => f3 c (by omega) (by omega)) hr
  generalize zSel (zAll (h 0) - s) (zWP h k) 0 (h 0).toNat = R at f2 hcnt hok hsp
  have hsr := zOk_sums hok.2
  have hR8 := hok.1
  obtain ⟨b0, b1, b2, b3, b4⟩ := f2
  have f2 : zBag C R := ⟨b0, b1, b2, b3, b4⟩
  have start : ∀ z : Option (mEnd × mW), mGd ar (d + 3) 139 29 [.ref 183, .int (zI k), .int (zI v), .int (zI s), .int (zI (zCnt s)), .double 0] [] (zW K C O t) = z → mGd ar (d + 3) 139 0 [.ref 183, .int (zI k), .int (zI v), .int (zI s), .double 0, .double 0] [] (zW K A O t) = z := fun z hz => by
    rw [← hz]
    simp (disch := first | assumption | omega | exact zr_and | exact zr_or | exact zr_xor | exact zr_shl | exact zr_shr | exact zr_ushr | exact zr_byte | exact isHall3 | exact isLaw12) only [i139_0, i139_4, i139_22, cb, ce, hn, f1, mB1_i, mB0_i, mB1n_i, mB0n_i, mB1_x, mB0_x, ↓if_pos, ↓if_neg, if_true, if_false, if_pos, if_neg]
  have m1 := zMul_rng (v := v + 1) (n := h 0) (c := 8) (by omega) (by omega)
  have m2 := zMul_rng (v := v) (n := h 0) (c := 8) (by omega) (by omega)
  have m3 := zMul_rng (v := v + 1) (n := zS2 (zAP h k)) (c := 72) (by omega) (by omega)
  have m4 := zMul_rng (v := v) (n := zS2 (zAP h k)) (c := 72) (by omega) (by omega)
  by_cases r0 : h (7 + k) = 0
  · have cr := c_reaches (d := d + 2) (K := K) (O := O) (t := t) (ar := ar) (A := C) (x := zS1 R) (y := 99 * zCnt s) (v := v) (n := h 0) (by omega) (by omega) (by omega) (by omega)
    refine ⟨C, if zS1 R < (v + 1) * h 0 ∧ v * h 0 ≤ zS1 R + 99 * zCnt s then 1 else 0, start _ ?_, ?_, ?_, f3⟩
    · rw [i139_29 (by omega) (by omega), c6, if_pos r0, i139_72, b1, c30, cr, mB1_i, i139_95 (by split <;> omega)]
    · split <;> omega
    · unfold zCan; rw [if_pos r0]; split <;> simp_all
  by_cases r3 : h (7 + k) = 3
  · have sl : ∀ z : Option (mEnd × mW), mGd ar (d + 2) 141 0 [.ref 183, .int (zI v), .int (zI (zCnt s))] [] (zW K C O t) = z → mGd ar (d + 3) 139 29 [.ref 183, .int (zI k), .int (zI v), .int (zI s), .int (zI (zCnt s)), .double 0] [] (zW K C O t) = mB1 z (fun y w1 => mGd ar (d + 3) 139 103 [.ref 183, .int (zI k), .int (zI v), .int (zI s), .int (zI (zCnt s)), .double 0] [.int y] w1) := fun z hz => by
      rw [i139_29 (by omega) (by omega), c6, if_neg r0, if_pos r3, i139_96, hz]
    unfold zCan
    rw [if_neg r0, if_pos r3]
    by_cases hR : R = []
    · have b00 : C 173 0 = 0 := by rw [b0, hR]; rfl
      refine ⟨C, 1, start _ ?_, by omega, ?_, f3⟩
      · rw [sl _ rfl, i141_0 (by omega), if_pos b00, i141_14 (by omega), if_pos b00, i141_36, i141_41 (by omega), mB1_i, i139_103 (by omega)]
      · simp [hR]
    have hRl : 0 < R.length := List.length_pos_iff.mpr hR
    by_cases hm : zCnt s = 0
    · have cy := c_by (d := d) (K := K) (O := O) (t := t) (ar := ar) (A := C) (r := 3) f2 hok hRl (by omega)
      have ry := zMid_rng hok hRl (r := 3) (by omega)
      by_cases hc : zMid 3 R = v
      · refine ⟨C, 1, start _ ?_, by omega, ?_, f3⟩
        · rw [sl _ rfl, i141_0 (by omega), if_neg (by omega), i141_10 (by omega), if_pos hm, i141_14 (by omega), if_neg (by omega), i141_24, cy, mB1_i, i141_32 (by omega) (by omega), if_pos hc, i141_36, i141_41 (by omega), mB1_i, i139_103 (by omega)]
        · simp [hm, hc]
      · refine ⟨C, 0, start _ ?_, by omega, ?_, f3⟩
        · rw [sl _ rfl, i141_0 (by omega), if_neg (by omega), i141_10 (by omega), if_pos hm, i141_14 (by omega), if_neg (by omega), i141_24, cy, mB1_i, i141_32 (by omega) (by omega), if_neg hc, i141_40, i141_41 (by omega), mB1_i, i139_103 (by omega)]
        · simp [hm, hc, hR]
    · have cg := c_greatest (d := d + 1) (K := K) (O := O) (t := t) (ar := ar) (A := C) f2 hok hRl
      have cl := c_least (d := d + 1) (K := K) (O := O) (t := t) (ar := ar) (A := C) f2 hRl
      have rg := zAt_rng hok (i := (R.length : Int) - 1) (by omega) (by omega)
      have rl := zAt_rng hok (i := 0) (by omega) (by omega)
      have cr := c_reaches (d := d + 1) (K := K) (O := O) (t := t) (ar := ar) (A := C) (x := zAt (zV R) ((R.length : Int) - 1)) (y := zAt (zV R) 0 + 99 - zAt (zV R) ((R.length : Int) - 1)) (v := v) (n := 2) (by omega) (by omega) (by omega) (by omega)
      refine ⟨C, if zAt (zV R) ((R.length : Int) - 1) < (v + 1) * 2 ∧ v * 2 ≤ zAt (zV R) ((R.length : Int) - 1) + (zAt (zV R) 0 + 99 - zAt (zV R) ((R.length : Int) - 1)) then 1 else 0, start _ ?_, ?_, ?_, f3⟩
      · rw [sl _ rfl, i141_0 (by omega), if_neg (by omega), i141_10 (by omega), if_neg hm, i141_42, cg, mB1_i, i141_49, cl, mB1_i, i141_56, cg, mB1_i, i141_66, cr, mB1_i, i141_72 (by split <;> omega), mB1_i, i139_103 (by split <;> omega)]
      · split <;> omega
      · constructor
        · intro q
          right; right
          split at q
          · omega
          · omega
        · intro q
          rcases q with q | ⟨q, -⟩ | ⟨-, q1, q2⟩
          · exact absurd q hR
          · exact absurd q hm
          · rw [if_pos (by omega)]
  by_cases r5 : h (7 + k) = 5
  · have ca := c_allW (d := d + 2) (K := K) (O := O) (t := t) (ar := ar) (A := C) hw hrC
    rw [← zS2_AP (k := k) w0] at ca
    have cr := c_reaches (d := d + 2) (K := K) (O := O) (t := t) (ar := ar) (A := C) (x := zS3 R) (y := 99 * (zS2 (zAP h k) - zS2 R)) (v := v) (n := zS2 (zAP h k)) (by omega) (by omega) (by omega) (by omega)
    refine ⟨C, if zS3 R < (v + 1) * zS2 (zAP h k) ∧ v * zS2 (zAP h k) ≤ zS3 R + 99 * (zS2 (zAP h k) - zS2 R) then 1 else 0, start _ ?_, ?_, ?_, f3⟩
    · rw [i139_29 (by omega) (by omega), c6, if_neg r0, if_neg r3, if_pos r5, i139_104, ca, mB1_i, i139_111, b3, b2, cr, mB1_i, i139_139 (by split <;> omega)]
    · split <;> omega
    · unfold zCan; rw [if_neg r0, if_neg r3, if_pos r5]; split <;> simp_all
  · obtain ⟨D, t1, t2, t3, t4⟩ := tellv_loop (d := d + 1) (K := K) (O := O) (t := t) (ar := ar) (A := C) (v := v) (r := h (7 + k)) (M := zCnt s) hv (by omega) (zCnt s).toNat 0 C R (by omega) (by omega) f2 hok (by omega) (fun _ _ _ => rfl)
    have hne : 0 < (List.replicate (zCnt s).toNat (v, (1 : Int)) ++ R).length := by
      rw [List.length_append, List.length_replicate]; omega
    have cy := c_by (d := d) (K := K) (O := O) (t := t) (ar := ar) (A := D) (r := h (7 + k)) t2 t3 hne wr
    have ry := zMid_rng t3 hne (r := h (7 + k)) wr
    have fD : ∀ c, c ≠ 173 → c ≠ 174 → D c = A c := fun c c1 c2 => by rw [t4 c c1 c2, f3 c c1 c2]
    unfold zCan
    rw [if_neg r0, if_neg r3, if_neg r5]
    by_cases hc : zMid (h (7 + k)) (List.replicate (zCnt s).toNat (v, 1) ++ R) = v
    · refine ⟨D, 1, start _ ?_, by omega, by simp [hc], fD⟩
      rw [i139_29 (by omega) (by omega), c6, if_neg r0, if_neg r3, if_neg r5, i139_140 (by omega), c6, i142_0, t1, i142_24, cy, mB1_i, i142_32 (by omega) (by omega), if_pos hc, i142_36, i142_41 (by omega), mB1_i, i139_156 (by omega)]
    · refine ⟨D, 0, start _ ?_, by omega, by simp [hc], fD⟩
      rw [i139_29 (by omega) (by omega), c6, if_neg r0, if_neg r3, if_neg r5, i139_140 (by omega), c6, i142_0, t1, i142_24, cy, mB1_i, i142_32 (by omega) (by omega), if_neg hc, i142_40, i142_41 (by omega), mB1_i, i139_156 (by omega)]
end CAN
