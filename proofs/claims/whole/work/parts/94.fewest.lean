/-! CALLS, 25: fewest -/
/-- the fewest of the sets from a on, of these the least -/
def zFew (lo hi : Int) (P : Int → Prop) (y : Int) : Prop := (y = -1 ∧ ∀ s, lo ≤ s → s ≤ hi → ¬ P s) ∨ ((lo ≤ y ∧ y ≤ hi) ∧ P y ∧ ∀ s, lo ≤ s → s ≤ hi → P s → zCnt y < zCnt s ∨ (zCnt y = zCnt s ∧ y ≤ s))
theorem zFew_uniq {lo hi : Int} {P : Int → Prop} {y z : Int} (h1 : zFew lo hi P y) (h2 : zFew lo hi P z) : y = z := by
  rcases h1 with ⟨a1, a2⟩ | ⟨a1, a2, a3⟩
  · rcases h2 with ⟨b1, -⟩ | ⟨b1, b2, -⟩
    · omega
    · exact absurd b2 (a2 z b1.1 b1.2)
  · rcases h2 with ⟨b1, b2⟩ | ⟨b1, b2, b3⟩
    · exact absurd a2 (b2 y a1.1 a1.2)
    · have := a3 z b1.1 b1.2 b2
      have := b3 y a1.1 a1.2 a2
      omega
section FEWEST
variable {ar : Nat → Nat × (Nat → Int32)} {d t : Nat} {K : Nat → Nat → Option Nat} {A : Nat → Int → Int} {O : Nat → Int64}
theorem few_in {k v x n all : Int} {P : Int → Prop} (hall : 0 ≤ all ∧ all < 256) (hx : 0 ≤ x ∧ x ≤ 8) (hev : ∀ B : Nat → Int → Int, (∀ c, c ≠ 173 → c ≠ 174 → B c = A c) → mGd ar (d + 3) 24 0 [.ref 3] [] (zW K B O t) = some (.inl (some (.int (zI all))), zW K B O t)) (hco : ∀ (B : Nat → Int → Int) (s : Int), (∀ c, c ≠ 173 → c ≠ 174 → B c = A c) → 0 ≤ s → s ≤ all → ∃ C y, mGd ar (d + 3) 139 0 [.ref 183, .int (zI k), .int (zI v), .int (zI s), .double 0, .double 0] [] (zW K B O t) = some (.inl (some (.int (zI y))), zW K C O t) ∧ (y = 0 ∨ y = 1) ∧ (y = 1 ↔ P s) ∧ ∀ c, c ≠ 173 → c ≠ 174 → C c = A c) :
    ∀ (m : Nat) (s : Int) (B : Nat → Int → Int), s + m = all + 1 → 0 ≤ s → (∀ c, c ≠ 173 → c ≠ 174 → B c = A c) → (∀ s', 0 ≤ s' → s' < s → zCnt s' = x → ¬ P s') → ∃ C, (∀ c, c ≠ 173 → c ≠ 174 → C c = A c) ∧ ((∃ y, mGd ar (d + 4) 137 16 [.ref 183, .int (zI k), .int (zI v), .int (zI x), .int (zI s)] [] (zW K B O t) = some (.inl (some (.int (zI y))), zW K C O t) ∧ (0 ≤ y ∧ y ≤ all) ∧ zCnt y = x ∧ P y ∧ ∀ s', 0 ≤ s' → s' < y → zCnt s' = x → ¬ P s') ∨ (mGd ar (d + 4) 137 16 [.ref 183, .int (zI k), .int (zI v), .int (zI x), .int (zI s)] [] (zW K B O t) = mGd ar (d + 4) 137 57 [.ref 183, .int (zI k), .int (zI v), .int (zI x), .int (zI ((all + 1)))] [] (zW K C O t) ∧ ∀ s', 0 ≤ s' → s' ≤ all → zCnt s' = x → ¬ P s')) := by
  intro m
  induction m with
  | zero =>
    intro s B hm s0 hB hs
    refine ⟨B, hB, Or.inr ⟨?_, fun s' h1 h2 => hs s' h1 (by omega)⟩⟩
    rw [i137_16, hev B hB, mB1_i, i137_25 (by omega) (by omega), if_pos (by omega), show s = all + 1 by omega]
  | succ m ih =>
    intro s B hm s0 hB hs
    have cb := c_bits (d := d + 3) (K := K) (O := O) (t := t) (ar := ar) (A := B) (s := s) (by omega)
    have hcr := zCnt_rng (s := s)
    have e1 : mGd ar (d + 4) 137 16 [.ref 183, .int (zI k), .int (zI v), .int (zI x), .int (zI s)] [] (zW K B O t) = if zCnt s = x then mGd ar (d + 4) 137 37 [.ref 183, .int (zI k), .int (zI v), .int (zI x), .int (zI s)] [] (zW K B O t) else mGd ar (d + 4) 137 51 [.ref 183, .int (zI k), .int (zI v), .int (zI x), .int (zI s)] [] (zW K B O t) := by
      rw [i137_16, hev B hB, mB1_i, i137_25 (by omega) (by omega), if_neg (by omega), i137_28, cb, mB1_i, i137_33 (by omega) (by omega)]
    rw [e1]
    by_cases hc : zCnt s = x
    · rw [if_pos hc]
      obtain ⟨C, y, q1, q2, q3, q4⟩ := hco B s hB s0 (by omega)
      rw [i137_37, q1, mB1_i, i137_45 (by omega)]
      rcases q2 with q2 | q2
      · have hn : ¬ P s := fun hp => by have := q3.2 hp; omega
        obtain ⟨C', r1, r2⟩ := ih (s + 1) C (by omega) (by omega) q4 (fun s' h1 h2 h3 => by
          by_cases he : s' = s
          · rw [he]; exact hn
          · exact hs s' h1 (by omega) h3)
        refine ⟨C', r1, ?_⟩
        rw [if_pos q2, i137_51]
        exact r2
      · refine ⟨C, q4, Or.inl ⟨s, ?_, by omega, hc, q3.1 q2, hs⟩⟩
        rw [if_neg (by omega), i137_48]
    · rw [if_neg hc, i137_51]
      exact ih (s + 1) B (by omega) (by omega) hB (fun s' h1 h2 h3 => by
        by_cases he : s' = s
        · rw [he] at h3; exact absurd h3 hc
        · exact hs s' h1 (by omega) h3)
theorem few_out {k v n all : Int} {P : Int → Prop} (hn : A 3 0 = n) (hn8 : 0 ≤ n ∧ n ≤ 8) (hall : 0 ≤ all ∧ all < 256) (hcn : ∀ s, 0 ≤ s → s ≤ all → 0 ≤ zCnt s ∧ zCnt s ≤ n) (hev : ∀ B : Nat → Int → Int, (∀ c, c ≠ 173 → c ≠ 174 → B c = A c) → mGd ar (d + 3) 24 0 [.ref 3] [] (zW K B O t) = some (.inl (some (.int (zI all))), zW K B O t)) (hco : ∀ (B : Nat → Int → Int) (s : Int), (∀ c, c ≠ 173 → c ≠ 174 → B c = A c) → 0 ≤ s → s ≤ all → ∃ C y, mGd ar (d + 3) 139 0 [.ref 183, .int (zI k), .int (zI v), .int (zI s), .double 0, .double 0] [] (zW K B O t) = some (.inl (some (.int (zI y))), zW K C O t) ∧ (y = 0 ∨ y = 1) ∧ (y = 1 ↔ P s) ∧ ∀ c, c ≠ 173 → c ≠ 174 → C c = A c) :
    ∀ (m : Nat) (x : Int) (B : Nat → Int → Int) (v4 : Value), x + m = n + 1 → 0 ≤ x → (∀ c, c ≠ 173 → c ≠ 174 → B c = A c) → (∀ s, 0 ≤ s → s ≤ all → zCnt s < x → ¬ P s) → ∃ C y, mGd ar (d + 4) 137 2 [.ref 183, .int (zI k), .int (zI v), .int (zI x), v4] [] (zW K B O t) = some (.inl (some (.int (zI y))), zW K C O t) ∧ zFew 0 all P y ∧ ∀ c, c ≠ 173 → c ≠ 174 → C c = A c := by
  intro m
  induction m with
  | zero =>
    intro x B v4 hm x0 hB hs
    have b0 : B 3 0 = n := by rw [hB 3 (by decide) (by decide), hn]
    exact ⟨B, -1, by rw [i137_2 (by omega) (by omega), if_pos (by omega), i137_63], Or.inl ⟨rfl, fun s h1 h2 => hs s h1 h2 (by have := hcn s h1 h2; omega)⟩, hB⟩
  | succ m ih =>
    intro x B v4 hm x0 hB hs
    have b0 : B 3 0 = n := by rw [hB 3 (by decide) (by decide), hn]
    rw [i137_2 (by omega) (by omega), if_neg (by omega), i137_13]
    obtain ⟨C, c1, c2⟩ := few_in (d := d) (K := K) (O := O) (t := t) (ar := ar) (A := A) (k := k) (v := v) (x := x) (n := n) hall (by omega) hev hco (all + 1).toNat 0 B (by omega) (by omega) hB (fun s' h1 h2 => by omega)
    rcases c2 with ⟨y, q1, q2, q3, q4, q5⟩ | ⟨q1, q2⟩
    · refine ⟨C, y, q1, Or.inr ⟨q2, q4, fun s h1 h2 hp => ?_⟩, c1⟩
      have g1 : ¬ zCnt s < x := fun h => hs s h1 h2 h hp
      by_cases he : zCnt s = x
      · have : ¬ s < y := fun h => q5 s h1 h he hp
        omega
      · omega
    · obtain ⟨D, y, r1, r2, r3⟩ := ih (x + 1) C (.int (zI (all + 1))) (by omega) (by omega) c1 (fun s h1 h2 h3 => by
        by_cases he : zCnt s = x
        · exact q2 s h1 h2 he
        · exact hs s h1 h2 (by omega))
      refine ⟨D, y, ?_, r2, r3⟩
      rw [q1, i137_57]
      exact r1
/-- the reference -/
theorem c_bySum {h : Int → Int} {v s w n W : Int} (hA : zROk A) (e : A 186 = h) (hv : 0 ≤ v ∧ v ≤ 99) (hp : 0 < h 0) (hs : 0 ≤ s ∧ s ≤ zAll (h 0)) (hw : w = 0 ∨ w = 1) {F : Int → Int × Int} (hF : ∀ s, zSel s (zRP A) 0 (h 0).toNat = zSel s F 0 (h 0).toNat) : ∃ x, mGd ar (d + 3) 300 0 [.ref 185, .int (zI ((zAll (h 0) - s))), .int (zI s), .int (zI v), .int (zI w), .double 0, .double 0, .double 0] [] (zW K A O t) = some (.inl (some (.int (zI x))), zW K A O t) ∧ (x = 0 ∨ x = 1) ∧ (x = 1 ↔ if w = 0 then zS1 (zSel (zAll (h 0) - s) F 0 (h 0).toNat) < (v + 1) * h 0 ∧ v * h 0 ≤ zS1 (zSel (zAll (h 0) - s) F 0 (h 0).toNat) + 99 * zCnt s else zS3 (zSel (zAll (h 0) - s) F 0 (h 0).toNat) < (v + 1) * zS2 (zSel (zAll (h 0)) F 0 (h 0).toNat) ∧ v * zS2 (zSel (zAll (h 0)) F 0 (h 0).toNat) ≤ zS3 (zSel (zAll (h 0) - s) F 0 (h 0).toNat) + 99 * zS2 (zSel s F 0 (h 0).toNat)) := by
  have eA : ∀ i, A 186 i = h i := fun i => by rw [e]
  have h0 := hA.1
  rw [eA] at h0
  have hl := zAll_lt h0
  have n0 : 0 ≤ A 186 0 ∧ A 186 0 ≤ 8 := by rw [eA]; exact h0
  have s1 := c_sumOf (d := d) (K := K) (O := O) (t := t) (ar := ar) (A := A) (s := zAll (h 0) - s) n0 (by omega)
  have s3 := c_sumOfW (d := d) (K := K) (O := O) (t := t) (ar := ar) (A := A) (s := zAll (h 0) - s) n0 (by omega)
  have w1 := c_weightsOf (d := d) (K := K) (O := O) (t := t) (ar := ar) (A := A) (s := zAll (h 0)) n0 (by omega)
  have w2 := c_weightsOf (d := d) (K := K) (O := O) (t := t) (ar := ar) (A := A) (s := s) n0 (by omega)
  have cb := c_bits (d := d + 2) (K := K) (O := O) (t := t) (ar := ar) (A := A) (s := s) (by omega)
  have ca := c_all (d := d + 1) (K := K) (O := O) (t := t) (ar := ar) (A := A) n0
  have k1 := zRP_ok (s := zAll (h 0) - s) hA
  have k2 := zRP_ok (s := zAll (h 0)) hA
  have k3 := zRP_ok (s := s) hA
  have hcr := zCnt_rng (s := s)
  have c2 := zSel_cnt (f := zRP A) (n := h 0) (s := zAll (h 0)) (by omega) h0
  have cp := zCnt_pos (s := zAll (h 0)) (n := h 0) (by
    have : 1 ≤ zAll (h 0) := by
      have hh : ∀ n : Fin 9, 0 < n.val → 1 ≤ zAll (n.val : Int) := by decide +kernel
      have := hh ⟨(h 0).toNat, by omega⟩ (by show 0 < (h 0).toNat; omega)
      simpa only [Int.toNat_of_nonneg h0.1] using this
    omega) h0
  rw [eA] at s1 s3 w1 w2 ca k1 k2 k3
  rw [hF] at s1 s3 w1 w2 k1 k2 k3 c2
  generalize zSel (zAll (h 0) - s) F 0 (h 0).toNat = R at s1 s3 k1
  generalize zSel (zAll (h 0)) F 0 (h 0).toNat = T at w1 k2 c2
  generalize zSel s F 0 (h 0).toNat = S at w2 k3
  have hR := zOk_sums k1.2
  have hT := zOk_sums k2.2
  have hS := zOk_sums k3.2
  have l1 := k1.1
  have l2 := k2.1
  have l3 := k3.1
  have fin : ∀ (x n y : Int), (0 ≤ x ∧ x ≤ 100000) → (0 < n ∧ n ≤ 1000) → (0 ≤ y ∧ y ≤ 100000) → ∀ x5 z0 z1 z2, x5 = n → z2 = x → z1 * z0 = y → mGd ar (d + 3) 300 52 [.ref 185, .int (zI ((zAll (h 0) - s))), .int (zI s), .int (zI v), .int (zI w), .int (zI x5), .int (zI x), .double 0] [.int (zI z0), .int (zI z1), .int (zI z2)] (zW K A O t) = some (.inl (some (.int (zI (if x < (v + 1) * n ∧ v * n ≤ x + y then 1 else 0)))), zW K A O t) := fun x n y hx hn hy x5 z0 z1 z2 e5 e2 ey => by
    subst e5 e2
    have td1 : Int.tdiv z2 x5 = z2 / x5 := Int.tdiv_eq_ediv_of_nonneg hx.1
    have td2 : Int.tdiv (z2 + z1 * z0) x5 = (z2 + z1 * z0) / x5 := Int.tdiv_eq_ediv_of_nonneg (by omega)
    have b1 : 0 ≤ z2 / x5 := Int.ediv_nonneg hx.1 (by omega)
    have b2 : 0 ≤ (z2 + z1 * z0) / x5 := Int.ediv_nonneg (by omega) (by omega)
    have b3 : z2 / x5 ≤ z2 := Int.ediv_le_self _ hx.1
    have b4 : (z2 + z1 * z0) / x5 ≤ z2 + z1 * z0 := Int.ediv_le_self _ (by omega)
    have i1 : z2 < (v + 1) * x5 ↔ z2 / x5 < v + 1 := (Int.ediv_lt_iff_lt_mul hn.1).symm
    have i2 : v * x5 ≤ z2 + y ↔ v ≤ (z2 + y) / x5 := (Int.le_ediv_iff_mul_le hn.1).symm
    rw [i300_52 (by omega) (by omega) hn.1 (by omega) (by omega), td1]
    by_cases q1 : v < z2 / x5
    · rw [if_pos q1, i300_78, i300_79 (by decide), if_neg (by omega)]
    · rw [if_neg q1, i300_65 (by omega) (by omega) hn.1 (by omega) (by omega), td2]
      by_cases q2 : (z2 + z1 * z0) / x5 < v
      · rw [if_pos q2, i300_78, i300_79 (by decide), if_neg (by rw [i2, ← ey]; omega)]
      · rw [if_neg q2, i300_74, i300_79 (by decide), if_pos (by rw [i1, i2, ← ey]; omega)]
  rcases hw with rfl | rfl
  · refine ⟨if zS1 R < (v + 1) * h 0 ∧ v * h 0 ≤ zS1 R + 99 * zCnt s then 1 else 0, ?_, by split <;> omega, by rw [if_pos rfl]; split <;> simp_all⟩
    rw [i300_0 (by omega), if_pos rfl, i300_16, i233_0, mB1_i, eA, i300_20, s1, mB1_i, i300_29 (by omega), if_pos rfl, i300_48, cb, mB1_i]
    exact fin (zS1 R) (h 0) (99 * zCnt s) (by omega) (by omega) (by omega) _ _ _ _ rfl rfl rfl
  · refine ⟨if zS3 R < (v + 1) * zS2 T ∧ v * zS2 T ≤ zS3 R + 99 * zS2 S then 1 else 0, ?_, by split <;> omega, by rw [if_neg (show ¬ (1 : Int) = 0 by decide)]; split <;> simp_all⟩
    rw [i300_0 (by omega), if_neg (by decide), i300_5, ca, mB1_i, i300_10, w1, mB1_i, i300_13, i300_20, s3, mB1_i, i300_29 (by omega), if_neg (by decide), i300_40, w2, mB1_i, i300_45]
    exact fin (zS3 R) (zS2 T) (99 * zS2 S) (by omega) (by omega) (by omega) _ _ _ _ rfl rfl rfl
theorem c_byEnds {h : Int → Int} {v s : Int} (hA : zROk A) (e : A 186 = h) (hv : 0 ≤ v ∧ v ≤ 99) (hs : 0 ≤ s ∧ s ≤ zAll (h 0)) {R : List (Int × Int)} (hR : zSel s (A 193) 0 (h 0).toNat = R.map fun q => q.1) (hok : zOkP R) : ∃ C x, mGd ar (d + 2) 301 0 [.ref 185, .int (zI s), .int (zI v), .double 0, .double 0] [] (zW K A O t) = some (.inl (some (.int (zI x))), zW K C O t) ∧ (x = 0 ∨ x = 1) ∧ (x = 1 ↔ R = [] ∨ (zAt (zV R) (R.length - 1) < (v + 1) * 2 ∧ v * 2 ≤ zAt (zV R) 0 + 99)) ∧ zFr A C := by
  have eA : ∀ i, A 186 i = h i := fun i => by rw [e]
  have h0 := hA.1
  rw [eA] at h0
  have hl := zAll_lt h0
  have hcnt := zSel_cnt (f := A 193) (n := h 0) (s := s) hs h0
  rw [hR, List.length_map] at hcnt
  by_cases s0 : s = 0
  · subst s0
    have z0 : zCnt 0 = 0 := by decide
    rw [z0] at hcnt
    have : R = [] := List.length_eq_zero_iff.mp (by omega)
    exact ⟨A, 1, by rw [i301_0 (by omega), if_pos rfl, i301_4], by omega, by simp [this], zFr_refl⟩
  · have hpos := zCnt_pos (s := s) (n := h 0) (by omega) h0
    have hRl : 0 < R.length := by omega
    have hne : R ≠ [] := fun q => by rw [q] at hRl; exact absurd hRl (by decide)
    obtain ⟨C, q1, q2, q3, q4, q5⟩ := c_sorts (d := d) (K := K) (O := O) (t := t) (ar := ar) (A := A) (s := s) hA.1 (by omega) hA.2.1
    rw [eA, hR, List.length_map] at q2 q3
    have hz : zSort (R.map fun q => q.1) = zV R := rfl
    rw [hz] at q3
    have g1 : C 194 (C 185 19 - 1) = zAt (zV R) ((R.length : Int) - 1) := by rw [q2]; exact zLst_at0 q3 (by omega) (by omega)
    have g0 : C 194 0 = zAt (zV R) 0 := zLst_at0 q3 (by omega) (by omega)
    have r1 := zAt_rng hok (i := (R.length : Int) - 1) (by omega) (by omega)
    have r0 := zAt_rng hok (i := 0) (by omega) (by omega)
    have hl8 := hok.1
    have st : mGd ar (d + 2) 301 0 [.ref 185, .int (zI s), .int (zI v), .double 0, .double 0] [] (zW K A O t) = if 2 * v + 1 < zAt (zV R) ((R.length : Int) - 1) then mGd ar (d + 2) 301 55 [.ref 185, .int (zI s), .int (zI v), .int (zI ((zAt (zV R) ((R.length : Int) - 1)))), .int (zI ((zAt (zV R) 0 + 99)))] [] (zW K C O t) else mGd ar (d + 2) 301 43 [.ref 185, .int (zI s), .int (zI v), .int (zI ((zAt (zV R) ((R.length : Int) - 1)))), .int (zI ((zAt (zV R) 0 + 99)))] [] (zW K C O t) := by
      rw [i301_0 (by omega), if_neg s0, i301_6, q1, mB0_i, i301_11 (by omega) (by omega) (by omega), g1, g0]
    rw [st]
    by_cases k1 : 2 * v + 1 < zAt (zV R) ((R.length : Int) - 1)
    · refine ⟨C, 0, by rw [if_pos k1, i301_55, i301_56 (by omega)], by omega, ⟨fun q => by omega, fun q => ?_⟩, q4, q5⟩
      rcases q with q | q
      · exact absurd q hne
      · omega
    · rw [if_neg k1, i301_43 (by omega) (by omega)]
      by_cases k2 : zAt (zV R) 0 + 99 < 2 * v
      · refine ⟨C, 0, by rw [if_pos k2, i301_55, i301_56 (by omega)], by omega, ⟨fun q => by omega, fun q => ?_⟩, q4, q5⟩
        rcases q with q | q
        · exact absurd q hne
        · omega
      · exact ⟨C, 1, by rw [if_neg k2, i301_51, i301_56 (by omega)], by omega, ⟨fun _ => Or.inr (by omega), fun _ => rfl⟩, q4, q5⟩
theorem zNear0 {v : Int} {L : List Int} : (L.count v : Int) = L.length - L.countP (fun x => decide (x < v)) - L.countP (fun x => decide (v < x)) := by
  have h := zNear3 (v := v) (e := 0) (by decide) (L := L)
  rw [show v - 0 = v by omega, show v + 0 = v by omega] at h
  rw [← h]
  congr 1
  unfold List.count
  refine List.countP_congr (fun x _ => ?_)
  unfold zAbs
  simp only [beq_iff_eq, decide_eq_true_eq]
  split <;> omega
theorem c_just {s v n : Int} (hA : zROk A) (hn : A 186 0 = n) (hs : 0 ≤ s ∧ s ≤ zAll n) (hv : -2147483648 ≤ v ∧ v < 2147483648) : mGd ar (d + 2) 303 0 [.ref 185, .int (zI s), .int (zI v)] [] (zW K A O t) = some (.inl (some (.int (zI (((zSel s (A 193) 0 n.toNat).count v : Int))))), zW K A O t) := by
  have h0 := hA.1
  rw [hn] at h0
  have hl := zAll_lt h0
  have cb := c_bits (d := d + 1) (K := K) (O := O) (t := t) (ar := ar) (A := A) (s := s) (by omega)
  have c1 := c_below (d := d) (K := K) (O := O) (t := t) (ar := ar) (A := A) (s := s) (v := v) hA (by omega) hv
  have c2 := c_above (d := d) (K := K) (O := O) (t := t) (ar := ar) (A := A) (s := s) (v := v) hA (by omega) hv
  have hcnt := zSel_cnt (f := A 193) (n := n) (s := s) hs h0
  rw [hn] at c1 c2
  rw [zNear0, hcnt, i303_0, cb, mB1_i, i303_4, c1, mB1_i, i303_10, c2, mB1_i, i303_17]
def zCq (g : Int → Int) (s v its : Int) (L : List Int) (q : Int) : Prop := zB s q = true → g q ≠ v → (g q < v → (L.count (g q) : Int) < its) ∧ (v < g q → (L.count (g q) : Int) ≤ its)
theorem com_in {s v n its s2 : Int} (hA : zROk A) (hn : A 186 0 = n) (hs : 0 ≤ s ∧ s ≤ zAll n) (hv : 0 ≤ v ∧ v ≤ 99) (hi : 0 ≤ its ∧ its ≤ 16) : ∀ (m : Nat) (p x5 : Int) (v7 : Value), p + m = n → 0 ≤ p → (x5 = 0 ∨ x5 = 1) → (x5 = 1 ↔ 0 < its ∧ ∀ q, 0 ≤ q → q < p → zCq (A 193) s v its (zSel s (A 193) 0 n.toNat) q) → ∃ x, mGd ar (d + 3) 302 28 [.ref 185, .int (zI s), .int (zI s2), .int (zI v), .int (zI its), .int (zI x5), .int (zI p), v7] [] (zW K A O t) = some (.inl (some (.int (zI x))), zW K A O t) ∧ (x = 0 ∨ x = 1) ∧ (x = 1 ↔ 0 < its ∧ ∀ q, 0 ≤ q → q < n → zCq (A 193) s v its (zSel s (A 193) 0 n.toNat) q) := by
  intro m
  have h0 := hA.1
  rw [hn] at h0
  have hl := zAll_lt h0
  induction m with
  | zero =>
    intro p x5 v7 hp p0 hx hi5
    have : p = n := by omega
    subst this
    exact ⟨x5, by rw [i302_28, i233_0, mB1_i, hn, i302_34 (by omega) (by omega), if_pos (by omega), i302_117 hx], hx, hi5⟩
  | succ m ih =>
    intro p x5 v7 hp p0 hx hi5
    have rp := hA.2.1 p p0 (by omega)
    have cj := c_just (d := d) (K := K) (O := O) (t := t) (ar := ar) (A := A) (s := s) (v := A 193 p) hA hn hs (by omega)
    have ch := c_has (d := d + 2) (K := K) (O := O) (t := t) (ar := ar) (A := A) (s := s) (k := p) (by omega) (by omega)
    have hcl : ((zSel s (A 193) 0 n.toNat).count (A 193 p) : Int) ≤ 8 := by
      have h1 : (zSel s (A 193) 0 n.toNat).count (A 193 p) ≤ (zSel s (A 193) 0 n.toNat).length := List.count_le_length
      have h2 := zSel_le (s := s) (f := A 193) (m := n.toNat) (p := 0)
      omega
    generalize hcn : ((zSel s (A 193) 0 n.toNat).count (A 193 p) : Int) = w7 at cj hcl
    have w0 : 0 ≤ w7 := by omega
    have step : ∀ z5, (z5 = 0 ∨ z5 = 1) → (z5 = 1 ↔ x5 = 1 ∧ zCq (A 193) s v its (zSel s (A 193) 0 n.toNat) p) → ∃ x, mGd ar (d + 3) 302 111 [.ref 185, .int (zI s), .int (zI s2), .int (zI v), .int (zI its), .int (zI z5), .int (zI p), .int (zI w7)] [] (zW K A O t) = some (.inl (some (.int (zI x))), zW K A O t) ∧ (x = 0 ∨ x = 1) ∧ (x = 1 ↔ 0 < its ∧ ∀ q, 0 ≤ q → q < n → zCq (A 193) s v its (zSel s (A 193) 0 n.toNat) q) := fun z5 hz hz5 => by
      rw [i302_111]
      refine ih (p + 1) z5 (.int (zI w7)) (by omega) (by omega) hz ?_
      rw [hz5, hi5]
      constructor
      · rintro ⟨⟨a1, a2⟩, a3⟩
        refine ⟨a1, fun q q0 q1 => ?_⟩
        by_cases hq : q = p
        · rw [hq]; exact a3
        · exact a2 q q0 (by omega)
      · rintro ⟨a1, a2⟩
        exact ⟨⟨a1, fun q q0 q1 => a2 q q0 (by omega)⟩, a2 p p0 (by omega)⟩
    rw [i302_28, i233_0, mB1_i, hn, i302_34 (by omega) (by omega), if_neg (by omega), i302_37 (by omega), cj, mB1_i, i302_49, ch, mB1_i]
    by_cases hb : zB s p = true
    · rw [if_pos hb, i302_57 (by omega), if_neg (by omega), i302_60 (by omega) (by omega) (by omega)]
      by_cases hgv : A 193 p = v
      · rw [if_pos hgv]
        exact step x5 hx ⟨fun q => ⟨q, fun _ q2 => absurd hgv q2⟩, fun q => q.1⟩
      · rw [if_neg hgv, i302_71 (by omega)]
        by_cases x0 : x5 = 0
        · rw [if_pos x0, i302_108, i302_109]
          exact step 0 (by omega) ⟨fun q => by omega, fun q => by omega⟩
        · rw [if_neg x0, i302_76 (by omega) (by omega) (by omega)]
          have x1 : x5 = 1 := by omega
          by_cases hlt : v ≤ A 193 p
          · rw [if_pos hlt, i302_97 (by omega) (by omega)]
            by_cases hc : its < w7
            · rw [if_pos hc, i302_108, i302_109]
              refine step 0 (by omega) ⟨fun q => by omega, fun q => ?_⟩
              have := (q.2 hb hgv).2 (by omega)
              rw [hcn] at this
              omega
            · rw [if_neg hc, i302_104, i302_109]
              exact step 1 (by omega) ⟨fun _ => ⟨x1, fun _ _ => ⟨fun q => by omega, fun _ => by rw [hcn]; omega⟩⟩, fun _ => rfl⟩
          · rw [if_neg hlt, i302_87 (by omega) (by omega)]
            by_cases hc : its ≤ w7
            · rw [if_pos hc, i302_108, i302_109]
              refine step 0 (by omega) ⟨fun q => by omega, fun q => ?_⟩
              have := (q.2 hb hgv).1 (by omega)
              rw [hcn] at this
              omega
            · rw [if_neg hc, i302_94, i302_104, i302_109]
              exact step 1 (by omega) ⟨fun _ => ⟨x1, fun _ _ => ⟨fun _ => by rw [hcn]; omega, fun q => by omega⟩⟩, fun _ => rfl⟩
    · rw [if_neg hb, i302_57 (by omega), if_pos rfl]
      exact step x5 hx ⟨fun q => ⟨q, fun q2 => absurd q2 hb⟩, fun q => q.1⟩
theorem c_byCommon {s v n s2 : Int} (hA : zROk A) (hn : A 186 0 = n) (hs : 0 ≤ s ∧ s ≤ zAll n) (hs2 : 0 ≤ s2 ∧ s2 < 256) (hv : 0 ≤ v ∧ v ≤ 99) : ∃ x, mGd ar (d + 3) 302 0 [.ref 185, .int (zI s), .int (zI s2), .int (zI v), .double 0, .double 0, .double 0, .double 0] [] (zW K A O t) = some (.inl (some (.int (zI x))), zW K A O t) ∧ (x = 0 ∨ x = 1) ∧ (x = 1 ↔ zCmn (zSel s (A 193) 0 n.toNat) (zCnt s2) v) := by
  have h0 := hA.1
  rw [hn] at h0
  have cj := c_just (d := d) (K := K) (O := O) (t := t) (ar := ar) (A := A) (s := s) (v := v) hA hn hs (by omega)
  have cb := c_bits (d := d + 2) (K := K) (O := O) (t := t) (ar := ar) (A := A) (s := s2) hs2
  have hcr := zCnt_rng (s := s2)
  have hcl : ((zSel s (A 193) 0 n.toNat).count v : Int) ≤ 8 := by
    have h1 : (zSel s (A 193) 0 n.toNat).count v ≤ (zSel s (A 193) 0 n.toNat).length := List.count_le_length
    have h2 := zSel_le (s := s) (f := A 193) (m := n.toNat) (p := 0)
    omega
  have key : (0 < ((zSel s (A 193) 0 n.toNat).count v : Int) + zCnt s2 ∧ ∀ q, 0 ≤ q → q < n → zCq (A 193) s v (((zSel s (A 193) 0 n.toNat).count v : Int) + zCnt s2) (zSel s (A 193) 0 n.toNat) q) ↔ zCmn (zSel s (A 193) 0 n.toNat) (zCnt s2) v := by
    unfold zCmn
    refine ⟨fun q => ⟨q.1, fun y hy hyv => ?_⟩, fun q => ⟨q.1, fun p p0 p1 hb hgv => ?_⟩⟩
    · obtain ⟨i, i0, i1, i2, i3⟩ := zSel_mem hy
      have := q.2 i i0 (by omega) i2 (by rw [i3]; exact hyv)
      rw [i3] at this
      exact this
    · exact q.2 _ (zSel_in p0 (by omega) hb) hgv
  have fin : ∀ x5, (x5 = 0 ∨ x5 = 1) → (x5 = 1 ↔ 0 < ((zSel s (A 193) 0 n.toNat).count v : Int) + zCnt s2) → ∃ x, mGd ar (d + 3) 302 28 [.ref 185, .int (zI s), .int (zI s2), .int (zI v), .int (zI ((((zSel s (A 193) 0 n.toNat).count v : Int) + zCnt s2))), .int (zI x5), .int (zI 0), .double 0] [] (zW K A O t) = some (.inl (some (.int (zI x))), zW K A O t) ∧ (x = 0 ∨ x = 1) ∧ (x = 1 ↔ zCmn (zSel s (A 193) 0 n.toNat) (zCnt s2) v) := fun x5 h1 h2 => by
    rw [← key]
    exact com_in (d := d) (K := K) (O := O) (t := t) (ar := ar) (A := A) (s2 := s2) hA hn hs hv (by omega) n.toNat 0 x5 (.double 0) (by omega) (by omega) h1 ⟨fun q => ⟨h2.1 q, fun q q0 q1 => by omega⟩, fun q => h2.2 q.1⟩
  rw [i302_0, cj, mB1_i, i302_6, cb, mB1_i, i302_10 (by omega)]
  by_cases hi : ((zSel s (A 193) 0 n.toNat).count v : Int) + zCnt s2 ≤ 0
  · rw [if_pos hi, i302_22, i302_23]
    exact fin 0 (by omega) (by omega)
  · rw [if_neg hi, i302_18, i302_23]
    exact fin 1 (by omega) (by omega)
theorem c_canBe {h : Int → Int} {k v s r : Int} (hw : zHW0 h) (hA : zROk A) (e : A 186 = h) (hr : 0 ≤ r ∧ r ≤ 5) (hk : 0 ≤ k ∧ k < 4) (hv : 0 ≤ v ∧ v ≤ 99) (hp : 0 < h 0) (hs : 0 ≤ s ∧ s ≤ zAll (h 0)) (hF : ∀ s, zSel s (zRP A) 0 (h 0).toNat = zSel s (zWP h k) 0 (h 0).toNat) (hG : ∀ s, zSel s (A 193) 0 (h 0).toNat = (zSel s (zWP h k) 0 (h 0).toNat).map fun q => q.1) : ∃ C x, mGd ar (d + 4) 299 0 [.ref 185, .int (zI r), .int (zI s), .int (zI v), .double 0, .double 0] [] (zW K A O t) = some (.inl (some (.int (zI x))), zW K C O t) ∧ (x = 0 ∨ x = 1) ∧ (x = 1 ↔ zCan r (h 0) v (zCnt s) (zS2 (zAP h k)) (zSel (zAll (h 0) - s) (zWP h k) 0 (h 0).toNat)) ∧ zFr A C := by
  have eA : ∀ i, A 186 i = h i := fun i => by rw [e]
  have w0 := hw.1
  have hl := zAll_lt w0
  have n0 : 0 ≤ A 186 0 ∧ A 186 0 ≤ 8 := by rw [eA]; exact w0
  have all1 : 1 ≤ zAll (h 0) := by
    have hh : ∀ n : Fin 9, 0 < n.val → 1 ≤ zAll (n.val : Int) := by decide +kernel
    have := hh ⟨(h 0).toNat, by omega⟩ (by show 0 < (h 0).toNat; omega)
    simpa only [Int.toNat_of_nonneg w0.1] using this
  have ca := c_all (d := d + 2) (K := K) (O := O) (t := t) (ar := ar) (A := A) n0
  rw [eA] at ca
  have hn := (zf_not hs w0).1
  have hcs := zCnt_not w0 hs
  have hcnt := zSel_cnt (f := zWP h k) (n := h 0) (s := zAll (h 0) - s) (by omega) w0
  rw [hcs] at hcnt
  have hcr := zCnt_rng (s := s)
  have hok := zWP_ok (s := zAll (h 0) - s) hw hk
  have hsp : zS2 (zAP h k) = zS2 (zSel s (zWP h k) 0 (h 0).toNat) + zS2 (zSel (zAll (h 0) - s) (zWP h k) 0 (h 0).toNat) := zS2_split (fun i h1 h2 => ⟨by rw [zB_all w0 (by omega)]; exact decide_eq_true (by omega), (zf_not hs w0).2 i (by omega)⟩)
  rw [i299_0, ca, mB1_i, i299_4 (by omega), hn]
  by_cases s0 : s = 0
  · rw [if_pos s0]
    subst s0
    have z0 : zCnt 0 = 0 := by decide
    rw [z0] at hcnt ⊢
    have ea : zAll (h 0) - 0 = zAll (h 0) := by omega
    rw [ea] at hcnt hok ⊢
    obtain ⟨C, q1, q2⟩ := c_middleOf (d := d) (K := K) (O := O) (t := t) (ar := ar) (A := A) (r := r) (s := zAll (h 0)) hA (by rw [eA]; omega) hr
    rw [eA, hF] at q1
    have hap : zSel (zAll (h 0)) (zWP h k) 0 (h 0).toNat = zAP h k := rfl
    rw [hap] at q1 hcnt hok ⊢
    have hne : 0 < (zAP h k).length := by omega
    have ry := zMid_rng hok hne (r := r) hr
    have hsum := zOk_sums hok.2
    have key : zMid r (zAP h k) = v ↔ zCan r (h 0) v 0 (zS2 (zAP h k)) (zAP h k) := by
      unfold zCan
      by_cases r0 : r = 0
      · rw [if_pos r0, r0]
        unfold zMid
        rw [if_pos rfl, show ((zAP h k).length : Int) = h 0 by omega]
        have i1 : zS1 (zAP h k) < (v + 1) * h 0 ↔ zS1 (zAP h k) / h 0 < v + 1 := (Int.ediv_lt_iff_lt_mul hp).symm
        have i2 : v * h 0 ≤ zS1 (zAP h k) ↔ v ≤ zS1 (zAP h k) / h 0 := (Int.le_ediv_iff_mul_le hp).symm
        rw [show zS1 (zAP h k) + 99 * 0 = zS1 (zAP h k) by omega, i1, i2]
        omega
      rw [if_neg r0]
      by_cases r3 : r = 3
      · rw [if_pos r3, r3]
        constructor
        · intro q; right; left; exact ⟨rfl, q⟩
        · rintro (q | ⟨-, q⟩ | ⟨q, -⟩)
          · rw [q] at hne; exact absurd hne (by decide)
          · exact q
          · exact absurd rfl q
      rw [if_neg r3]
      by_cases r5 : r = 5
      · have hW : 0 < zS2 (zAP h k) := by omega
        rw [if_pos r5, r5]
        unfold zMid
        rw [if_neg (by decide), if_neg (by decide), if_neg (by decide), if_neg (by decide), if_neg (by decide)]
        have i1 : zS3 (zAP h k) < (v + 1) * zS2 (zAP h k) ↔ zS3 (zAP h k) / zS2 (zAP h k) < v + 1 := (Int.ediv_lt_iff_lt_mul hW).symm
        have i2 : v * zS2 (zAP h k) ≤ zS3 (zAP h k) ↔ v ≤ zS3 (zAP h k) / zS2 (zAP h k) := (Int.le_ediv_iff_mul_le hW).symm
        rw [show zS3 (zAP h k) + 99 * (zS2 (zAP h k) - zS2 (zAP h k)) = zS3 (zAP h k) by omega, i1, i2]
        omega
      rw [if_neg r5]
      rfl
    rw [← key, i299_14, ca, mB1_i, i299_20, q1, mB1_i, i299_23 (by omega) (by omega)]
    by_cases hc : zMid r (zAP h k) = v
    · exact ⟨C, 1, by rw [if_pos hc, i299_27, i299_32 (by omega)], by omega, by simp [hc], q2⟩
    · exact ⟨C, 0, by rw [if_neg hc, i299_31, i299_32 (by omega)], by omega, by simp [hc], q2⟩
  · rw [if_neg s0]
    have hpos := zCnt_pos (s := s) (n := h 0) (by omega) w0
    have st : mGd ar (d + 4) 299 33 [.ref 185, .int (zI r), .int (zI s), .int (zI v), .int (zI ((zAll (h 0) - s))), .double 0] [] (zW K A O t) = mGd ar (d + 4) 299 55 [.ref 185, .int (zI r), .int (zI s), .int (zI v), .int (zI ((zAll (h 0) - s))), .double 0] [.int (zI (((if r = 1 then h 0 - 1 else h 0) / 2)))] (zW K A O t) := by
      rw [i299_33 (by omega)]
      by_cases r1 : r = 1
      · rw [if_pos r1, if_pos r1, i299_38, i233_0, mB1_i, eA, i299_42 (by omega), Int.tdiv_eq_ediv_of_nonneg (by omega)]
      · rw [if_neg r1, if_neg r1, i299_49, i233_0, mB1_i, eA, i299_53 (by omega), Int.tdiv_eq_ediv_of_nonneg (by omega)]
    rw [st, i299_55 (by omega)]
    unfold zCan
    by_cases r0 : r = 0
    · obtain ⟨x, q1, q2, q3⟩ := c_bySum (d := d) (K := K) (O := O) (t := t) (ar := ar) (A := A) (w := 0) (n := 0) (W := 0) hA e hv hp hs (by omega) hF
      rw [if_pos rfl] at q3
      rw [if_pos r0, if_pos r0, i299_96, q1, mB1_i]
      exact ⟨A, x, i299_105 q2, q2, q3, zFr_refl⟩
    rw [if_neg r0, if_neg r0]
    by_cases r3 : r = 3
    · obtain ⟨C, x, q1, q2, q3, q4⟩ := c_byEnds (d := d + 1) (K := K) (O := O) (t := t) (ar := ar) (A := A) (v := v) (s := zAll (h 0) - s) hA e hv (by omega) (hG _) hok
      rw [if_pos r3, if_pos r3, i299_116, q1, mB1_i]
      refine ⟨C, x, i299_123 q2, q2, ?_, q4⟩
      rw [q3]
      constructor
      · rintro (q | q)
        · exact Or.inl q
        · exact Or.inr (Or.inr ⟨by omega, q⟩)
      · rintro (q | ⟨q, -⟩ | ⟨-, q⟩)
        · exact Or.inl q
        · omega
        · exact Or.inr q
    rw [if_neg r3, if_neg r3]
    by_cases r4 : r = 4
    · obtain ⟨x, q1, q2, q3⟩ := c_byCommon (d := d) (K := K) (O := O) (t := t) (ar := ar) (A := A) (v := v) (s := zAll (h 0) - s) (s2 := s) hA (eA 0) (by omega) (by omega) hv
      rw [if_pos r4, if_neg (show ¬ r = 5 by omega), i299_124, q1, mB1_i]
      refine ⟨A, x, i299_132 q2, q2, ?_, zFr_refl⟩
      rw [q3, zMid_with (by omega) (by omega), if_pos r4, hG, show (((zCnt s).toNat : Nat) : Int) = zCnt s by omega]
    rw [if_neg r4]
    by_cases r5 : r = 5
    · obtain ⟨x, q1, q2, q3⟩ := c_bySum (d := d) (K := K) (O := O) (t := t) (ar := ar) (A := A) (w := 1) (n := 0) (W := 0) hA e hv hp hs (by omega) hF
      rw [if_neg (show ¬ (1 : Int) = 0 by decide)] at q3
      have hap : zSel (zAll (h 0)) (zWP h k) 0 (h 0).toNat = zAP h k := rfl
      rw [hap] at q3
      rw [if_pos r5, if_pos r5, i299_106, q1, mB1_i, show zS2 (zAP h k) - zS2 (zSel (zAll (h 0) - s) (zWP h k) 0 (h 0).toNat) = zS2 (zSel s (zWP h k) 0 (h 0).toNat) by omega]
      exact ⟨A, x, i299_115 q2, q2, q3, zFr_refl⟩
    rw [if_neg r5, if_neg r5]
    have c1 := c_below (d := d + 2) (K := K) (O := O) (t := t) (ar := ar) (A := A) (s := zAll (h 0) - s) (v := v) hA (by omega) (by omega)
    have c2 := c_above (d := d + 2) (K := K) (O := O) (t := t) (ar := ar) (A := A) (s := zAll (h 0) - s) (v := v) hA (by omega) (by omega)
    rw [eA, hG] at c1 c2
    have hm := zMid_with (R := zSel (zAll (h 0) - s) (zWP h k) 0 (h 0).toNat) (m := (zCnt s).toNat) (v := v) (r := r) (by omega) (by omega)
    rw [if_neg r4, show (((zCnt s).toNat + (zSel (zAll (h 0) - s) (zWP h k) 0 (h 0).toNat).length : Nat) : Int) = h 0 by omega] at hm
    rw [hm]
    have b1 : ((zSel (zAll (h 0) - s) (zWP h k) 0 (h 0).toNat).map fun q => q.1).countP (fun x => decide (x < v)) ≤ ((zSel (zAll (h 0) - s) (zWP h k) 0 (h 0).toNat).map fun q => q.1).length := List.countP_le_length
    have b2 : ((zSel (zAll (h 0) - s) (zWP h k) 0 (h 0).toNat).map fun q => q.1).countP (fun x => decide (v < x)) ≤ ((zSel (zAll (h 0) - s) (zWP h k) 0 (h 0).toNat).map fun q => q.1).length := List.countP_le_length
    rw [List.length_map] at b1 b2
    have h8 := hok.1
    generalize ((zSel (zAll (h 0) - s) (zWP h k) 0 (h 0).toNat).map fun q => q.1).countP (fun x => decide (x < v)) = y1 at c1 b1
    generalize ((zSel (zAll (h 0) - s) (zWP h k) 0 (h 0).toNat).map fun q => q.1).countP (fun x => decide (v < x)) = y2 at c2 b2
    have pl : 0 ≤ (if r = 1 then h 0 - 1 else h 0) / 2 ∧ (if r = 1 then h 0 - 1 else h 0) / 2 ≤ 8 := by split <;> omega
    generalize (if r = 1 then h 0 - 1 else h 0) / 2 = pc at pl
    rw [i299_133, c1, mB1_i, i299_140 (by omega) (by omega)]
    by_cases k1 : pc < (y1 : Int)
    · exact ⟨A, 0, by rw [if_pos k1, i299_168, i299_169 (by omega)], by omega, ⟨fun q => by omega, fun q => by omega⟩, zFr_refl⟩
    · rw [if_neg k1, i299_145, c2, mB1_i, i299_152, i233_0, mB1_i, eA, i299_156 (by omega) (by omega)]
      by_cases k2 : h 0 - 1 - pc < (y2 : Int)
      · exact ⟨A, 0, by rw [if_pos k2, i299_168, i299_169 (by omega)], by omega, ⟨fun q => by omega, fun q => by omega⟩, zFr_refl⟩
      · exact ⟨A, 1, by rw [if_neg k2, i299_164, i299_169 (by omega)], by omega, ⟨fun q => by omega, fun q => by omega⟩, zFr_refl⟩
end FEWEST
