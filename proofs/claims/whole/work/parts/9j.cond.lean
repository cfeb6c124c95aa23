/-! TEXTS, 14: conditions -/
section COND
variable {ar : Nat → Nat × (Nat → Int32)} {d t : Nat} {K : Nat → Nat → Option Nat} {A : Nat → Int → Int} {O : Nat → Int64}
theorem all_loop (hS : zArs ar) {T : Int → Int} {n e0 dp : Int} (hAt : ∀ (A : Nat → Int → Int) (p : Int) (cs : List Int) (ts : List Bool), (ts.length : Int) ≤ 2 * dp + 2 → zCl A T n p e0 cs → zTc cs [] = some ts → zPlw ar K O t (d + 5) 95 0 [.ref 172, .int (zI dp), .double 0, .double 0, .double 0] (d + 5) 246 0 [.ref 185, .double 0] A T n p e0 cs dp (true :: ts) 0) {ts : List Bool} (hts : (ts.length : Int) ≤ 2 * dp + 1) : ∀ (m : Nat) (p x2 : Int) (A : Nat → Int → Int) (cs : List Int), p + m = n → (0 ≤ x2 ∧ x2 ≤ p) → zCl A T n p e0 cs → zTc cs [] = some (true :: ts) → zPlw ar K O t (d + 6) 94 12 [.ref 172, .int (zI dp), .int (zI x2)] (d + 6) 245 9 [.ref 185] A T n p e0 cs dp (true :: ts) 0 := by
  intro m
  induction m using Nat.strongRecOn with
  | _ m ih =>
    intro p x2 A cs hm hx2 hC hT
    obtain ⟨hx, hp, hk, h2, hl, he0, hsl⟩ := id hC
    have hn := hx.1
    have hb := zBg_rng (T := T) hp.2
    have hbh := zBh_rng (T := T) hp.2
    have hwe := zWe_rng (T := T) hp.2
    obtain ⟨g, g1, g2, g3⟩ := c_isWord (d := d) (K := K) (O := O) (t := t) (ar := ar) (A := A) hS (s := 5) (s' := 21) (by decide) zJw_tab.2.2.2.2.2.1 (by decide) hx hk hp
    by_cases hw : zIs T n p 21
    · have kd := zIs_kd hp.2 (by decide) hw
      have bhw := zIs_bh hp.2 (by decide) hw
      obtain ⟨C, v1, v2, v3, v4, v5⟩ := c_advance (d := d + 5) (K := K) (O := O) (t := t) (ar := ar) (A := A) hx hk.2.1 (by omega)
      have hCC : zCl C T n (zBh T n p) e0 cs := ⟨v3, by omega, v2, by rw [v5 163 (by decide)]; exact h2, by rw [v5 167 (by decide)]; exact hl, he0, by omega⟩
      refine zPlw_then (cm := 1) (j1 := 48) (i1 := [.ref 172, .int (zI dp), .int (zI x2)]) (j2 := 27) (i2 := [.ref 185]) (zKl_1 v5) (by omega) (hAt C (zBh T n p) cs (true :: ts) (by rw [List.length_cons]; omega) hCC hT) (fun A' h => ?_) (fun A' p' cs' h1 h2' h3 => ?_) (fun A' z h hz => ?_) (fun O' t' B hB => ?_)
      · rw [i94_12 (by omega), if_neg (by omega), i94_19, g1, mB1_i, i94_28 (by omega), if_neg (by have := g3.2 hw; omega), i94_31, v1, mB0_i, i94_38, h, mB1_i, i94_43 (by omega), if_pos rfl, i94_46]
      · obtain ⟨hx', hp', hk', h2'', hl', -, hsl'⟩ := id h1
        have len1 : ((cs' ++ [1012]).length : Int) = cs'.length + 1 := by rw [List.length_append]; rfl
        refine zPlw_seq (zAdd_kl (c := 1012) (by omega)) (by omega) (ih (n - p').toNat (by omega) p' (x2 + 1) (zAdd A' 1012) (cs' ++ [1012]) (by omega) (by omega) ⟨zAdd_tx hx', hp', zAdd_tk hk', zAdd_2 h2'', zAdd_l h2'' hl', he0, by omega⟩ (zTc_and (by omega) h3)) rfl (fun z hz => ?_) (fun O' t' B hB => ?_)
        · rw [i94_48, c_addS (by omega), mB0_i, i94_58]; exact hz
        · obtain ⟨B3, z1, z2, z3, z4, z5, z6, z7⟩ := c_emits (d := d + 5) (K := K) (O := O') (t := t') (ar := ar) (A := B) (s := 13) (v := 0) hB.2.2.2.1 (by omega)
          refine ⟨B3, zLl_em (by omega) z5 z6 z7, zRl_em hB z2 (by rw [z3, z4]; unfold zCd; omega) z5 z6 z7, fun z hz => ?_⟩
          rw [i245_27, z1, mB0_i, i245_34]; exact hz
      · rw [i94_12 (by omega), if_neg (by omega), i94_19, g1, mB1_i, i94_28 (by omega), if_neg (by have := g3.2 hw; omega), i94_31, v1, mB0_i, i94_38, h, mB1_i, i94_43 (by omega), if_neg (by omega)]
        exact hz
      · obtain ⟨B1, r, z1, z2, z3, z4, z5, z6, z7⟩ := c_passes (d := d) (K := K) (O := O') (t := t') (ar := ar) (A := B) hS (s := 21) (by decide) hB.1 hp hB.2.1
        have r1 : r = 1 := z3.2 hw
        refine ⟨B1, zLl_fp z7, zRl_fp hB z7 (z5 r1), fun B' h => ?_, fun B' p' cs' h h2' => ⟨B', zLl_refl, h2', fun z hz => ?_⟩⟩
        · rw [i245_9, z1, mB1_i, i245_15 (by omega), if_neg (by omega), i245_18, h, mB1_i, i245_22 (by omega), if_pos rfl, i245_25]
        · rw [i245_9, z1, mB1_i, i245_15 (by omega), if_neg (by omega), i245_18, h, mB1_i, i245_22 (by omega), if_neg (by omega)]
          exact hz
    · refine zPlw_ok (A' := A) (p' := zBg T n p) (cs' := cs) ?_ ⟨hx, by omega, zTk_bg hp.2 hk, h2, hl, he0, by omega⟩ (by omega) hT zKl_refl (fun O' t' B hB => ?_)
      · have g0 : g = 0 := by
          rcases g2 with q | q
          · exact q
          · exact absurd (g3.1 q) hw
        rw [i94_12 (by omega)]
        by_cases c4 : 400 ≤ x2
        · rw [if_pos c4, i94_64]
        · rw [if_neg c4, i94_19, g1, mB1_i, i94_28 (by omega), if_pos g0, i94_64]
      · obtain ⟨B1, r, z1, z2, z3, z4, z5, z6, z7⟩ := c_passes (d := d) (K := K) (O := O') (t := t') (ar := ar) (A := B) hS (s := 21) (by decide) hB.1 hp hB.2.1
        have r0 : r = 0 := by
          rcases z2 with q | q
          · exact q
          · exact absurd (z3.1 q) hw
        exact ⟨B1, by rw [i245_9, z1, mB1_i, i245_15 (by omega), if_pos r0, i245_37], zLl_fp z7, zRl_fp hB z7 (z6 r0)⟩
theorem pair_all (hS : zArs ar) {T : Int → Int} {n e0 dp : Int} (hAt : ∀ (A : Nat → Int → Int) (p : Int) (cs : List Int) (ts : List Bool), (ts.length : Int) ≤ 2 * dp + 2 → zCl A T n p e0 cs → zTc cs [] = some ts → zPlw ar K O t (d + 5) 95 0 [.ref 172, .int (zI dp), .double 0, .double 0, .double 0] (d + 5) 246 0 [.ref 185, .double 0] A T n p e0 cs dp (true :: ts) 0) (p : Int) (cs : List Int) (ts : List Bool) (hts : (ts.length : Int) ≤ 2 * dp + 1) (hC : zCl A T n p e0 cs) (hT : zTc cs [] = some ts) : zPlw ar K O t (d + 6) 94 0 [.ref 172, .int (zI dp), .double 0] (d + 6) 245 0 [.ref 185] A T n p e0 cs dp (true :: ts) 0 := by
  refine zPlw_then (cm := 0) (j1 := 12) (i1 := [.ref 172, .int (zI dp), .int (zI 0)]) (j2 := 9) (i2 := [.ref 185]) zKl_refl (by omega) (hAt A p cs ts (by omega) hC hT) (fun A' h => ?_) (fun A' p' cs' h1 _ h3 => all_loop (d := d) hS hAt hts (n - p').toNat p' 0 A' cs' (by have := h1.2.1; omega) (by have := h1.2.1; omega) h1 h3) (fun A' z h hz => ?_) (fun O' t' B hB => ⟨B, zLl_refl, hB, fun B' h => ?_, fun B' p' cs' h h2' => ⟨B', zLl_refl, h2', fun z hz => ?_⟩⟩)
  · rw [i94_0, h, mB1_i, i94_5 (by omega), if_pos rfl, i94_8]
  · rw [i94_0, h, mB1_i, i94_5 (by omega), if_neg (by omega), i94_10]; exact hz
  · rw [i245_0, h, mB1_i, i245_4 (by omega), if_pos rfl, i245_7]
  · rw [i245_0, h, mB1_i, i245_4 (by omega), if_neg (by omega)]; exact hz
theorem cond_loop (hS : zArs ar) {T : Int → Int} {n e0 dp : Int} (hAll : ∀ (A : Nat → Int → Int) (p : Int) (cs : List Int) (ts : List Bool), (ts.length : Int) ≤ 2 * dp + 1 → zCl A T n p e0 cs → zTc cs [] = some ts → zPlw ar K O t (d + 5) 94 0 [.ref 172, .int (zI dp), .double 0] (d + 5) 245 0 [.ref 185] A T n p e0 cs dp (true :: ts) 0) {ts : List Bool} (hts : (ts.length : Int) ≤ 2 * dp) : ∀ (m : Nat) (p x2 : Int) (A : Nat → Int → Int) (cs : List Int), p + m = n → (0 ≤ x2 ∧ x2 ≤ p) → zCl A T n p e0 cs → zTc cs [] = some (true :: ts) → zPlw ar K O t (d + 6) 93 12 [.ref 172, .int (zI dp), .int (zI x2)] (d + 6) 244 9 [.ref 185] A T n p e0 cs dp (true :: ts) 0 := by
  intro m
  induction m using Nat.strongRecOn with
  | _ m ih =>
    intro p x2 A cs hm hx2 hC hT
    obtain ⟨hx, hp, hk, h2, hl, he0, hsl⟩ := id hC
    have hn := hx.1
    have hb := zBg_rng (T := T) hp.2
    have hbh := zBh_rng (T := T) hp.2
    have hwe := zWe_rng (T := T) hp.2
    obtain ⟨g, g1, g2, g3⟩ := c_isWord (d := d) (K := K) (O := O) (t := t) (ar := ar) (A := A) hS (s := 4) (s' := 20) (by decide) zJw_tab.2.2.2.2.1 (by decide) hx hk hp
    by_cases hw : zIs T n p 20
    · have kd := zIs_kd hp.2 (by decide) hw
      have bhw := zIs_bh hp.2 (by decide) hw
      obtain ⟨C, v1, v2, v3, v4, v5⟩ := c_advance (d := d + 5) (K := K) (O := O) (t := t) (ar := ar) (A := A) hx hk.2.1 (by omega)
      have hCC : zCl C T n (zBh T n p) e0 cs := ⟨v3, by omega, v2, by rw [v5 163 (by decide)]; exact h2, by rw [v5 167 (by decide)]; exact hl, he0, by omega⟩
      refine zPlw_then (cm := 1) (j1 := 48) (i1 := [.ref 172, .int (zI dp), .int (zI x2)]) (j2 := 27) (i2 := [.ref 185]) (zKl_1 v5) (by omega) (hAll C (zBh T n p) cs (true :: ts) (by rw [List.length_cons]; omega) hCC hT) (fun A' h => ?_) (fun A' p' cs' h1 h2' h3 => ?_) (fun A' z h hz => ?_) (fun O' t' B hB => ?_)
      · rw [i93_12 (by omega), if_neg (by omega), i93_19, g1, mB1_i, i93_28 (by omega), if_neg (by have := g3.2 hw; omega), i93_31, v1, mB0_i, i93_38, h, mB1_i, i93_43 (by omega), if_pos rfl, i93_46]
      · obtain ⟨hx', hp', hk', h2'', hl', -, hsl'⟩ := id h1
        have len1 : ((cs' ++ [1013]).length : Int) = cs'.length + 1 := by rw [List.length_append]; rfl
        refine zPlw_seq (zAdd_kl (c := 1013) (by omega)) (by omega) (ih (n - p').toNat (by omega) p' (x2 + 1) (zAdd A' 1013) (cs' ++ [1013]) (by omega) (by omega) ⟨zAdd_tx hx', hp', zAdd_tk hk', zAdd_2 h2'', zAdd_l h2'' hl', he0, by omega⟩ (zTc_and (by omega) h3)) rfl (fun z hz => ?_) (fun O' t' B hB => ?_)
        · rw [i93_48, c_addS (by omega), mB0_i, i93_58]; exact hz
        · obtain ⟨B3, z1, z2, z3, z4, z5, z6, z7⟩ := c_emits (d := d + 5) (K := K) (O := O') (t := t') (ar := ar) (A := B) (s := 14) (v := 0) hB.2.2.2.1 (by omega)
          refine ⟨B3, zLl_em (by omega) z5 z6 z7, zRl_em hB z2 (by rw [z3, z4]; unfold zCd; omega) z5 z6 z7, fun z hz => ?_⟩
          rw [i244_27, z1, mB0_i, i244_34]; exact hz
      · rw [i93_12 (by omega), if_neg (by omega), i93_19, g1, mB1_i, i93_28 (by omega), if_neg (by have := g3.2 hw; omega), i93_31, v1, mB0_i, i93_38, h, mB1_i, i93_43 (by omega), if_neg (by omega)]
        exact hz
      · obtain ⟨B1, r, z1, z2, z3, z4, z5, z6, z7⟩ := c_passes (d := d) (K := K) (O := O') (t := t') (ar := ar) (A := B) hS (s := 20) (by decide) hB.1 hp hB.2.1
        have r1 : r = 1 := z3.2 hw
        refine ⟨B1, zLl_fp z7, zRl_fp hB z7 (z5 r1), fun B' h => ?_, fun B' p' cs' h h2' => ⟨B', zLl_refl, h2', fun z hz => ?_⟩⟩
        · rw [i244_9, z1, mB1_i, i244_15 (by omega), if_neg (by omega), i244_18, h, mB1_i, i244_22 (by omega), if_pos rfl, i244_25]
        · rw [i244_9, z1, mB1_i, i244_15 (by omega), if_neg (by omega), i244_18, h, mB1_i, i244_22 (by omega), if_neg (by omega)]
          exact hz
    · refine zPlw_ok (A' := A) (p' := zBg T n p) (cs' := cs) ?_ ⟨hx, by omega, zTk_bg hp.2 hk, h2, hl, he0, by omega⟩ (by omega) hT zKl_refl (fun O' t' B hB => ?_)
      · have g0 : g = 0 := by
          rcases g2 with q | q
          · exact q
          · exact absurd (g3.1 q) hw
        rw [i93_12 (by omega)]
        by_cases c4 : 400 ≤ x2
        · rw [if_pos c4, i93_64]
        · rw [if_neg c4, i93_19, g1, mB1_i, i93_28 (by omega), if_pos g0, i93_64]
      · obtain ⟨B1, r, z1, z2, z3, z4, z5, z6, z7⟩ := c_passes (d := d) (K := K) (O := O') (t := t') (ar := ar) (A := B) hS (s := 20) (by decide) hB.1 hp hB.2.1
        have r0 : r = 0 := by
          rcases z2 with q | q
          · exact q
          · exact absurd (z3.1 q) hw
        exact ⟨B1, by rw [i244_9, z1, mB1_i, i244_15 (by omega), if_pos r0, i244_37], zLl_fp z7, zRl_fp hB z7 (z6 r0)⟩
theorem pair_cond (hS : zArs ar) {T : Int → Int} {n e0 dp : Int} (hAll : ∀ (A : Nat → Int → Int) (p : Int) (cs : List Int) (ts : List Bool), (ts.length : Int) ≤ 2 * dp + 1 → zCl A T n p e0 cs → zTc cs [] = some ts → zPlw ar K O t (d + 5) 94 0 [.ref 172, .int (zI dp), .double 0] (d + 5) 245 0 [.ref 185] A T n p e0 cs dp (true :: ts) 0) (p : Int) (cs : List Int) (ts : List Bool) (hts : (ts.length : Int) ≤ 2 * dp) (hC : zCl A T n p e0 cs) (hT : zTc cs [] = some ts) : zPlw ar K O t (d + 6) 93 0 [.ref 172, .int (zI dp), .double 0] (d + 6) 244 0 [.ref 185] A T n p e0 cs dp (true :: ts) 0 := by
  refine zPlw_then (cm := 0) (j1 := 12) (i1 := [.ref 172, .int (zI dp), .int (zI 0)]) (j2 := 9) (i2 := [.ref 185]) zKl_refl (by omega) (hAll A p cs ts (by omega) hC hT) (fun A' h => ?_) (fun A' p' cs' h1 _ h3 => cond_loop (d := d) hS hAll hts (n - p').toNat p' 0 A' cs' (by have := h1.2.1; omega) (by have := h1.2.1; omega) h1 h3) (fun A' z h hz => ?_) (fun O' t' B hB => ⟨B, zLl_refl, hB, fun B' h => ?_, fun B' p' cs' h h2' => ⟨B', zLl_refl, h2', fun z hz => ?_⟩⟩)
  · rw [i93_0, h, mB1_i, i93_5 (by omega), if_pos rfl, i93_8]
  · rw [i93_0, h, mB1_i, i93_5 (by omega), if_neg (by omega), i93_10]; exact hz
  · rw [i244_0, h, mB1_i, i244_4 (by omega), if_pos rfl, i244_7]
  · rw [i244_0, h, mB1_i, i244_4 (by omega), if_neg (by omega)]; exact hz
/-- behind ( -/
theorem atom_in1 {T : Int → Int} {n p e0 dp : Int} {cs : List Int} {ts : List Bool} {v1 : Value} (hcond : zPlw ar K O t (d + 6) 93 0 [.ref 172, .int (zI (dp + 1)), .double 0] (d + 6) 244 0 [.ref 185] A T n p e0 cs (dp + 1) (true :: ts) 0) : zPlw ar K O t (d + 7) 97 7 [.ref 172, .int (zI (dp + 1)), .int (zI 0)] (d + 8) 246 20 [.ref 185, v1] A T n p e0 cs dp (true :: ts) 0 := by
  obtain ⟨A1, r, p1, cs1, e1, e2, e3, e4, e5, e6, e7⟩ := zPlw_dp hcond (show d + 6 ≤ d + 6 by omega) (show d + 6 ≤ d + 7 by omega)
  rcases e2 with r0 | r0
  · subst r0
    refine zPlw_no (A' := A1) ?_ (e4 rfl) e5 e6 (fun O' t' B hB => ?_)
    · rw [i97_7 (by omega), if_pos rfl, i97_33, e1, mB1_i, i97_38 (by omega), if_pos rfl, i97_53]
    · obtain ⟨B', x1, x2, -, x4⟩ := e7 O' t' (zU B 185 13 (dp + 1)) (zRl_13 hB)
      refine ⟨B', ?_, zLl_trans zLl_13 x2, x4 rfl⟩
      rw [i246_20, hB.2.2.1, x1, mB1_i, i246_34 (by omega), if_pos rfl, i246_37]
  · subst r0
    obtain ⟨f1, f2, f3⟩ := e3 rfl
    obtain ⟨hx1, hp1, hk1, h21, hl1, he0, hsl1⟩ := id f1
    have hb := zBg_rng (T := T) hp1.2
    have hbh := zBh_rng (T := T) hp1.2
    obtain ⟨g, g1, g2, g3⟩ := c_isSign (d := d + 6) (K := K) (O := O) (t := t) (ar := ar) (A := A1) (c := 41) hx1 hk1 hp1 (by decide)
    have refS : ∀ (O' : Nat → Int64) (t' : Nat) (B : Nat → Int → Int), zRl B T n p e0 cs dp → ∃ B2, mGd ar (d + 8) 246 20 [.ref 185, v1] [] (zW K B O' t') = some (.inl (some (.int (zI g))), zW K B2 O' t') ∧ zLl e0 B B2 ∧ B2 185 12 = zBg T n p1 ∧ (g = 1 → zRl B2 T n (zBh T n p1) e0 cs1 dp) := fun O' t' B hB => by
      obtain ⟨B', x1, x2, x3, -⟩ := e7 O' t' (zU B 185 13 (dp + 1)) (zRl_13 hB)
      have hR := x3 rfl
      have hR2 : zRl (zU B' 185 13 dp) T n p1 e0 cs1 dp := zRl_13 hR
      obtain ⟨B2, r, z1, z2, z3, z4, z5, z6, z7⟩ := c_sign (d := d + 5) (K := K) (O := O') (t := t') (ar := ar) (A := zU B' 185 13 dp) (c := 41) hR2.1 hp1 hR2.2.1 (by decide)
      have er : r = g := by
        by_cases hz : zSi T n p1 41
        · rw [z3.2 hz, g3.2 hz]
        · have q1 : r ≠ 1 := fun q => hz (z3.1 q)
          have q2 : g ≠ 1 := fun q => hz (g3.1 q)
          omega
      subst er
      refine ⟨B2, ?_, zLl_trans zLl_13 (zLl_trans x2 (zLl_trans zLl_13 (zLl_fp z7))), z4, fun q => zRl_fp hR2 z7 (z5 q)⟩
      rw [i246_20, hB.2.2.1, x1, mB1_i, i246_34 (by omega), if_neg (by omega), i246_39, hR.2.2.1, show dp + 1 - 1 = dp by omega, z1, mB1_i, i246_55 z2]
    rcases g2 with g0 | g0
    · refine zPlw_no (A' := A1) ?_ (by rw [hk1.1]; omega) e5 e6 (fun O' t' B hB => ?_)
      · rw [i97_7 (by omega), if_pos rfl, i97_33, e1, mB1_i, i97_38 (by omega), if_neg (by omega), i97_41, g1, mB1_i, i97_50 (by omega), if_pos g0, i97_53]
      · obtain ⟨B2, x1, x2, x3, -⟩ := refS O' t' B hB
        rw [g0] at x1
        exact ⟨B2, x1, x2, by rw [x3, hk1.1]⟩
    · have hz := g3.1 g0
      have hbe := (zSi_kd hp1.2 (by decide) hz).2
      have hlt := hz.1
      obtain ⟨C, v1', v2', v3', v4', v5'⟩ := c_advance (d := d + 6) (K := K) (O := O) (t := t) (ar := ar) (A := A1) hx1 hk1.2.1 (by omega)
      refine zPlw_ok (A' := C) (p' := zBh T n p1) (cs' := cs1) ?_ ⟨v3', by omega, v2', by rw [v5' 163 (by decide)]; exact h21, by rw [v5' 167 (by decide)]; exact hl1, he0, by omega⟩ (by omega) f3 (zKl_trans e6 (zKl_1 v5')) (fun O' t' B hB => ?_)
      · rw [i97_7 (by omega), if_pos rfl, i97_33, e1, mB1_i, i97_38 (by omega), if_neg (by omega), i97_41, g1, mB1_i, i97_50 (by omega), if_neg (by omega), i97_55, v1', mB0_i, i97_62]
      · obtain ⟨B2, x1, x2, x3, x4⟩ := refS O' t' B hB
        rw [g0] at x1
        exact ⟨B2, x1, x2, x4 g0⟩
/-- behind not -/
theorem atom_in2 {T : Int → Int} {n p e0 dp : Int} {cs : List Int} {ts : List Bool} {v1 : Value} (hs2 : e0 + cs.length + 2 ≤ p) (hat : zPlw ar K O t (d + 6) 95 0 [.ref 172, .int (zI (dp + 1)), .double 0, .double 0, .double 0] (d + 6) 246 0 [.ref 185, .double 0] A T n p e0 cs (dp + 1) (true :: ts) 0) : zPlw ar K O t (d + 7) 97 7 [.ref 172, .int (zI (dp + 1)), .int (zI 1)] (d + 8) 246 76 [.ref 185, v1] A T n p e0 cs dp (true :: ts) 1 := by
  obtain ⟨A1, r, p1, cs1, e1, e2, e3, e4, e5, e6, e7⟩ := zPlw_dp hat (show d + 6 ≤ d + 6 by omega) (show d + 6 ≤ d + 7 by omega)
  rcases e2 with r0 | r0
  · subst r0
    refine zPlw_no (A' := A1) ?_ (e4 rfl) e5 e6 (fun O' t' B hB => ?_)
    · rw [i97_7 (by omega), if_neg (by omega), i97_11, e1, mB1_i, i97_16 (by omega), if_pos rfl, i97_19]
    · obtain ⟨B', x1, x2, -, x4⟩ := e7 O' t' (zU B 185 13 (dp + 1)) (zRl_13 hB)
      refine ⟨B', ?_, zLl_trans zLl_13 x2, x4 rfl⟩
      rw [i246_76, hB.2.2.1, x1, mB1_i, i246_90 (by omega), if_pos rfl, i246_93]
  · subst r0
    obtain ⟨f1, f2, f3⟩ := e3 rfl
    obtain ⟨hx1, hp1, hk1, h21, hl1, he0, hsl1⟩ := id f1
    have hn := hx1.1
    have len1 : ((cs1 ++ [1008]).length : Int) = cs1.length + 1 := by rw [List.length_append]; rfl
    refine zPlw_ok (A' := zAdd A1 1008) (p' := p1) (cs' := cs1 ++ [1008]) ?_ ⟨zAdd_tx hx1, hp1, zAdd_tk hk1, zAdd_2 h21, zAdd_l h21 hl1, he0, by omega⟩ (by omega) (zTc_not f3) (zKl_trans e6 (zAdd_kl (by omega))) (fun O' t' B hB => ?_)
    · rw [i97_7 (by omega), if_neg (by omega), i97_11, e1, mB1_i, i97_16 (by omega), if_neg (by omega), i97_21, c_addS (by omega), mB0_i, i97_31]
    · obtain ⟨B', x1, x2, x3, -⟩ := e7 O' t' (zU B 185 13 (dp + 1)) (zRl_13 hB)
      have hR := x3 rfl
      have hR2 : zRl (zU B' 185 13 dp) T n p1 e0 cs1 dp := zRl_13 hR
      obtain ⟨B3, z1, z2, z3, z4, z5, z6, z7⟩ := c_emits (d := d + 7) (K := K) (O := O') (t := t') (ar := ar) (A := zU B' 185 13 dp) (s := 12) (v := 0) hR2.2.2.2.1 (by omega)
      refine ⟨B3, ?_, zLl_trans zLl_13 (zLl_trans x2 (zLl_trans zLl_13 (zLl_em (by omega) z5 z6 z7))), zRl_em hR2 z2 (by rw [z3, z4]; unfold zCd; omega) z5 z6 z7⟩
      rw [i246_76, hB.2.2.1, x1, mB1_i, i246_90 (by omega), if_neg (by omega), i246_95, hR.2.2.1, show dp + 1 - 1 = dp by omega, z1, mB0_i, i246_112]
/-- an atom, out of what stands deeper -/
theorem atom_step (hS : zArs ar) {T : Int → Int} {n e0 dp : Int} (hd : 0 ≤ dp ∧ dp ≤ 6)
    (h1 : dp < 6 → ∀ (A : Nat → Int → Int) (p : Int) (cs : List Int) (ts : List Bool), (ts.length : Int) ≤ 2 * (dp + 1) + 2 → zCl A T n p e0 cs → zTc cs [] = some ts → zPlw ar K O t (d + 6) 95 0 [.ref 172, .int (zI (dp + 1)), .double 0, .double 0, .double 0] (d + 6) 246 0 [.ref 185, .double 0] A T n p e0 cs (dp + 1) (true :: ts) 0)
    (h2 : dp < 6 → ∀ (A : Nat → Int → Int) (p : Int) (cs : List Int) (ts : List Bool), (ts.length : Int) ≤ 2 * (dp + 1) → zCl A T n p e0 cs → zTc cs [] = some ts → zPlw ar K O t (d + 6) 93 0 [.ref 172, .int (zI (dp + 1)), .double 0] (d + 6) 244 0 [.ref 185] A T n p e0 cs (dp + 1) (true :: ts) 0)
    (p : Int) (cs : List Int) (ts : List Bool) (hts : (ts.length : Int) ≤ 2 * dp + 2) (hC : zCl A T n p e0 cs) (hT : zTc cs [] = some ts) : zPlw ar K O t (d + 8) 95 0 [.ref 172, .int (zI dp), .double 0, .double 0, .double 0] (d + 8) 246 0 [.ref 185, .double 0] A T n p e0 cs dp (true :: ts) 0 := by
  obtain ⟨hx, hp, hk, h2', hl, he0, hsl⟩ := id hC
  have hn := hx.1
  have hb := zBg_rng (T := T) hp.2
  have hbh := zBh_rng (T := T) hp.2
  obtain ⟨tb1, tb2, tb3, tb4, tb5, tb6⟩ := zTok_bg (T := T) hp.2
  obtain ⟨g, g1, g2, g3⟩ := c_isSign (d := d + 7) (K := K) (O := O) (t := t) (ar := ar) (A := A) (c := 40) hx hk hp (by decide)
  obtain ⟨s, s1, s2, s3⟩ := c_isWord (d := d + 2) (K := K) (O := O) (t := t) (ar := ar) (A := A) hS (s := 6) (s' := 22) (by decide) zJw_tab.2.2.2.2.2.2.1 (by decide) hx hk hp
  obtain ⟨C, v1, v2, v3, v4, v5⟩ := c_advance (d := d + 6) (K := K) (O := O) (t := t) (ar := ar) (A := A) hx hk.2.1 (by omega)
  have clC : p + 1 ≤ zBh T n p → zCl C T n (zBh T n p) e0 cs := fun q => ⟨v3, by omega, v2, by rw [v5 163 (by decide)]; exact h2', by rw [v5 167 (by decide)]; exact hl, he0, by omega⟩
  have inn : dp < 6 → mGd ar (d + 8) 95 26 [.ref 172, .int (zI dp), .int (zI s), .double 0, .double 0] [] (zW K A O t) = mB1 (mGd ar (d + 7) 97 7 [.ref 172, .int (zI (dp + 1)), .int (zI s)] [] (zW K C O t)) (fun y w1 => mGd ar (d + 8) 95 40 [.ref 172, .int (zI dp), .int (zI s), .double 0, .double 0] [.int y] w1) := fun h6 => by
    rw [i95_26 (by omega), if_neg (by omega), i95_32, i97_0, v1, mB0_i]
  have fin : ∀ (x r : Int) (A' : Nat → Int → Int), (r = 0 ∨ r = 1) → mB1 (some (.inl (some (.int (zI r))), zW K A' O t)) (fun y w1 => mGd ar (d + 8) 95 40 [.ref 172, .int (zI dp), .int (zI x), .double 0, .double 0] [.int y] w1) = some (.inl (some (.int (zI r))), zW K A' O t) := fun x r A' hr => by
    rw [mB1_i, i95_40 (by omega)]
    rcases hr with q | q
    · rw [if_pos q, i95_47, i95_48 (by omega), q]
    · rw [if_neg (by omega), i95_43, i95_48 (by omega), q]
  rcases g2 with g0 | g0
  · -- no bracket
    have hno : ¬ zSi T n p 40 := fun q => by have := g3.2 q; omega
    have hC1 : zCl A T n (zBg T n p) e0 cs := ⟨hx, by omega, zTk_bg hp.2 hk, h2', hl, he0, by omega⟩
    have refS : ∀ (O' : Nat → Int64) (t' : Nat) (B : Nat → Int → Int), zRl B T n p e0 cs dp → ∃ B1, mGd ar (d + 8) 246 0 [.ref 185, .double 0] [] (zW K B O' t') = mGd ar (d + 8) 246 56 [.ref 185, .double 0] [] (zW K B1 O' t') ∧ zLl e0 B B1 ∧ zRl B1 T n (zBg T n p) e0 cs dp := fun O' t' B hB => by
      obtain ⟨B1, r, z1, z2, z3, z4, z5, z6, z7⟩ := c_sign (d := d + 5) (K := K) (O := O') (t := t') (ar := ar) (A := B) (c := 40) hB.1 hp hB.2.1 (by decide)
      have r0 : r = 0 := by
        rcases z2 with q | q
        · exact q
        · exact absurd (z3.1 q) hno
      refine ⟨B1, ?_, zLl_fp z7, zRl_fp hB z7 (z6 r0)⟩
      rw [i246_0, z1, mB1_i, i246_6 (by omega), if_pos r0]
    have cls0 : mGd ar (d + 8) 95 0 [.ref 172, .int (zI dp), .double 0, .double 0, .double 0] [] (zW K A O t) = if s = 0 then mGd ar (d + 8) 95 49 [.ref 172, .int (zI dp), .int (zI s), .double 0, .double 0] [] (zW K A O t) else mGd ar (d + 8) 95 26 [.ref 172, .int (zI dp), .int (zI s), .double 0, .double 0] [] (zW K A O t) := by
      rw [i95_0, s1, mB1_i, i95_9 (by omega), i95_14, g1, mB1_i, i95_23 (by omega), if_pos g0]
    have refP : ∀ (O' : Nat → Int64) (t' : Nat) (B : Nat → Int → Int), zRl B T n p e0 cs dp → ∃ B2, mGd ar (d + 8) 246 0 [.ref 185, .double 0] [] (zW K B O' t') = (if s = 0 then mGd ar (d + 8) 246 114 [.ref 185, .double 0] [] (zW K B2 O' t') else mGd ar (d + 8) 246 65 [.ref 185, .double 0] [] (zW K B2 O' t')) ∧ zLl e0 B B2 ∧ B2 185 12 = zBg T n p ∧ (s = 0 → zRl B2 T n (zBg T n p) e0 cs dp) ∧ (s = 1 → zRl B2 T n (zBh T n p) e0 cs dp) := fun O' t' B hB => by
      obtain ⟨B1, x1, x2, x3⟩ := refS O' t' B hB
      obtain ⟨B2, r, z1, z2, z3, z4, z5, z6, z7⟩ := c_passes (d := d + 2) (K := K) (O := O') (t := t') (ar := ar) (A := B1) hS (s := 22) (by decide) x3.1 (by omega) x3.2.1
      rw [zIs_bg hp.2] at z3
      rw [tb1] at z4 z6
      rw [tb5] at z5
      have er : r = s := by
        by_cases hz : zIs T n p 22
        · rw [z3.2 hz, s3.2 hz]
        · have q1 : r ≠ 1 := fun q => hz (z3.1 q)
          have q2 : s ≠ 1 := fun q => hz (s3.1 q)
          omega
      subst er
      refine ⟨B2, ?_, zLl_trans x2 (zLl_fp z7), z4, fun q => zRl_fp x3 z7 (z6 q), fun q => zRl_fp x3 z7 (z5 q)⟩
      rw [x1, i246_56, z1, mB1_i, i246_62 (by omega)]
    rcases s2 with s0 | s0
    · rw [if_pos s0] at cls0
      refine zPlw_seq (C := A) zKl_refl (by omega) (atom_tag (d := d) (x0 := s) (v2 := .double 0) (v3 := .double 0) (v1 := .double 0) (dp := dp) hS (by omega) hC1 tb1 hT) rfl (fun z hz => by rw [cls0]; exact hz) (fun O' t' B hB => ?_)
      obtain ⟨B2, x1, x2, x3, x4, -⟩ := refP O' t' B hB
      rw [if_pos s0] at x1
      exact ⟨B2, x2, x4 s0, fun z hz => by rw [x1]; exact hz⟩
    · rw [if_neg (by omega)] at cls0
      have hw := s3.1 s0
      have kd := zIs_kd hp.2 (by decide) hw
      have bhw := zIs_bh hp.2 (by decide) hw
      by_cases h6 : dp < 6
      · refine zPlw_wrap (ck := 1) (zKl_1 v5) (by omega) (atom_in2 (d := d) (v1 := .double 0) (dp := dp) (by omega) (h1 h6 C (zBh T n p) cs ts (by omega) (clC (by omega)) hT)) (fun r A' hr hm => ?_) (fun O' t' B hB => ?_)
        · rw [cls0, inn h6, s0, hm, fin _ r A' hr]
        · obtain ⟨B2, x1, x2, x3, -, x5⟩ := refP O' t' B hB
          rw [if_neg (by omega)] at x1
          refine ⟨B2, x2, x5 s0, fun r B' hr hm => ?_⟩
          rw [x1, i246_65 (by rw [(x5 s0).2.2.1]; omega), (x5 s0).2.2.1, if_neg (by omega)]
          exact hm
      · refine zPlw_no (A' := A) ?_ (by rw [hk.1]; omega) hx zKl_refl (fun O' t' B hB => ?_)
        · rw [cls0, i95_26 (by omega), if_pos (by omega), i95_47, i95_48 (by omega)]
        · obtain ⟨B2, x1, x2, x3, -, x5⟩ := refP O' t' B hB
          rw [if_neg (by omega)] at x1
          refine ⟨B2, ?_, x2, by rw [x3, hk.1]⟩
          rw [x1, i246_65 (by rw [(x5 s0).2.2.1]; omega), (x5 s0).2.2.1, if_pos (by omega), i246_74]
  · -- a bracket
    have hz := g3.1 g0
    obtain ⟨kd3, hbe⟩ := zSi_kd hp.2 (by decide) hz
    have hlt := hz.1
    have s0 : s = 0 := by
      rcases s2 with q | q
      · exact q
      · have := zIs_kd hp.2 (by decide) (s3.1 q)
        unfold zKd at kd3
        rw [if_pos this] at kd3
        omega
    have refS : ∀ (O' : Nat → Int64) (t' : Nat) (B : Nat → Int → Int), zRl B T n p e0 cs dp → ∃ B1, mGd ar (d + 8) 246 0 [.ref 185, .double 0] [] (zW K B O' t') = mGd ar (d + 8) 246 9 [.ref 185, .double 0] [] (zW K B1 O' t') ∧ zLl e0 B B1 ∧ zRl B1 T n (zBh T n p) e0 cs dp ∧ B1 185 12 = zBg T n p := fun O' t' B hB => by
      obtain ⟨B1, r, z1, z2, z3, z4, z5, z6, z7⟩ := c_sign (d := d + 5) (K := K) (O := O') (t := t') (ar := ar) (A := B) (c := 40) hB.1 hp hB.2.1 (by decide)
      have r1 : r = 1 := z3.2 hz
      refine ⟨B1, ?_, zLl_fp z7, zRl_fp hB z7 (z5 r1), z4⟩
      rw [i246_0, z1, mB1_i, i246_6 (by omega), if_neg (by omega)]
    have cls0 : mGd ar (d + 8) 95 0 [.ref 172, .int (zI dp), .double 0, .double 0, .double 0] [] (zW K A O t) = mGd ar (d + 8) 95 26 [.ref 172, .int (zI dp), .int (zI s), .double 0, .double 0] [] (zW K A O t) := by
      rw [i95_0, s1, mB1_i, i95_9 (by omega), if_pos s0, i95_14, g1, mB1_i, i95_23 (by omega), if_neg (by omega)]
    by_cases h6 : dp < 6
    · refine zPlw_wrap (ck := 0) (zKl_1 v5) (by omega) (atom_in1 (d := d) (v1 := .double 0) (dp := dp) (h2 h6 C (zBh T n p) cs ts (by omega) (clC (by omega)) hT)) (fun r A' hr hm => ?_) (fun O' t' B hB => ?_)
      · rw [cls0, inn h6, s0, hm, fin _ r A' hr]
      · obtain ⟨B1, x1, x2, x3, x4⟩ := refS O' t' B hB
        refine ⟨B1, x2, x3, fun r B' hr hm => ?_⟩
        rw [x1, i246_9 (by rw [x3.2.2.1]; omega), x3.2.2.1, if_neg (by omega)]
        exact hm
    · refine zPlw_no (A' := A) ?_ (by rw [hk.1]; omega) hx zKl_refl (fun O' t' B hB => ?_)
      · rw [cls0, i95_26 (by omega), if_pos (by omega), i95_47, i95_48 (by omega)]
      · obtain ⟨B1, x1, x2, x3, x4⟩ := refS O' t' B hB
        refine ⟨B1, ?_, x2, by rw [x4, hk.1]⟩
        rw [x1, i246_9 (by rw [x3.2.2.1]; omega), x3.2.2.1, if_pos (by omega), i246_18]
/-- atoms at all depths -/
theorem pair_atom (hS : zArs ar) {T : Int → Int} {n e0 : Int} : ∀ (m : Nat) (D : Nat) (dp : Int), dp + m = 6 → 0 ≤ dp → 10 + 6 * m ≤ D → ∀ (A : Nat → Int → Int) (p : Int) (cs : List Int) (ts : List Bool), (ts.length : Int) ≤ 2 * dp + 2 → zCl A T n p e0 cs → zTc cs [] = some ts → zPlw ar K O t D 95 0 [.ref 172, .int (zI dp), .double 0, .double 0, .double 0] D 246 0 [.ref 185, .double 0] A T n p e0 cs dp (true :: ts) 0 := by
  intro m
  induction m with
  | zero =>
    intro D dp hm hd hD A p cs ts hts hC hT
    exact zPlw_dp (atom_step (d := 0) (K := K) (O := O) (t := t) (ar := ar) (dp := dp) hS (by omega) (fun q => by omega) (fun q => by omega) p cs ts hts hC hT) (by omega) (by omega)
  | succ m ih =>
    intro D dp hm hd hD A p cs ts hts hC hT
    obtain ⟨d, rfl⟩ : ∃ d, D = d + 8 := ⟨D - 8, by omega⟩
    obtain ⟨e, he⟩ : ∃ e, d + 6 = e + 7 := ⟨d - 1, by omega⟩
    refine atom_step (d := d) (K := K) (O := O) (t := t) (ar := ar) (dp := dp) hS (by omega) (fun _ => ih (d + 6) (dp + 1) (by omega) (by omega) (by omega)) (fun _ A p cs ts h1 h2 h3 => ?_) p cs ts hts hC hT
    rw [he]
    exact pair_cond (d := e + 1) hS (fun A p cs ts h1 h2 h3 => pair_all (d := e) hS (ih (e + 5) (dp + 1) (by omega) (by omega) (by omega)) p cs ts h1 h2 h3) p cs ts h1 h2 h3
theorem pair_condition (hS : zArs ar) {T : Int → Int} {n e0 : Int} (p : Int) (cs : List Int) (hC : zCl A T n p e0 cs) (hT : zTc cs [] = some []) : zPlw ar K O t (d + 60) 93 0 [.ref 172, .int (zI 0), .double 0] (d + 60) 244 0 [.ref 185] A T n p e0 cs 0 [true] 0 :=
  pair_cond (d := d + 54) hS (fun A p cs ts h1 h2 h3 => pair_all (d := d + 53) hS (pair_atom hS 6 (d + 58) 0 (by omega) (by omega) (by omega)) p cs ts h1 h2 h3) p cs [] (by decide) hC hT
end COND
