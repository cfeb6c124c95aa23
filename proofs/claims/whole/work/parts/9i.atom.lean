/-! TEXTS, 13: atoms -/
section ATOM
variable {ar : Nat → Nat × (Nat → Int32)} {d t : Nat} {K : Nat → Nat → Option Nat} {A : Nat → Int → Int} {O : Nat → Int64}
theorem zPlw_wrap {D1 M1 c1 D2 M2 c2 E1 N1 k1 E2 N2 k2 : Nat} {l1 l2 m1 m2 : List Value} {T : Int → Int} {n p q e0 dp cr ck : Int} {cs cq : List Int} {ts : List Bool} {C : Nat → Int → Int} (hk : zKl e0 A C) (hpq : p ≤ q ∧ (cq.length : Int) + p + ck ≤ cs.length + q + cr) (hP : zPlw ar K O t D1 M1 c1 l1 D2 M2 c2 l2 C T n q e0 cq dp ts ck) (hc : ∀ (r : Int) (A' : Nat → Int → Int), (r = 0 ∨ r = 1) → mGd ar D1 M1 c1 l1 [] (zW K C O t) = some (.inl (some (.int (zI r))), zW K A' O t) → mGd ar E1 N1 k1 m1 [] (zW K A O t) = some (.inl (some (.int (zI r))), zW K A' O t)) (hr : ∀ (O' : Nat → Int64) (t' : Nat) (B : Nat → Int → Int), zRl B T n p e0 cs dp → ∃ B2, zLl e0 B B2 ∧ zRl B2 T n q e0 cq dp ∧ ∀ (r : Int) (B' : Nat → Int → Int), (r = 0 ∨ r = 1) → mGd ar D2 M2 c2 l2 [] (zW K B2 O' t') = some (.inl (some (.int (zI r))), zW K B' O' t') → mGd ar E2 N2 k2 m2 [] (zW K B O' t') = some (.inl (some (.int (zI r))), zW K B' O' t')) : zPlw ar K O t E1 N1 k1 m1 E2 N2 k2 m2 A T n p e0 cs dp ts cr := by
  obtain ⟨A', r, p', cs', e1, e2, e3, e4, e5, e6, e7⟩ := hP
  refine ⟨A', r, p', cs', hc r A' e2 e1, e2, fun q => ⟨(e3 q).1, by have := (e3 q).2.1; omega, (e3 q).2.2⟩, e4, e5, zKl_trans hk e6, fun O' t' B b1 => ?_⟩
  obtain ⟨B2, y1, y2, y3⟩ := hr O' t' B b1
  obtain ⟨B', x1, x2, x3⟩ := e7 O' t' B2 y2
  exact ⟨B', y3 r B' e2 x1, zLl_trans y1 x2, x3⟩
theorem zPlw_then {D1 M1 D2 M2 E1 N1 k1 j1 E2 N2 k2 j2 : Nat} {l1 l2 m1 m2 i1 i2 : List Value} {T : Int → Int} {n p q e0 dp dq cr ck cm : Int} {cs cq : List Int} {ts ts1 : List Bool} {C : Nat → Int → Int} (hk : zKl e0 A C) (hpq : p ≤ q ∧ (cq.length : Int) + p + ck + cm ≤ cs.length + q + cr) (hP : zPlw ar K O t D1 M1 0 l1 D2 M2 0 l2 C T n q e0 cq dq ts1 ck)
    (hc0 : ∀ A' : Nat → Int → Int, mGd ar D1 M1 0 l1 [] (zW K C O t) = some (.inl (some (.int (zI 0))), zW K A' O t) → mGd ar E1 N1 k1 m1 [] (zW K A O t) = some (.inl (some (.int (zI 0))), zW K A' O t))
    (hy : ∀ (A' : Nat → Int → Int) (p' : Int) (cs' : List Int), zCl A' T n p' e0 cs' → (q ≤ p' ∧ (cs'.length : Int) + q ≤ cq.length + p' + ck) → zTc cs' [] = some ts1 → zPlw ar K O t E1 N1 j1 i1 E2 N2 j2 i2 A' T n p' e0 cs' dp ts cm)
    (hc1 : ∀ (A' : Nat → Int → Int) z, mGd ar D1 M1 0 l1 [] (zW K C O t) = some (.inl (some (.int (zI 1))), zW K A' O t) → mGd ar E1 N1 j1 i1 [] (zW K A' O t) = some z → mGd ar E1 N1 k1 m1 [] (zW K A O t) = some z)
    (hr : ∀ (O' : Nat → Int64) (t' : Nat) (B : Nat → Int → Int), zRl B T n p e0 cs dp → ∃ B0, zLl e0 B B0 ∧ zRl B0 T n q e0 cq dq ∧ (∀ B' : Nat → Int → Int, mGd ar D2 M2 0 l2 [] (zW K B0 O' t') = some (.inl (some (.int (zI 0))), zW K B' O' t') → mGd ar E2 N2 k2 m2 [] (zW K B O' t') = some (.inl (some (.int (zI 0))), zW K B' O' t')) ∧ ∀ (B' : Nat → Int → Int) (p' : Int) (cs' : List Int), mGd ar D2 M2 0 l2 [] (zW K B0 O' t') = some (.inl (some (.int (zI 1))), zW K B' O' t') → zRl B' T n p' e0 cs' dq → ∃ B2, zLl e0 B' B2 ∧ zRl B2 T n p' e0 cs' dp ∧ ∀ z, mGd ar E2 N2 j2 i2 [] (zW K B2 O' t') = some z → mGd ar E2 N2 k2 m2 [] (zW K B O' t') = some z) : zPlw ar K O t E1 N1 k1 m1 E2 N2 k2 m2 A T n p e0 cs dp ts cr := by
  obtain ⟨A1, r, p1, cs1, e1, e2, e3, e4, e5, e6, e7⟩ := hP
  rcases e2 with r0 | r0
  · subst r0
    refine zPlw_no (A' := A1) (hc0 A1 e1) (e4 rfl) e5 (zKl_trans hk e6) (fun O' t' B hB => ?_)
    obtain ⟨B0, y1, y2, y3, -⟩ := hr O' t' B hB
    obtain ⟨B', x1, x2, -, x4⟩ := e7 O' t' B0 y2
    exact ⟨B', y3 B' x1, zLl_trans y1 x2, x4 rfl⟩
  · subst r0
    obtain ⟨f1, f2, f3⟩ := e3 rfl
    obtain ⟨A2, r2, p2, cs2, g1, g2, g3, g4, g5, g6, g7⟩ := hy A1 p1 cs1 f1 f2 f3
    refine ⟨A2, r2, p2, cs2, hc1 A1 _ e1 g1, g2, fun q => ⟨(g3 q).1, by have := (g3 q).2.1; omega, (g3 q).2.2⟩, g4, g5, zKl_trans hk (zKl_trans e6 g6), fun O' t' B hB => ?_⟩
    obtain ⟨B0, y1, y2, -, y4⟩ := hr O' t' B hB
    obtain ⟨B', x1, x2, x3, -⟩ := e7 O' t' B0 y2
    obtain ⟨B2, z1, z2, z3⟩ := y4 B' p1 cs1 x1 (x3 rfl)
    obtain ⟨B3, w1, w2, w3⟩ := g7 O' t' B2 z2
    exact ⟨B3, z3 _ w1, zLl_trans y1 (zLl_trans x2 (zLl_trans z1 w2)), w3⟩
/-- behind < or > -/
theorem atom_tail (hS : zArs ar) {T : Int → Int} {n p e0 dp x0 x2 c x1 : Int} {cs : List Int} {ts : List Bool} (hts : ts.length ≤ 15) (hC : zCl A T n p e0 cs) (hs2 : e0 + cs.length + 2 ≤ p) (hT : zTc cs [] = some (false :: ts)) (hc : (c = 1010 ∧ x1 = 1) ∨ (c = 1011 ∧ x1 = 0)) : zPlw ar K O t (d + 8) 95 148 [.ref 172, .int (zI dp), .int (zI x0), .int (zI x2), .int (zI c)] (d + 8) 246 152 [.ref 185, .int (zI x1)] A T n p e0 cs dp (true :: ts) 1 := by
  obtain ⟨hx, hp, hk, h2, hl, he0, hsl⟩ := id hC
  obtain ⟨A1, r, p1, cs1, e1, e2, e3, e4, e5, e6, e7⟩ := pair_sum (d := d + 1) (K := K) (O := O) (t := t) (ar := ar) (dp := dp) (ts := false :: ts) hS (by rw [List.length_cons]; omega) hC hT
  rcases e2 with r0 | r0
  · subst r0
    refine zPlw_no (A' := A1) ?_ (e4 rfl) e5 e6 (fun O' t' B hB => ?_)
    · rw [i95_148, e1, mB1_i, i95_152 (by omega), if_pos rfl, i95_155]
    · obtain ⟨B', x1', x2', -, x4'⟩ := e7 O' t' B hB
      exact ⟨B', by rw [i246_152, x1', mB1_i, i246_156 (by omega), if_pos rfl, i246_159], x2', x4' rfl⟩
  · subst r0
    obtain ⟨f1, f2, f3⟩ := e3 rfl
    obtain ⟨hx1, hp1, hk1, h21, hl1, -, hsl1⟩ := id f1
    have hn := hx1.1
    have len1 : ((cs1 ++ [c]).length : Int) = cs1.length + 1 := by rw [List.length_append]; rfl
    refine zPlw_ok (A' := zAdd A1 c) (p' := p1) (cs' := cs1 ++ [c]) ?_ ⟨zAdd_tx hx1, hp1, zAdd_tk hk1, zAdd_2 h21, zAdd_l h21 hl1, he0, by omega⟩ (by omega) (zTc_cmp (by omega) f3) (zKl_trans e6 (zAdd_kl (by omega))) (fun O' t' B hB => ?_)
    · rw [i95_148, e1, mB1_i, i95_152 (by omega), if_neg (by omega), i95_157, c_addS (by omega), mB0_i, i95_166]
    · obtain ⟨B', x1', x2', x3', -⟩ := e7 O' t' B hB
      have hR := x3' rfl
      rcases hc with ⟨hc1, hx1'⟩ | ⟨hc1, hx1'⟩
      · obtain ⟨B3, z1, z2, z3, z4, z5, z6, z7⟩ := c_emits (d := d + 7) (K := K) (O := O') (t := t') (ar := ar) (A := B') (s := 10) (v := 0) hR.2.2.2.1 (by omega)
        refine ⟨B3, ?_, zLl_trans x2' (zLl_em (by omega) z5 z6 z7), zRl_em hR z2 (by rw [z3, z4]; unfold zCd; omega) z5 z6 z7⟩
        rw [i246_152, x1', mB1_i, i246_156 (by omega), if_neg (by omega), i246_161 (by omega), if_neg (by omega), i246_166, i246_173, z1, mB0_i, i246_177]
      · obtain ⟨B3, z1, z2, z3, z4, z5, z6, z7⟩ := c_emits (d := d + 7) (K := K) (O := O') (t := t') (ar := ar) (A := B') (s := 11) (v := 0) hR.2.2.2.1 (by omega)
        refine ⟨B3, ?_, zLl_trans x2' (zLl_em (by omega) z5 z6 z7), zRl_em hR z2 (by rw [z3, z4]; unfold zCd; omega) z5 z6 z7⟩
        rw [i246_152, x1', mB1_i, i246_156 (by omega), if_neg (by omega), i246_161 (by omega), if_pos hx1', i246_171, i246_173, z1, mB0_i, i246_177]
/-- behind the first sum -/
theorem atom_mid (hS : zArs ar) {T : Int → Int} {n p e0 dp x0 x2 : Int} {cs : List Int} {ts : List Bool} {v3 v1 : Value} (hts : ts.length ≤ 15) (hC : zCl A T n p e0 cs) (hT : zTc cs [] = some (false :: ts)) : zPlw ar K O t (d + 8) 95 92 [.ref 172, .int (zI dp), .int (zI x0), .int (zI x2), v3] (d + 8) 246 132 [.ref 185, v1] A T n p e0 cs dp (true :: ts) 0 := by
  obtain ⟨hx, hp, hk, h2, hl, he0, hsl⟩ := id hC
  have hn := hx.1
  have hb := zBg_rng (T := T) hp.2
  have hbh := zBh_rng (T := T) hp.2
  obtain ⟨tb1, tb2, tb3, tb4, tb5, tb6⟩ := zTok_bg (T := T) hp.2
  obtain ⟨g, g1, g2, g3⟩ := c_isSign (d := d + 7) (K := K) (O := O) (t := t) (ar := ar) (A := A) (c := 60) hx hk hp (by decide)
  obtain ⟨m, m1, m2, m3⟩ := c_isSign (d := d + 7) (K := K) (O := O) (t := t) (ar := ar) (A := A) (c := 62) hx hk hp (by decide)
  obtain ⟨C, v1', v2', v3', v4', v5'⟩ := c_advance (d := d + 7) (K := K) (O := O) (t := t) (ar := ar) (A := A) hx hk.2.1 (by omega)
  have clC : zBg T n p < n → zBh T n p = zBg T n p + 1 → zCl C T n (zBh T n p) e0 cs := fun q1 q2 => ⟨v3', by omega, v2', by rw [v5' 163 (by decide)]; exact h2, by rw [v5' 167 (by decide)]; exact hl, he0, by omega⟩
  rcases g2 with g0 | g0
  · have hno : ¬ zSi T n p 60 := fun q => by have := g3.2 q; omega
    have refS : ∀ (O' : Nat → Int64) (t' : Nat) (B : Nat → Int → Int), zRl B T n p e0 cs dp → ∃ B2, zLl e0 B B2 ∧ B2 185 12 = zBg T n p ∧ (m = 1 → zRl B2 T n (zBh T n p) e0 cs dp) ∧ mGd ar (d + 8) 246 132 [.ref 185, v1] [] (zW K B O' t') = (if m = 0 then some (.inl (some (.int (zI 0))), zW K B2 O' t') else mGd ar (d + 8) 246 152 [.ref 185, .int (zI 0)] [] (zW K B2 O' t')) := fun O' t' B hB => by
      obtain ⟨B1, r, z1, z2, z3, z4, z5, z6, z7⟩ := c_sign (d := d + 5) (K := K) (O := O') (t := t') (ar := ar) (A := B) (c := 60) hB.1 hp hB.2.1 (by decide)
      have r0 : r = 0 := by
        rcases z2 with q | q
        · exact q
        · exact absurd (z3.1 q) hno
      have hR1 : zRl B1 T n (zBg T n p) e0 cs dp := zRl_fp hB z7 (z6 r0)
      obtain ⟨B2, r', w1, w2, w3, w4, w5, w6, w7⟩ := c_sign (d := d + 5) (K := K) (O := O') (t := t') (ar := ar) (A := B1) (c := 62) hR1.1 (by omega) hR1.2.1 (by decide)
      rw [zSi_bg hp.2] at w3
      rw [tb1] at w4
      rw [tb5] at w5
      have er : r' = m := by
        by_cases hz : zSi T n p 62
        · rw [w3.2 hz, m3.2 hz]
        · have q1 : r' ≠ 1 := fun q => hz (w3.1 q)
          have q2 : m ≠ 1 := fun q => hz (m3.1 q)
          omega
      refine ⟨B2, zLl_trans (zLl_fp z7) (zLl_fp w7), w4, fun q => zRl_fp hR1 w7 (w5 (by omega)), ?_⟩
      rw [i246_132, z1, mB1_i, i246_138 (by omega), if_pos r0, r0, i246_143, w1, mB1_i, i246_149 (by omega), er, i246_159]
    have cls : mGd ar (d + 8) 95 92 [.ref 172, .int (zI dp), .int (zI x0), .int (zI x2), v3] [] (zW K A O t) = if m = 0 then some (.inl (some (.int (zI 0))), zW K A O t) else mGd ar (d + 8) 95 148 [.ref 172, .int (zI dp), .int (zI x0), .int (zI x2), .int (zI 1011)] [] (zW K C O t) := by
      rw [i95_92, g1, mB1_i, i95_101 (by omega), if_pos g0, i95_104, m1, mB1_i, i95_113 (by omega), i95_116]
      rcases m2 with q | q
      · rw [if_pos q, if_pos q]
      · rw [if_neg (by omega), if_neg (by omega), i95_118, g1, mB1_i, i95_127 (by omega), if_pos g0, i95_136, i95_139, v1', mB0_i]
    rcases m2 with m0 | m0
    · rw [if_pos m0] at cls
      refine zPlw_no (A' := A) cls (by rw [hk.1]; omega) hx zKl_refl (fun O' t' B hB => ?_)
      obtain ⟨B2, x1, x2, -, x4⟩ := refS O' t' B hB
      rw [if_pos m0] at x4
      exact ⟨B2, x4, x1, by rw [x2, hk.1]⟩
    · rw [if_neg (by omega)] at cls
      have hz := m3.1 m0
      have hbe := (zSi_kd hp.2 (by decide) hz).2
      have cl := clC hz.1 hbe
      refine zPlw_seq (zKl_1 v5') (by omega) (atom_tail (d := d) (x0 := x0) (x2 := x2) (c := 1011) (x1 := 0) (dp := dp) hS hts cl (by omega) hT (by omega)) rfl (fun z hz => by rw [cls]; exact hz) (fun O' t' B hB => ?_)
      obtain ⟨B2, x1, x2, x3, x4⟩ := refS O' t' B hB
      rw [if_neg (by omega)] at x4
      exact ⟨B2, x1, x3 m0, fun z hz => by rw [x4]; exact hz⟩
  · have hz := g3.1 g0
    have hbe := (zSi_kd hp.2 (by decide) hz).2
    have cl := clC hz.1 hbe
    refine zPlw_seq (zKl_1 v5') (by omega) (atom_tail (d := d) (x0 := x0) (x2 := x2) (c := 1010) (x1 := 1) (dp := dp) hS hts cl (by omega) hT (by omega)) rfl (fun z hz => ?_) (fun O' t' B hB => ?_)
    · rw [i95_92, g1, mB1_i, i95_101 (by omega), if_neg (by omega), i95_118, g1, mB1_i, i95_127 (by omega), if_neg (by omega), i95_130, i95_139, v1', mB0_i]
      exact hz
    · obtain ⟨B1, r, z1, z2, z3, z4, z5, z6, z7⟩ := c_sign (d := d + 5) (K := K) (O := O') (t := t') (ar := ar) (A := B) (c := 60) hB.1 hp hB.2.1 (by decide)
      have r1 : r = 1 := z3.2 hz
      refine ⟨B1, zLl_fp z7, zRl_fp hB z7 (z5 r1), fun z hz => ?_⟩
      rw [i246_132, z1, mB1_i, i246_138 (by omega), if_neg (by omega), r1]
      exact hz
/-- a comparison -/
theorem atom_sum (hS : zArs ar) {T : Int → Int} {n p e0 dp x0 x2 : Int} {cs : List Int} {ts : List Bool} {v3 v1 : Value} (hts : ts.length ≤ 15) (hC : zCl A T n p e0 cs) (hT : zTc cs [] = some ts) : zPlw ar K O t (d + 8) 95 85 [.ref 172, .int (zI dp), .int (zI x0), .int (zI x2), v3] (d + 8) 246 123 [.ref 185, v1] A T n p e0 cs dp (true :: ts) 0 := by
  refine zPlw_then (cm := 0) (j1 := 92) (i1 := [.ref 172, .int (zI dp), .int (zI x0), .int (zI x2), v3]) (j2 := 132) (i2 := [.ref 185, v1]) zKl_refl (by omega) (pair_sum (d := d + 1) (dp := dp) hS (by omega) hC hT) (fun A' h => ?_) (fun A' p' cs' h1 _ h3 => atom_mid (d := d) (x0 := x0) (x2 := x2) hS hts h1 h3) (fun A' z h h2 => ?_) (fun O' t' B hB => ⟨B, zLl_refl, hB, fun B' h => ?_, fun B' p' cs' h h2 => ⟨B', zLl_refl, h2, fun z hz => ?_⟩⟩)
  · rw [i95_85, h, mB1_i, i95_89 (by omega), if_pos rfl, i95_116]
  · rw [i95_85, h, mB1_i, i95_89 (by omega), if_neg (by omega)]; exact h2
  · rw [i246_123, h, mB1_i, i246_127 (by omega), if_pos rfl, i246_130]
  · rw [i246_123, h, mB1_i, i246_127 (by omega), if_neg (by omega)]; exact hz
/-- above, below, or a comparison -/
theorem atom_tag (hS : zArs ar) {T : Int → Int} {n p e0 dp x0 : Int} {cs : List Int} {ts : List Bool} {v2 v3 v1 : Value} (hts : ts.length ≤ 15) (hC : zCl A T n p e0 cs) (hpb : zBg T n p = p) (hT : zTc cs [] = some ts) : zPlw ar K O t (d + 8) 95 49 [.ref 172, .int (zI dp), .int (zI x0), v2, v3] (d + 8) 246 114 [.ref 185, v1] A T n p e0 cs dp (true :: ts) 0 := by
  obtain ⟨hx, hp, hk, h2, hl, he0, hsl⟩ := id hC
  have hn := hx.1
  have hb := zBg_rng (T := T) hp.2
  have hbh := zBh_rng (T := T) hp.2
  have ca := c_among (d := d + 3) (K := K) (O := O) (t := t) (ar := ar) hS (s := 7) (by decide) zJw_tab.2.2.2.2.2.2.2.1 (by simp) (by decide) hx hk hp
  have fr := zFi_rng (T := T) (n := n) (p := p) (L := [23, 24]) (k := 0)
  have hlen : (([23, 24] : List Nat).length : Int) = 2 := rfl
  rw [hlen] at fr
  have fdef : zFi T n p [23, 24] 0 = @ite Int (zIs T n p 23) (Classical.propDecidable _) 0 (@ite Int (zIs T n p 24) (Classical.propDecidable _) 1 (-1)) := rfl
  have refL : ∀ (O' : Nat → Int64) (t' : Nat) (B : Nat → Int → Int), zRl B T n p e0 cs dp → ∃ B2, zFp B B2 ∧ B2 185 10 = zWe T n p ∧ B2 185 12 = zBg T n p ∧ ∀ f, zFi T n p [23, 24] 0 = f → mGd ar (d + 7) 249 0 [.ref 185, .double 0] [] (zW K B O' t') = mGd ar (d + 7) 249 33 [.ref 185, .double 0] [.int (zI (if f = -1 then -1 else 6 + f))] (zW K B2 O' t') := fun O' t' B hB => by
    obtain ⟨B2, y1, y2, y3, y4⟩ := c_letters (d := d + 4) (K := K) (O := O') (t := t') (ar := ar) (A := B) hB.1 hB.2.1 hp
    have tr2 := zTr_fp hB.1 y4
    refine ⟨B2, y4, y2, y3, fun f hf => ?_⟩
    rw [fdef] at hf
    rw [i249_0, y1, mB0_i, i249_4]
    by_cases a1 : zIs T n p 23
    · rw [if_pos a1] at hf
      have yes := c_rW (d := d + 2) (K := K) (O := O') (t := t') (ar := ar) hS (s := 23) (by decide) tr2 hp y3 y2 a1
      rw [yes, mB1_i, i249_10 (by omega), if_neg (by omega), i249_13, ← hf, if_neg (by omega)]
      rfl
    · rw [if_neg a1] at hf
      have no := c_rNW (d := d + 2) (K := K) (O := O') (t := t') (ar := ar) hS (s := 23) (by decide) tr2 hp y3 y2 a1
      rw [no, mB1_i, i249_10 (by omega), if_pos rfl, i249_18]
      by_cases a2 : zIs T n p 24
      · rw [if_pos a2] at hf
        have yes := c_rW (d := d + 2) (K := K) (O := O') (t := t') (ar := ar) hS (s := 24) (by decide) tr2 hp y3 y2 a2
        rw [yes, mB1_i, i249_24 (by omega), if_neg (by omega), i249_27, ← hf, if_neg (by omega)]
        rfl
      · rw [if_neg a2] at hf
        have no := c_rNW (d := d + 2) (K := K) (O := O') (t := t') (ar := ar) hS (s := 24) (by decide) tr2 hp y3 y2 a2
        rw [no, mB1_i, i249_24 (by omega), if_pos rfl, i249_32, ← hf, if_pos rfl]
  generalize hff : zFi T n p [23, 24] 0 = f at ca fr
  by_cases hf : f = -1
  · refine zPlw_seq (C := A) zKl_refl (by omega) (atom_sum (d := d) (x0 := x0) (x2 := f) (v3 := v3) (v1 := v1) (dp := dp) hS hts hC hT) rfl (fun z hz => ?_) (fun O' t' B hB => ?_)
    · rw [i95_49, ca, mB1_i, i95_58 (by omega), if_pos hf]; exact hz
    · obtain ⟨B2, y1, y2, y3, y4⟩ := refL O' t' B hB
      have q := y4 f hff
      rw [if_pos hf] at q
      refine ⟨zU B2 185 10 (zBg T n p), zLl_trans (zLl_fp y1) (zLl_fp zFp_10), zRl_fp hB (zFp_trans y1 zFp_10) (by rw [zU_at, hpb]), fun z hz => ?_⟩
      rw [i246_114, q, i249_33 (by omega), if_pos (by omega), i249_47, y3, i249_55 (by omega), if_pos (by omega), i249_63, i249_64 (by omega), mB1_i, i246_118 (by omega), if_pos rfl]
      exact hz
  · have kd : zBg T n p < zWe T n p := by
      by_cases q : zBg T n p < zWe T n p
      · exact q
      · exact absurd (zFi_no (L := [23, 24]) (k := 0) hp.2 q (by decide)) (by rw [hff]; exact hf)
    have bhw : zBh T n p = zWe T n p := by unfold zBh; rw [if_pos kd]
    have len1 : ((cs ++ [1006 + f]).length : Int) = cs.length + 1 := by rw [List.length_append]; rfl
    obtain ⟨D, w1, w2, w3, w4, w5⟩ := c_advance (d := d + 7) (K := K) (O := O) (t := t) (ar := ar) (A := zAdd A (1006 + f)) (p := zBh T n p) (zAdd_tx hx) (by rw [zAdd_1.1]; exact hk.2.1) (by omega)
    have hT1 : zTc (cs ++ [1006 + f]) [] = some (true :: ts) := by
      have := zTc_push (c := 1006 + f) hT (by omega) (by omega)
      rw [decide_eq_true (show 1006 ≤ 1006 + f by omega)] at this
      exact this
    refine zPlw_ok (A' := D) (p' := zBh T n p) (cs' := cs ++ [1006 + f]) ?_ ⟨w3, by omega, w2, by rw [w5 163 (by decide)]; exact zAdd_2 h2, by rw [w5 167 (by decide)]; exact zAdd_l h2 hl, he0, by omega⟩ (by omega) hT1 (zKl_trans (zAdd_kl (by omega)) (zKl_1 w5)) (fun O' t' B hB => ?_)
    · rw [i95_49, ca, mB1_i, i95_58 (by omega), if_neg hf, i95_64, c_addS (by omega), mB0_i, i95_76, w1, mB0_i, i95_83]
    · obtain ⟨B2, y1, y2, y3, y4⟩ := refL O' t' B hB
      have q := y4 f hff
      rw [if_neg hf] at q
      have hR2 : zRl B2 T n (zBh T n p) e0 cs dp := zRl_fp hB y1 (by rw [y2, bhw])
      obtain ⟨B3, z1, z2, z3, z4, z5, z6, z7⟩ := c_emits (d := d + 6) (K := K) (O := O') (t := t') (ar := ar) (A := B2) (s := 6 + f) (v := 0) hR2.2.2.2.1 (by omega)
      refine ⟨B3, ?_, zLl_trans (zLl_fp y1) (zLl_em (by omega) z5 z6 z7), zRl_em hR2 z2 (by rw [z3, z4]; unfold zCd; omega) z5 z6 z7⟩
      rw [i246_114, q, i249_33 (by omega), if_neg (by omega), i249_38, z1, mB0_i, i249_44, i249_55 (by omega), if_neg (by omega), i249_59, i249_64 (by omega), mB1_i, i246_118 (by omega), if_neg (by omega), i246_121]
end ATOM
