/-! TEXTS, 12: sums -/
theorem zTok_bg {T : Int → Int} {n p : Int} (hp : p ≤ n) : zBg T n (zBg T n p) = zBg T n p ∧ zWe T n (zBg T n p) = zWe T n p ∧ zDe T n (zBg T n p) = zDe T n p ∧ zKd T n (zBg T n p) = zKd T n p ∧ zBh T n (zBg T n p) = zBh T n p ∧ zVl T n (zBg T n p) = zVl T n p := by
  have e := zBg_bg (T := T) hp
  unfold zKd zBh zVl zWe zDe
  rw [e]
  exact ⟨rfl, rfl, rfl, rfl, rfl, rfl⟩
theorem zIs_bg {T : Int → Int} {n p : Int} (hp : p ≤ n) {s : Nat} : zIs T n (zBg T n p) s ↔ zIs T n p s := by
  obtain ⟨e1, e2, -⟩ := zTok_bg (T := T) hp
  unfold zIs zIw
  rw [e1, e2]
theorem zNm_bg {T : Int → Int} {n p lo hi : Int} (hp : p ≤ n) : zNm T n (zBg T n p) lo hi ↔ zNm T n p lo hi := by
  obtain ⟨-, -, -, e4, -, e6⟩ := zTok_bg (T := T) hp
  unfold zNm
  rw [e4, e6]
theorem zSi_bg {T : Int → Int} {n p c : Int} (hp : p ≤ n) : zSi T n (zBg T n p) c ↔ zSi T n p c := by
  obtain ⟨e1, -⟩ := zTok_bg (T := T) hp
  unfold zSi
  rw [e1]
/-- a part of a sum; its sign -/
def zPrt (T : Int → Int) (n p : Int) : Prop := zFi T n p [25, 26, 27, 28, 29, 30] 0 ≠ -1 ∨ zNm T n p 0 999
noncomputable def zPc (T : Int → Int) (n p : Int) : Int := if zFi T n p [25, 26, 27, 28, 29, 30] 0 = -1 then zVl T n p else 1000 + zFi T n p [25, 26, 27, 28, 29, 30] 0
theorem zPc_rng {T : Int → Int} {n p : Int} (h : zPrt T n p) : 0 ≤ zPc T n p ∧ zPc T n p < 1006 := by
  have fr := zFi_rng (T := T) (n := n) (p := p) (L := [25, 26, 27, 28, 29, 30]) (k := 0)
  have hlen : (([25, 26, 27, 28, 29, 30] : List Nat).length : Int) = 6 := rfl
  rw [hlen] at fr
  unfold zPc
  by_cases hf : zFi T n p [25, 26, 27, 28, 29, 30] 0 = -1
  · rw [if_pos hf]
    rcases h with h | h
    · exact absurd hf h
    · have := h.2; omega
  · rw [if_neg hf]; omega
theorem zPrt_bh {T : Int → Int} {n p : Int} (hp : p ≤ n) (h : zPrt T n p) : zBg T n p < zBh T n p ∧ zBg T n p < n := by
  have hw := zWe_rng (T := T) hp
  have hd := zDe_rng (T := T) hp
  rcases h with h | h
  · have kd : zBg T n p < zWe T n p := by
      by_cases q : zBg T n p < zWe T n p
      · exact q
      · exact absurd (zFi_no hp q (by decide)) h
    unfold zBh
    rw [if_pos kd]
    omega
  · have h1 := h.1
    unfold zKd at h1
    unfold zBh
    split at h1
    · omega
    · next q =>
      rw [if_neg q]
      split at h1
      · next q2 => rw [if_pos q2]; omega
      · split at h1 <;> omega
section SUM
variable {ar : Nat → Nat × (Nat → Int32)} {d t : Nat} {K : Nat → Nat → Option Nat} {A : Nat → Int → Int} {O : Nat → Int64}
theorem c_partC (hS : zArs ar) {T : Int → Int} {n p x1 : Int} {v2 : Value} (hx : zTx A T n) (hk : zTk A T n p) (hp : 0 ≤ p ∧ p ≤ n) (h2 : 0 ≤ A 163 2 ∧ A 163 2 < 400) (h1 : 0 ≤ x1 ∧ x1 < 400) : (zPrt T n p ∧ ∃ x2, mGd ar (d + 5) 99 2 [.ref 172, .int (zI x1), v2] [] (zW K A O t) = mGd ar (d + 5) 99 67 [.ref 172, .int (zI x1), .int (zI x2)] [] (zW K (zAdd A (zPc T n p)) O t)) ∨ (¬ zPrt T n p ∧ mGd ar (d + 5) 99 2 [.ref 172, .int (zI x1), v2] [] (zW K A O t) = some (.inl (some (.int (zI 0))), zW K A O t)) := by
  have ca := c_among (d := d) (K := K) (O := O) (t := t) (ar := ar) hS (s := 8) (by decide) zJw_tab.2.2.2.2.2.2.2.2 (by simp) (by decide) hx hk hp
  have fr := zFi_rng (T := T) (n := n) (p := p) (L := [25, 26, 27, 28, 29, 30]) (k := 0)
  have hlen : (([25, 26, 27, 28, 29, 30] : List Nat).length : Int) = 6 := rfl
  rw [hlen] at fr
  have st : mGd ar (d + 5) 99 2 [.ref 172, .int (zI x1), v2] [] (zW K A O t) = if zFi T n p [25, 26, 27, 28, 29, 30] 0 = -1 then mGd ar (d + 5) 99 24 [.ref 172, .int (zI x1), .int (zI ((zFi T n p [25, 26, 27, 28, 29, 30] 0)))] [] (zW K A O t) else mGd ar (d + 5) 99 40 [.ref 172, .int (zI x1), .int (zI ((zFi T n p [25, 26, 27, 28, 29, 30] 0)))] [] (zW K A O t) := by
    rw [i99_2 (by omega), if_neg (by omega), i99_9, ca, mB1_i, i99_18 (by omega)]
  have hpc : zPc T n p = if zFi T n p [25, 26, 27, 28, 29, 30] 0 = -1 then zVl T n p else 1000 + zFi T n p [25, 26, 27, 28, 29, 30] 0 := rfl
  rw [st, hpc]
  unfold zPrt
  generalize zFi T n p [25, 26, 27, 28, 29, 30] 0 = f at fr
  by_cases hf : f = -1
  · rw [if_pos hf, if_pos hf]
    obtain ⟨r, r1, r2, r3⟩ := c_isNumber (d := d + 4) (K := K) (O := O) (t := t) (ar := ar) (lo := 0) (hi := 999) hk hp.2 (by omega)
    by_cases hN : zNm T n p 0 999
    · left
      refine ⟨Or.inr hN, f, ?_⟩
      rw [i99_24, r1, mB1_i, i99_35 (by omega), if_neg (by have := r3.2 hN; omega), i99_40 (by omega), if_pos hf, i99_49, hk.2.2.2, i99_64, c_addS h2, mB0_i]
    · right
      refine ⟨fun q => ?_, ?_⟩
      · rcases q with q | q
        · exact q hf
        · exact hN q
      · have : r = 0 := by
          rcases r2 with q | q
          · exact q
          · exact absurd (r3.1 q) hN
        rw [i99_24, r1, mB1_i, i99_35 (by omega), if_pos this, i99_38]
  · left
    rw [if_neg hf, if_neg hf]
    refine ⟨Or.inl hf, f, ?_⟩
    rw [i99_40 (by omega), if_neg hf, i99_59, i99_64, c_addS h2, mB0_i]
theorem c_partR (hS : zArs ar) {T : Int → Int} {n p e0 dp : Int} {cs : List Int} (hR : zRl A T n p e0 cs dp) (hp : 0 ≤ p ∧ p ≤ n) (he : 0 ≤ e0 ∧ e0 + cs.length < 400) : ∃ C r, mGd ar (d + 5) 251 0 [.ref 185, .double 0] [] (zW K A O t) = some (.inl (some (.int (zI r))), zW K C O t) ∧ (r = 0 ∨ r = 1) ∧ (r = 1 ↔ zPrt T n p) ∧ zLl e0 A C ∧ (r = 1 → zRl C T n (zBh T n p) e0 (cs ++ [zPc T n p]) dp) ∧ (r = 0 → C 185 12 = zBg T n p) := by
  obtain ⟨B1, y1, y2, y3, y4⟩ := c_letters (d := d + 2) (K := K) (O := O) (t := t) (ar := ar) (A := A) hR.1 hR.2.1 hp
  have tr1 := zTr_fp hR.1 y4
  have hb := zBg_rng (T := T) hp.2
  have hw := zWe_rng (T := T) hp.2
  have hn := hR.1.1
  have fr := zFi_rng (T := T) (n := n) (p := p) (L := [25, 26, 27, 28, 29, 30]) (k := 0)
  have hlen : (([25, 26, 27, 28, 29, 30] : List Nat).length : Int) = 6 := rfl
  rw [hlen] at fr
  rw [i251_0, y1, mB0_i, i251_4 (by omega) (by omega), y2, y3]
  by_cases hW : zBg T n p < zWe T n p
  · -- a word
    have ch : mGd ar (d + 5) 251 34 [.ref 185, .double 0] [] (zW K B1 O t) = mGd ar (d + 5) 251 113 [.ref 185, .double 0] [.int (zI ((zFi T n p [25, 26, 27, 28, 29, 30] 0)))] (zW K B1 O t) := by
      have fdef : zFi T n p [25, 26, 27, 28, 29, 30] 0 = @ite Int (zIs T n p 25) (Classical.propDecidable _) 0 (@ite Int (zIs T n p 26) (Classical.propDecidable _) 1 (@ite Int (zIs T n p 27) (Classical.propDecidable _) 2 (@ite Int (zIs T n p 28) (Classical.propDecidable _) 3 (@ite Int (zIs T n p 29) (Classical.propDecidable _) 4 (@ite Int (zIs T n p 30) (Classical.propDecidable _) 5 (-1)))))) := rfl
      have yes : ∀ s, s < 31 → zIs T n p s → mGd ar (d + 4) 231 0 [.ref 185, .retAddr s, .double 0, .double 0] [] (zW K B1 O t) = some (.inl (some (.int (zI 1))), zW K B1 O t) := fun s hs h => c_rW (d := d) hS hs tr1 hp y3 y2 h
      have no : ∀ s, s < 31 → ¬ zIs T n p s → mGd ar (d + 4) 231 0 [.ref 185, .retAddr s, .double 0, .double 0] [] (zW K B1 O t) = some (.inl (some (.int (zI 0))), zW K B1 O t) := fun s hs h => c_rNW (d := d) hS hs tr1 hp y3 y2 h
      rw [fdef, i251_34]
      by_cases a1 : zIs T n p 25
      · rw [if_pos a1, yes 25 (by decide) a1, mB1_i, i251_40 (by omega), if_neg (by omega), i251_43]
      rw [if_neg a1, no 25 (by decide) a1, mB1_i, i251_40 (by omega), if_pos rfl, i251_47]
      by_cases a2 : zIs T n p 26
      · rw [if_pos a2, yes 26 (by decide) a2, mB1_i, i251_53 (by omega), if_neg (by omega), i251_56]
      rw [if_neg a2, no 26 (by decide) a2, mB1_i, i251_53 (by omega), if_pos rfl, i251_60]
      by_cases a3 : zIs T n p 27
      · rw [if_pos a3, yes 27 (by decide) a3, mB1_i, i251_66 (by omega), if_neg (by omega), i251_69]
      rw [if_neg a3, no 27 (by decide) a3, mB1_i, i251_66 (by omega), if_pos rfl, i251_73]
      by_cases a4 : zIs T n p 28
      · rw [if_pos a4, yes 28 (by decide) a4, mB1_i, i251_79 (by omega), if_neg (by omega), i251_82]
      rw [if_neg a4, no 28 (by decide) a4, mB1_i, i251_79 (by omega), if_pos rfl, i251_86]
      by_cases a5 : zIs T n p 29
      · rw [if_pos a5, yes 29 (by decide) a5, mB1_i, i251_92 (by omega), if_neg (by omega), i251_95]
      rw [if_neg a5, no 29 (by decide) a5, mB1_i, i251_92 (by omega), if_pos rfl, i251_99]
      by_cases a6 : zIs T n p 30
      · rw [if_pos a6, yes 30 (by decide) a6, mB1_i, i251_105 (by omega), if_neg (by omega), i251_108]
      rw [if_neg a6, no 30 (by decide) a6, mB1_i, i251_105 (by omega), if_pos rfl, i251_112]
    have hbh : zBh T n p = zWe T n p := by unfold zBh; rw [if_pos hW]
    have hno : ¬ zNm T n p 0 999 := fun q => by
      have := q.1
      unfold zKd at this
      rw [if_pos hW] at this
      omega
    have hpc : zPc T n p = if zFi T n p [25, 26, 27, 28, 29, 30] 0 = -1 then zVl T n p else 1000 + zFi T n p [25, 26, 27, 28, 29, 30] 0 := rfl
    have hR1 : zRl B1 T n (zBh T n p) e0 cs dp := zRl_fp hR y4 (by rw [y2, hbh])
    obtain ⟨C, z1, z2, z3, z4, z5, z6, z7⟩ := c_emits (d := d + 4) (K := K) (O := O) (t := t) (ar := ar) (A := B1) (s := zFi T n p [25, 26, 27, 28, 29, 30] 0) (v := 0) hR1.2.2.2.1 (by omega)
    have ll : zLl e0 A C := zLl_trans (zLl_fp y4) (zLl_em (by omega) z5 z6 z7)
    have c12 : C 185 12 = zBg T n p := by rw [z6 12 (by decide), y3]
    rw [if_neg (by omega), ch, i251_113, z1, mB0_i, i251_120 (by omega)]
    by_cases hf : zFi T n p [25, 26, 27, 28, 29, 30] 0 = -1
    · refine ⟨C, 0, by rw [if_pos (by omega), i251_128, i251_129 (by omega)], by omega, ⟨fun q => by omega, fun q => ?_⟩, ll, fun q => by omega, fun _ => c12⟩
      rcases q with q | q
      · exact absurd hf q
      · exact absurd q hno
    · refine ⟨C, 1, by rw [if_neg (by omega), i251_124, i251_129 (by omega)], by omega, ⟨fun _ => Or.inl hf, fun _ => rfl⟩, ll, fun _ => ?_, fun q => by omega⟩
      refine zRl_em hR1 z2 ?_ z5 z6 z7
      rw [z3, z4, hpc, if_neg hf]
      unfold zCd
      omega
  · -- a number
    have hff : zFi T n p [25, 26, 27, 28, 29, 30] 0 = -1 := zFi_no hp.2 hW (by decide)
    have hpc : zPc T n p = zVl T n p := by unfold zPc; rw [if_pos hff]
    obtain ⟨e1, e2, e3, e4, e5, e6⟩ := zTok_bg (T := T) hp.2
    obtain ⟨B2, v, g1, g2, g3, g4, g5⟩ := c_figures (d := d + 2) (K := K) (O := O) (t := t) (ar := ar) (A := B1) (p := zBg T n p) (lo := 0) (hi := 999) tr1 (by rw [y2]; omega) (by omega) (by omega) (by omega)
    rw [e1] at g2
    rw [zNm_bg hp.2, e5, e6] at g3
    rw [zNm_bg hp.2] at g4
    have vr := zVl_rng (T := T) hp.2
    rw [if_pos (by omega), i251_15, g1, mB1_i, i251_23]
    by_cases hN : zNm T n p 0 999
    · obtain ⟨g6, g7⟩ := g3 hN
      subst g6
      have hR2 : zRl B2 T n (zBh T n p) e0 cs dp := zRl_fp hR (zFp_trans y4 g5) g7
      obtain ⟨C, z1, z2, z3, z4, z5, z6, z7⟩ := c_emits (d := d + 4) (K := K) (O := O) (t := t) (ar := ar) (A := B2) (s := 8) (v := zVl T n p) hR2.2.2.2.1 (by omega)
      have ll : zLl e0 A C := zLl_trans (zLl_fp (zFp_trans y4 g5)) (zLl_em (by omega) z5 z6 z7)
      have hv : 0 ≤ zVl T n p ∧ zVl T n p ≤ 999 := hN.2
      rw [z1, mB0_i, i251_31, i251_120 (by omega)]
      refine ⟨C, 1, by rw [if_neg (by omega), i251_124, i251_129 (by omega)], by omega, ⟨fun _ => Or.inr hN, fun _ => rfl⟩, ll, fun _ => ?_, fun q => by omega⟩
      refine zRl_em hR2 z2 ?_ z5 z6 z7
      rw [z3, z4, hpc]
      unfold zCd
      omega
    · have g6 := g4 hN
      subst g6
      have h16 : B2 185 16 = e0 + cs.length := by rw [g5.1 16 (by decide) (by decide), y4.1 16 (by decide) (by decide)]; exact hR.2.2.2.1
      obtain ⟨C, z1, z2, z3, z4, z5, z6, z7⟩ := c_emits (d := d + 4) (K := K) (O := O) (t := t) (ar := ar) (A := B2) (s := 8) (v := -1) h16 (by omega)
      have ll : zLl e0 A C := zLl_trans (zLl_fp (zFp_trans y4 g5)) (zLl_em (by omega) z5 z6 z7)
      rw [z1, mB0_i, i251_31, i251_120 (by omega)]
      refine ⟨C, 0, by rw [if_pos (by omega), i251_128, i251_129 (by omega)], by omega, ⟨fun q => by omega, fun q => ?_⟩, ll, fun q => by omega, fun _ => by rw [z6 12 (by decide), g2]⟩
      rcases q with q | q
      · exact absurd hff q
      · exact absurd q hN
/-- the rest of a sum -/
theorem lsum_loop (hS : zArs ar) {T : Int → Int} {n e0 dp : Int} {ts : List Bool} (hts : ts.length ≤ 16) : ∀ (m : Nat) (p x1 x2 : Int) (A : Nat → Int → Int) (cs : List Int), p + m = n → (0 ≤ x1 ∧ x1 + 1 ≤ p) → zCl A T n p e0 cs → zTc cs [] = some (false :: ts) → zPlw ar K O t (d + 6) 99 88 [.ref 172, .int (zI x1), .int (zI x2)] (d + 6) 250 9 [.ref 185] A T n p e0 cs dp (false :: ts) 0 := by
  intro m
  induction m using Nat.strongRecOn with
  | _ m ih =>
    intro p x1 x2 A cs hm hx1 hC hT
    obtain ⟨hx, hp, hk, h2, hl, he0, hsl⟩ := id hC
    have hn := hx.1
    have hb := zBg_rng (T := T) hp.2
    have hbh := zBh_rng (T := T) hp.2
    obtain ⟨g, g1, g2, g3⟩ := c_isSign (d := d + 5) (K := K) (O := O) (t := t) (ar := ar) (A := A) (c := 43) hx hk hp (by decide)
    rcases g2 with g0 | g0
    · -- no more
      have hno : ¬ zSi T n p 43 := fun q => by have := g3.2 q; omega
      refine zPlw_ok (A' := A) (p' := zBg T n p) (cs' := cs) ?_ ⟨hx, by omega, zTk_bg hp.2 hk, h2, hl, he0, by omega⟩ (by omega) hT zKl_refl (fun O' t' B hB => ?_)
      · rw [i99_88, g1, mB1_i, i99_97 (by omega), if_pos g0, i99_100]
      · obtain ⟨B1, r, z1, z2, z3, z4, z5, z6, z7⟩ := c_sign (d := d + 3) (K := K) (O := O') (t := t') (ar := ar) (A := B) (c := 43) hB.1 hp hB.2.1 (by decide)
        have r0 : r = 0 := by
          rcases z2 with q | q
          · exact q
          · exact absurd (z3.1 q) hno
        refine ⟨B1, ?_, zLl_fp z7, zRl_fp hB z7 (z6 r0)⟩
        rw [i250_9, z1, mB1_i, i250_15 (by omega), if_pos r0, i250_37]
    · have hz := g3.1 g0
      have hbe := (zSi_kd hp.2 (by decide) hz).2
      have hlt := hz.1
      obtain ⟨C, v1, v2, v3, v4, v5⟩ := c_advance (d := d + 5) (K := K) (O := O) (t := t) (ar := ar) (A := A) hx hk.2.1 (by omega)
      have c2 : C 163 2 = e0 + cs.length := by rw [v5 163 (by decide)]; exact h2
      have cl : zLst (C 167) e0 cs.length = cs := by rw [v5 167 (by decide)]; exact hl
      have hb1 := zBg_rng (T := T) (n := n) (p := zBh T n p) (by omega)
      have hbh1 := zBh_rng (T := T) (n := n) (p := zBh T n p) (by omega)
      have refS : ∀ (O' : Nat → Int64) (t' : Nat) (B : Nat → Int → Int), zRl B T n p e0 cs dp → ∃ B1, mGd ar (d + 6) 250 9 [.ref 185] [] (zW K B O' t') = mGd ar (d + 6) 250 18 [.ref 185] [] (zW K B1 O' t') ∧ zLl e0 B B1 ∧ zRl B1 T n (zBh T n p) e0 cs dp := fun O' t' B hB => by
        obtain ⟨B1, r, z1, z2, z3, z4, z5, z6, z7⟩ := c_sign (d := d + 3) (K := K) (O := O') (t := t') (ar := ar) (A := B) (c := 43) hB.1 hp hB.2.1 (by decide)
        have r1 : r = 1 := z3.2 hz
        refine ⟨B1, ?_, zLl_fp z7, zRl_fp hB z7 (z5 r1)⟩
        rw [i250_9, z1, mB1_i, i250_15 (by omega), if_neg (by omega)]
      have cls : mGd ar (d + 6) 99 88 [.ref 172, .int (zI x1), .int (zI x2)] [] (zW K A O t) = mGd ar (d + 6) 99 2 [.ref 172, .int (zI ((x1 + 1))), .int (zI x2)] [] (zW K C O t) := by
        rw [i99_88, g1, mB1_i, i99_97 (by omega), if_neg (by omega), i99_102, v1, mB0_i, i99_109]
      rcases c_partC (d := d + 1) (K := K) (O := O) (t := t) (ar := ar) (A := C) (x1 := x1 + 1) (v2 := .int (zI x2)) hS v3 v2 (by omega) (by omega) (by omega) with ⟨hP, y2, q1⟩ | ⟨hP, q1⟩
      · have hpr := zPc_rng hP
        have hpb := zPrt_bh (by omega) hP
        have a2 := zAdd_2 (c := zPc T n (zBh T n p)) c2
        have al := zAdd_l (c := zPc T n (zBh T n p)) c2 cl
        generalize hcc : zPc T n (zBh T n p) = c at hpr a2 al q1
        have len1 : ((cs ++ [c]).length : Int) = cs.length + 1 := by rw [List.length_append]; rfl
        have b2 := zAdd_2 (c := 1009) a2
        have bl := zAdd_l (c := 1009) a2 al
        have len2 : ((cs ++ [c] ++ [1009]).length : Int) = cs.length + 2 := by rw [List.length_append, List.length_append]; rfl
        obtain ⟨D, w1, w2, w3, w4, w5⟩ := c_advance (d := d + 5) (K := K) (O := O) (t := t) (ar := ar) (A := zAdd (zAdd C c) 1009) (p := zBh T n (zBh T n p)) (zAdd_tx (zAdd_tx v3)) (by rw [zAdd_1.1, zAdd_1.1]; exact v2.2.1) (by omega)
        have hT1 : zTc (cs ++ [c]) [] = some (false :: false :: ts) := by
          have := zTc_push (c := c) hT (by omega) (by rw [List.length_cons]; omega)
          rw [decide_eq_false (show ¬ 1006 ≤ c by omega)] at this
          exact this
        have hT2 := zTc_plus hT1
        have kl : zKl e0 A D := zKl_trans (zKl_1 v5) (zKl_trans (zAdd_kl (by omega)) (zKl_trans (zAdd_kl (by omega)) (zKl_1 w5)))
        refine zPlw_seq kl (by omega) (ih (n - zBh T n (zBh T n p)).toNat (by omega) (zBh T n (zBh T n p)) (x1 + 1) y2 D (cs ++ [c] ++ [1009]) (by omega) (by omega) ⟨w3, by omega, w2, by rw [w5 163 (by decide)]; exact b2, by rw [w5 167 (by decide)]; exact bl, he0, by omega⟩ hT2) rfl (fun z hz => ?_) (fun O' t' B hB => ?_)
        · rw [cls, q1, i99_67 (by omega), if_neg (by omega), i99_71, c_addS (by omega), mB0_i, i99_81, w1, mB0_i]
          exact hz
        · obtain ⟨B1, x1', x2', x3'⟩ := refS O' t' B hB
          obtain ⟨B2, r, s1, s2, s3, s4, s5, s6⟩ := c_partR (d := d) (K := K) (O := O') (t := t') (ar := ar) (A := B1) hS x3' (by omega) (by omega)
          have r1 := s3.2 hP
          have hR2 := s5 r1
          rw [hcc] at hR2
          obtain ⟨B3, z1, z2, z3, z4, z5, z6, z7⟩ := c_emits (d := d + 5) (K := K) (O := O') (t := t') (ar := ar) (A := B2) (s := 9) (v := 0) hR2.2.2.2.1 (by omega)
          refine ⟨B3, zLl_trans x2' (zLl_trans s4 (zLl_em (by omega) z5 z6 z7)), zRl_em hR2 z2 (by rw [z3, z4]; unfold zCd; omega) z5 z6 z7, fun z hz => ?_⟩
          rw [x1', i250_18, s1, mB1_i, i250_22 (by omega), if_neg (by omega), i250_27, z1, mB0_i, i250_34]
          exact hz
      · refine zPlw_no (A' := C) (by rw [cls, q1]) (by rw [v2.1]; omega) v3 (zKl_1 v5) (fun O' t' B hB => ?_)
        obtain ⟨B1, x1', x2', x3'⟩ := refS O' t' B hB
        obtain ⟨B2, r, s1, s2, s3, s4, s5, s6⟩ := c_partR (d := d) (K := K) (O := O') (t := t') (ar := ar) (A := B1) hS x3' (by omega) (by omega)
        have r0 : r = 0 := by
          rcases s2 with q | q
          · exact q
          · exact absurd (s3.1 q) hP
        refine ⟨B2, ?_, zLl_trans x2' s4, by rw [s6 r0, v2.1]⟩
        rw [x1', i250_18, s1, mB1_i, i250_22 (by omega), if_pos r0, i250_25]
theorem pair_sum (hS : zArs ar) {T : Int → Int} {n p e0 dp : Int} {cs : List Int} {ts : List Bool} (hts : ts.length ≤ 16) (hC : zCl A T n p e0 cs) (hT : zTc cs [] = some ts) : zPlw ar K O t (d + 6) 99 0 [.ref 172, .double 0, .double 0] (d + 6) 250 0 [.ref 185] A T n p e0 cs dp (false :: ts) 0 := by
  obtain ⟨hx, hp, hk, h2, hl, he0, hsl⟩ := id hC
  have hn := hx.1
  have hb := zBg_rng (T := T) hp.2
  have hbh := zBh_rng (T := T) hp.2
  rcases c_partC (d := d + 1) (K := K) (O := O) (t := t) (ar := ar) (A := A) (x1 := 0) (v2 := .double 0) hS hx hk hp (by omega) (by omega) with ⟨hP, y2, q1⟩ | ⟨hP, q1⟩
  · have hpr := zPc_rng hP
    have hpb := zPrt_bh hp.2 hP
    have a2 := zAdd_2 (c := zPc T n p) h2
    have al := zAdd_l (c := zPc T n p) h2 hl
    generalize hcc : zPc T n p = c at hpr a2 al q1
    have len1 : ((cs ++ [c]).length : Int) = cs.length + 1 := by rw [List.length_append]; rfl
    obtain ⟨D, w1, w2, w3, w4, w5⟩ := c_advance (d := d + 5) (K := K) (O := O) (t := t) (ar := ar) (A := zAdd A c) (p := zBh T n p) (zAdd_tx hx) (by rw [zAdd_1.1]; exact hk.2.1) (by omega)
    have hT1 : zTc (cs ++ [c]) [] = some (false :: ts) := by
      have := zTc_push (c := c) hT (by omega) (by omega)
      rw [decide_eq_false (show ¬ 1006 ≤ c by omega)] at this
      exact this
    refine zPlw_seq (zKl_trans (zAdd_kl (c := c) (by omega)) (zKl_1 w5)) (by omega) (lsum_loop (d := d) hS hts (n - zBh T n p).toNat (zBh T n p) 0 y2 D (cs ++ [c]) (by omega) (by omega) ⟨w3, by omega, w2, by rw [w5 163 (by decide)]; exact a2, by rw [w5 167 (by decide)]; exact al, he0, by omega⟩ hT1) rfl (fun z hz => ?_) (fun O' t' B hB => ?_)
    · rw [i99_0, q1, i99_67 (by omega), if_pos (by omega), i99_81, w1, mB0_i]
      exact hz
    · obtain ⟨B2, r, s1, s2, s3, s4, s5, s6⟩ := c_partR (d := d) (K := K) (O := O') (t := t') (ar := ar) (A := B) hS hB hp (by omega)
      have r1 := s3.2 hP
      have hR2 := s5 r1
      rw [hcc] at hR2
      refine ⟨B2, s4, hR2, fun z hz => ?_⟩
      rw [i250_0, s1, mB1_i, i250_4 (by omega), if_neg (by omega)]
      exact hz
  · refine zPlw_no (A' := A) (by rw [i99_0, q1]) (by rw [hk.1]; omega) hx zKl_refl (fun O' t' B hB => ?_)
    obtain ⟨B2, r, s1, s2, s3, s4, s5, s6⟩ := c_partR (d := d) (K := K) (O := O') (t := t') (ar := ar) (A := B) hS hB hp (by omega)
    have r0 : r = 0 := by
      rcases s2 with q | q
      · exact q
      · exact absurd (s3.1 q) hP
    refine ⟨B2, ?_, s4, by rw [s6 r0, hk.1]⟩
    rw [i250_0, s1, mB1_i, i250_4 (by omega), if_pos r0, i250_7]
end SUM
