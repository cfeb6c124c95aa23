/-! CALLS, 8: moves, sham, gainers, honest, before -/
/-- the most or the least over numbers -/
def zFo (g : Int → Int → Int) (f : Int → Int) : Int → Nat → Int → Int
  | _, 0, b => b
  | v, m + 1, b => zFo g f (v + 1) m (g b (f v))
theorem zFo_rng {g : Int → Int → Int} {f : Int → Int} (hg : ∀ x y, 0 ≤ x → x ≤ 99 → 0 ≤ y → y ≤ 99 → 0 ≤ g x y ∧ g x y ≤ 99) : ∀ {m : Nat} {v b : Int}, (∀ i, v ≤ i → i < v + m → 0 ≤ f i ∧ f i ≤ 99) → (0 ≤ b ∧ b ≤ 99) → 0 ≤ zFo g f v m b ∧ zFo g f v m b ≤ 99
  | 0, _, _, _, h => h
  | m + 1, v, b, hf, h => by
    have h0 := hf v (by omega) (by omega)
    exact zFo_rng hg (m := m) (v := v + 1) (fun i i1 i2 => hf i (by omega) (by omega)) (hg b (f v) h.1 h.2 h0.1 h0.2)
def zMM (most : Int) (x y : Int) : Int := if most = 0 then min x y else max x y
theorem zMM_rng {most : Int} : ∀ x y : Int, 0 ≤ x → x ≤ 99 → 0 ≤ y → y ≤ 99 → 0 ≤ zMM most x y ∧ zMM most x y ≤ 99 := fun x y _ _ _ _ => by
  unfold zMM; split <;> omega
/-- the number by which one comes nearest -/
def zSh (f : Int → Int) : Int → Nat → Int → Int → Int
  | _, 0, best, _ => best
  | v, m + 1, best, least => if f v < least then zSh f (v + 1) m v (f v) else zSh f (v + 1) m best least
theorem zSh_0 {f : Int → Int} : ∀ {m : Nat} {v b : Int}, (∀ i, v ≤ i → i < v + m → 0 ≤ f i) → zSh f v m b 0 = b
  | 0, _, _, _ => rfl
  | m + 1, v, b, h => by
    have h0 := h v (by omega) (by omega)
    show (if f v < 0 then _ else zSh f (v + 1) m b 0) = b
    rw [if_neg (by omega)]
    exact zSh_0 (m := m) (v := v + 1) (fun i i1 i2 => h i (by omega) (by omega))
theorem zSh_rng {f : Int → Int} : ∀ {m : Nat} {v b l : Int}, -1 ≤ v → v + m ≤ 100 → (-1 ≤ b ∧ b < 100) → -1 ≤ zSh f v m b l ∧ zSh f v m b l < 100
  | 0, _, _, _, _, _, h => h
  | m + 1, v, b, l, h1, h2, h => by
    show -1 ≤ (if f v < l then _ else _) ∧ (if f v < l then _ else _) < 100
    split
    · exact zSh_rng (by omega) (by omega) (by omega)
    · exact zSh_rng (by omega) (by omega) h
/-- how far the middle is from one's own, if one tells v -/
noncomputable def zOff (h : Int → Int) (k p r v : Int) : Int := zAbs (zMd h k p r v - h (15 + 6 * p + k))
noncomputable def zSham (h : Int → Int) (k p r : Int) : Int := zSh (zOff h k p r) 0 100 (-1) (zOff h k p r (h (15 + 6 * p + k)))
theorem zOff_rng {h : Int → Int} {k p r v : Int} (hw : zHW0 h) (hk : 0 ≤ k ∧ k < 4) (hp : 0 ≤ p ∧ p < h 0) (hv : 0 ≤ v ∧ v ≤ 99) (hr : 0 ≤ r ∧ r ≤ 5) : 0 ≤ zOff h k p r v ∧ zOff h k p r v ≤ 99 := by
  have a := zMd_rng hw hk hp hv hr
  have b := hw.2.2.2.2.2.2.2.1 p k hp.1 hp.2 hk.1 hk.2
  unfold zOff zAbs
  split <;> omega
theorem zSham_rng {h : Int → Int} {k p r : Int} : -1 ≤ zSham h k p r ∧ zSham h k p r < 100 := zSh_rng (by omega) (by omega) (by omega)
theorem zBf_ge {f : Int → Bool} : ∀ {m : Nat} {p b : Int}, 0 ≤ p → p + m ≤ 8 → (0 ≤ b ∧ b < 256) → b ≤ zBf f p m b ∧ (zBf f p m b = 0 → ∀ i, p ≤ i → i < p + m → f i = false)
  | 0, p, b, _, _, _ => ⟨Int.le_refl _, fun _ i h1 h2 => by omega⟩
  | m + 1, p, b, h0, h8, hb => by
    show b ≤ zBf f (p + 1) m (if f p = true then _ else b) ∧ (zBf f (p + 1) m (if f p = true then _ else b) = 0 → _)
    by_cases hf : f p = true
    · rw [if_pos hf]
      have hm := zf_more hb (show 0 ≤ p ∧ p < 8 by omega)
      obtain ⟨a1, a2⟩ := zBf_ge (f := f) (m := m) (p := p + 1) (b := zOr b (zShl 1 p)) (by omega) (by omega) hm.1
      have hbit := hm.2 p ⟨h0, by omega⟩
      have hbig : b ≤ zOr b (zShl 1 p) ∧ 0 < zOr b (zShl 1 p) := by
        have hs : 0 ≤ zShl 1 p ∧ zShl 1 p < 256 := by
          have h : ∀ k : Fin 8, 0 ≤ zShl 1 (k.val : Int) ∧ zShl 1 (k.val : Int) < 256 := by decide +kernel
          have := h ⟨p.toNat, by omega⟩
          simpa only [Int.toNat_of_nonneg h0] using this
        have hge : b ≤ zOr b (zShl 1 p) := by
          rw [zOr_nat (by omega) (by omega)]
          have := Nat.left_le_or (n := b.toNat) (m := (zShl 1 p).toNat)
          omega
        refine ⟨hge, ?_⟩
        by_cases hz : zOr b (zShl 1 p) = 0
        · rw [hz] at hbit
          simp [zB] at hbit
        · omega
      exact ⟨by omega, fun h => by omega⟩
    · rw [if_neg hf]
      obtain ⟨a1, a2⟩ := zBf_ge (f := f) (m := m) (p := p + 1) (b := b) (by omega) (by omega) hb
      refine ⟨a1, fun h i i1 i2 => ?_⟩
      by_cases hi : i = p
      · rw [hi]; simpa using hf
      · exact a2 h i (by omega) (by omega)
theorem zBf_none {f : Int → Bool} : ∀ {m : Nat} {p b : Int}, (∀ i, p ≤ i → i < p + m → f i = false) → zBf f p m b = b
  | 0, _, _, _ => rfl
  | m + 1, p, b, h => by
    show zBf f (p + 1) m (if f p = true then _ else b) = b
    rw [if_neg (by rw [h p (by omega) (by omega)]; decide)]
    exact zBf_none (m := m) (p := p + 1) (fun i i1 i2 => h i (by omega) (by omega))
section SHAM2
variable {ar : Nat → Nat × (Nat → Int32)} {d t : Nat} {K : Nat → Nat → Option Nat} {A : Nat → Int → Int} {O : Nat → Int64}
theorem zBo_fc {k p : Int} {B : Nat → Int → Int} (h : zBo A k p B) : zFc A B := zFc_bag h.2
theorem q_moves {p k s : Int} (hI : zInv A) (h_p : -2147483648 ≤ p ∧ p < 2147483648) (h_k : -2147483648 ≤ k ∧ k < 2147483648) (hs : s = 0 ∨ s = 1) : zQ ar K O t (d + 12) 146 [.ref 0, .int (zI p), .int (zI k), .int (zI s)] 307 [.ref 185, .int (zI p), .int (zI k), .int (zI s), .double 0, .double 0, .double 0] (fun E => if E = 2 then 1 else 0) A := by
  obtain ⟨hw, hr, e0, w0⟩ := zInv_f hI
  have u6 : ∀ v, zU A 185 0 v 186 = A 186 := fun v => zU_r (by decide)
  have M1 : ∀ (B : Nat → Int → Int) (O' : Nat → Int64) (t' : Nat), B 186 = A 186 → mGd ar (d + 11) 255 0 [.ref 185, .int (zI p)] [] (zW K B O' t') = some (.inl (some (.int (zI (if 0 ≤ p ∧ p < A 186 0 then 0 else 1)))), zW K B O' t') := fun B O' t' e => by rw [← e]; exact c_noPerson (d := (d + 10)) h_p (by rw [e]; exact w0)
  have M2 : ∀ (B : Nat → Int → Int) (O' : Nat → Int64) (t' : Nat), B 186 = A 186 → mGd ar (d + 11) 257 0 [.int (zI k)] [] (zW K B O' t') = some (.inl (some (.int (zI (if 0 ≤ k ∧ k < 4 then 0 else 1)))), zW K B O' t') := fun B O' t' e => c_noKind (d := (d + 10)) h_k
  by_cases g1 : 0 ≤ p ∧ p < A 186 0
  case neg =>
    have k1 := c_nPersonX (d := (d + 11)) (K := K) (O := O) (t := t) (ar := ar) (A := A) (p := p) h_p (by omega) (by omega)
    refine zQ_ex (E := 2) hI ?_ (by decide) (fun O' t' => ⟨0, zU A 185 0 1, ?_, zU_at, zFm_u⟩)
    · simp (disch := first | assumption | omega | exact zr_and | exact zr_or | exact zr_xor | exact zr_shl | exact zr_shr | exact zr_ushr | exact zr_byte | exact isHall3 | exact isLaw12) only [i146_0, i146_5, i146_10, i146_20, k1, mB1_i, mB0_i, mB1n_i, mB0n_i, mB1_x, mB0_x, ↓if_pos, ↓if_neg, if_true, if_false, if_pos, if_neg]
    · have n1 := M1 (zU A 185 0 0) O' t' (u6 0)
      rw [if_neg (by omega)] at n1
      simp (disch := first | assumption | omega | exact zr_and | exact zr_or | exact zr_xor | exact zr_shl | exact zr_shr | exact zr_ushr | exact zr_byte | exact isHall3 | exact isLaw12) only [i307_0, i307_11, i307_14, i307_18, i307_21, i307_25, i307_26, i307_30, i307_33, i307_35, i307_40, i307_46, i307_53, i307_59, i307_65, i307_72, i307_77, i307_81, i307_88, i307_91, i307_98, i307_106, n1, c_thr0, c_thr1, zU_uu, i233_0, zU_c, mB1_i, mB0_i, mB1n_i, mB0n_i, mB1_x, mB0_x, ↓if_pos, ↓if_neg, if_true, if_false, if_pos, if_neg]
  have k1 := c_nPerson (d := (d + 11)) (K := K) (O := O) (t := t) (ar := ar) (A := A) (p := p) (by omega) (by omega)
  have m1 : ∀ (B : Nat → Int → Int) (O' : Nat → Int64) (t' : Nat), B 186 = A 186 → mGd ar (d + 11) 255 0 [.ref 185, .int (zI p)] [] (zW K B O' t') = some (.inl (some (.int (zI 0))), zW K B O' t') := fun B O' t' e => by have q := M1 B O' t' e; rwa [if_pos (by omega)] at q
  by_cases g2 : 0 ≤ k ∧ k < 4
  case neg =>
    have k2 := c_nKindX (d := (d + 11)) (K := K) (O := O) (t := t) (ar := ar) (A := A) (p := k) h_k g2
    refine zQ_ex (E := 2) hI ?_ (by decide) (fun O' t' => ⟨0, zU A 185 0 1, ?_, zU_at, zFm_u⟩)
    · simp (disch := first | assumption | omega | exact zr_and | exact zr_or | exact zr_xor | exact zr_shl | exact zr_shr | exact zr_ushr | exact zr_byte | exact isHall3 | exact isLaw12) only [i146_0, i146_5, i146_10, i146_20, k1, k2, mB1_i, mB0_i, mB1n_i, mB0n_i, mB1_x, mB0_x, ↓if_pos, ↓if_neg, if_true, if_false, if_pos, if_neg]
    · have n1 := M1 (zU A 185 0 0) O' t' (u6 0)
      rw [if_pos (by omega)] at n1
      have n2 := M2 (zU A 185 0 0) O' t' (u6 0)
      rw [if_neg (by omega)] at n2
      simp (disch := first | assumption | omega | exact zr_and | exact zr_or | exact zr_xor | exact zr_shl | exact zr_shr | exact zr_ushr | exact zr_byte | exact isHall3 | exact isLaw12) only [i307_0, i307_11, i307_14, i307_18, i307_21, i307_25, i307_26, i307_30, i307_33, i307_35, i307_40, i307_46, i307_53, i307_59, i307_65, i307_72, i307_77, i307_81, i307_88, i307_91, i307_98, i307_106, n1, n2, c_thr0, c_thr1, zU_uu, i233_0, zU_c, mB1_i, mB0_i, mB1n_i, mB0n_i, mB1_x, mB0_x, ↓if_pos, ↓if_neg, if_true, if_false, if_pos, if_neg]
  have k2 := c_nKind (d := (d + 11)) (K := K) (O := O) (t := t) (ar := ar) (A := A) (p := k) g2
  have m2 : ∀ (B : Nat → Int → Int) (O' : Nat → Int64) (t' : Nat), B 186 = A 186 → mGd ar (d + 11) 257 0 [.int (zI k)] [] (zW K B O' t') = some (.inl (some (.int (zI 0))), zW K B O' t') := fun B O' t' e => by have q := M2 B O' t' e; rwa [if_pos (by omega)] at q
  have wr := hw.2.2.2.2.2.1 k g2.1 g2.2
  have rr := hr.2.2.2.2.2.1 k g2.1 g2.2
  have ww := hw.2.2.2.2.2.2.2.2.1 p g1.1 g1.2
  have rw' := hr.2.2.2.2.2.2.2.2.1 p g1.1 g1.2
  have mr : ∀ v, 0 ≤ v → v ≤ 99 → 0 ≤ zMd (A 186) k p (A 186 (7 + k)) v ∧ zMd (A 186) k p (A 186 (7 + k)) v ≤ 99 := fun v v0 v1 => zMd_rng hw g2 g1 ⟨v0, v1⟩ wr
  obtain ⟨B0, b1, b2⟩ := c_fillWo (d := d + 8) (K := K) (O := O) (t := t) (ar := ar) hI g2 g1 (B := A) (fun _ _ _ => rfl)
  obtain ⟨B1, c1, c2⟩ := c_midWith (d := d + 8) (K := K) (O := O) (t := t) (ar := ar) hI g2 g1 (v := 0) (w := A 186 (15 + 6 * p + 4)) (r := A 186 (7 + k)) (by decide) ww wr b2
  have l1 : ∀ (m : Nat) (v e : Int) (B : Nat → Int → Int) (u : Value), v + m = 100 → 0 ≤ v → (0 ≤ e ∧ e ≤ 99) → zBo A k p B → ∃ B', mGd ar (d + 11) 147 42 [.ref 181, .int (zI p), .int (zI k), .int (zI s), .int (zI (A 186 (15 + 6 * p + 4))), .int (zI (A 186 (7 + k))), .int (zI e), .int (zI v), u] [] (zW K B O t) = some (.inl (some (.int (zI (zFo (zMM s) (zMd (A 186) k p (A 186 (7 + k))) v m e)))), zW K B' O t) ∧ zBo A k p B' := by
    intro m
    induction m with
    | zero =>
      intro v e B u hv v0 he hB
      refine ⟨B, ?_, hB⟩
      simp (disch := first | assumption | omega | exact zr_and | exact zr_or | exact zr_xor | exact zr_shl | exact zr_shr | exact zr_ushr | exact zr_byte | exact isHall3 | exact isLaw12) only [i147_42, i147_90, mB1_i, mB0_i, mB1n_i, mB0n_i, mB1_x, mB0_x, ↓if_pos, ↓if_neg, if_true, if_false, if_pos, if_neg]
      rfl
    | succ m ih =>
      intro v e B u hv v0 he hB
      obtain ⟨B2, d1, d2⟩ := c_midWith (d := d + 8) (K := K) (O := O) (t := t) (ar := ar) hI g2 g1 (v := v) (w := A 186 (15 + 6 * p + 4)) (r := A 186 (7 + k)) (by omega) ww wr hB
      have d1' : mGd ar (d + 10) 149 0 [.ref 181, .int (zI v), .int (zI (A 186 (15 + 6 * p + 4))), .int (zI (A 186 (7 + k))), .double 0] [] (zW K B O t) = some (.inl (some (.int (zI (zMd (A 186) k p (A 186 (7 + k)) v)))), zW K B2 O t) := d1
      have r := mr v v0 (by omega)
      obtain ⟨B', q1, q2⟩ := ih (v + 1) (zMM s e (zMd (A 186) k p (A 186 (7 + k)) v)) B2 (.int (zI (zMd (A 186) k p (A 186 (7 + k)) v))) (by omega) (by omega) (zMM_rng _ _ he.1 he.2 r.1 r.2) d2
      refine ⟨B', ?_, q2⟩
      rw [show zFo (zMM s) (zMd (A 186) k p (A 186 (7 + k))) v (m + 1) e = zFo (zMM s) (zMd (A 186) k p (A 186 (7 + k))) (v + 1) m (zMM s e (zMd (A 186) k p (A 186 (7 + k)) v)) from rfl, ← q1, i147_42 (by omega)]
      have mi := c_min (d := d + 10) (K := K) (O := O) (t := t) (ar := ar) (A := B2) (x := e) (y := zMd (A 186) k p (A 186 (7 + k)) v) (by omega) (by omega)
      have ma := c_max (d := d + 10) (K := K) (O := O) (t := t) (ar := ar) (A := B2) (x := e) (y := zMd (A 186) k p (A 186 (7 + k)) v) (by omega) (by omega)
      unfold zMM
      rcases hs with rfl | rfl
      · simp (disch := first | assumption | omega | exact zr_and | exact zr_or | exact zr_xor | exact zr_shl | exact zr_shr | exact zr_ushr | exact zr_byte | exact isHall3 | exact isLaw12) only [i147_6, i147_37, i147_49, i147_59, i147_65, i147_72, i147_75, i147_82, i147_90, d1', mi, mB1_i, mB0_i, mB1n_i, mB0n_i, mB1_x, mB0_x, ↓if_pos, ↓if_neg, if_true, if_false, if_pos, if_neg]
      · simp (disch := first | assumption | omega | exact zr_and | exact zr_or | exact zr_xor | exact zr_shl | exact zr_shr | exact zr_ushr | exact zr_byte | exact isHall3 | exact isLaw12) only [i147_6, i147_37, i147_49, i147_59, i147_65, i147_72, i147_75, i147_82, i147_90, d1', ma, mB1_i, mB0_i, mB1n_i, mB0n_i, mB1_x, mB0_x, ↓if_pos, ↓if_neg, if_true, if_false, if_pos, if_neg]
  have r0 := mr 0 (by omega) (by omega)
  obtain ⟨B', q1, q2⟩ := l1 99 1 (zMd (A 186) k p (A 186 (7 + k)) 0) B1 (.double 0) (by omega) (by omega) r0 c2
  have hv := zFo_rng (g := zMM s) (f := zMd (A 186) k p (A 186 (7 + k))) zMM_rng (m := 99) (v := 1) (b := zMd (A 186) k p (A 186 (7 + k)) 0) (fun i i1 i2 => mr i (by omega) (by omega)) r0
  have c1' : mGd ar (d + 10) 149 0 [.ref 181, .int (zI 0), .int (zI (A 186 (15 + 6 * p + 4))), .int (zI (A 186 (7 + k))), .double 0] [] (zW K B0 O t) = some (.inl (some (.int (zI (zMd (A 186) k p (A 186 (7 + k)) 0)))), zW K B1 O t) := c1
  have e5 : B0 5 p = A 186 (15 + 6 * p + 4) := by rw [b2.2 _ (by decide) (by decide)]; exact rw'
  have e6 : B0 6 k = A 186 (7 + k) := by rw [b2.2 _ (by decide) (by decide)]; exact rr
  refine zQ_ok (b := zFo (zMM s) (zMd (A 186) k p (A 186 (7 + k))) 1 99 (zMd (A 186) k p (A 186 (7 + k)) 0)) (A1 := B') hI ?_ (zBo_fc q2) (by omega) (fun O' t' => ?_)
  · simp (disch := first | assumption | omega | exact zr_and | exact zr_or | exact zr_xor | exact zr_shl | exact zr_shr | exact zr_ushr | exact zr_byte | exact isHall3 | exact isLaw12) only [i146_0, i146_5, i146_10, i146_20, k1, k2, i147_0, i147_6, i147_37, i147_49, i147_59, i147_65, i147_72, i147_75, i147_82, i147_90, b1, e5, e6, c1', q1, mB1_i, mB0_i, mB1n_i, mB0n_i, mB1_x, mB0_x, ↓if_pos, ↓if_neg, if_true, if_false, if_pos, if_neg]
  · have u7 : zU B' 185 0 0 186 = A 186 := by rw [zU_r (by decide), zFc_186 (zBo_fc q2)]
    have n1 := m1 (zU B' 185 0 0) O' t' u7
    have n2 := m2 (zU B' 185 0 0) O' t' u7
    obtain ⟨A2, s1, s2, s3, s4, s5, s6, s7⟩ := c_laidAll (d := d + 9) (K := K) (O := O') (t := t') (ar := ar) (B := zU B' 185 0 0) hw u7 g2
    have l2 : ∀ (m : Nat) (v e : Int) (B : Nat → Int → Int) (u : Value), v + m = 100 → 0 ≤ v → (v = 0 → e = -1) → (0 < v → 0 ≤ e ∧ e ≤ 99) → zFr A2 B → zLd (A 186) k B → ∃ C, mGd ar (d + 12) 307 46 [.ref 185, .int (zI p), .int (zI k), .int (zI s), .int (zI e), .int (zI v), u] [] (zW K B O' t') = some (.inl (some (.int (zI (if v = 0 then zFo (zMM s) (zMd (A 186) k p (A 186 (7 + k))) 1 99 (zMd (A 186) k p (A 186 (7 + k)) 0) else zFo (zMM s) (zMd (A 186) k p (A 186 (7 + k))) v m e)))), zW K C O' t') ∧ zFr A2 C := by
      intro m
      induction m with
      | zero =>
        intro v e B u hv v0 h0 he hf hB
        refine ⟨B, ?_, hf⟩
        rw [if_neg (by omega)]
        simp (disch := first | assumption | omega | exact zr_and | exact zr_or | exact zr_xor | exact zr_shl | exact zr_shr | exact zr_ushr | exact zr_byte | exact isHall3 | exact isLaw12) only [i307_46, i307_106, mB1_i, mB0_i, mB1n_i, mB0n_i, mB1_x, mB0_x, ↓if_pos, ↓if_neg, if_true, if_false, if_pos, if_neg]
        rfl
      | succ m ih =>
        intro v e B u hv v0 h0 he hf hB
        obtain ⟨C1, d1, d2, d3⟩ := c_midBy (d := d + 7) (K := K) (O := O') (t := t') (ar := ar) hw g2 g1 (v := v) (r := A 186 (7 + k)) (by omega) wr hB
        have r := mr v v0 (by omega)
        have eR : B 186 (7 + k) = A 186 (7 + k) := by rw [hB.1]
        have hf1 : zFr A2 C1 := ⟨fun j hj => by rw [d2.1 j hj, hf.1 j hj], fun c c1 c2 => by rw [d2.2 c c1 c2, hf.2 c c1 c2]⟩
        have mi : ∀ x y, 0 ≤ x ∧ x ≤ 99 → 0 ≤ y ∧ y ≤ 99 → mGd ar (d + 11) 39 0 [.int (zI x), .int (zI y)] [] (zW K C1 O' t') = some (.inl (some (.int (zI (min x y)))), zW K C1 O' t') := fun x y hx hy => c_min (by omega) (by omega)
        have ma : ∀ x y, 0 ≤ x ∧ x ≤ 99 → 0 ≤ y ∧ y ≤ 99 → mGd ar (d + 11) 40 0 [.int (zI x), .int (zI y)] [] (zW K C1 O' t') = some (.inl (some (.int (zI (max x y)))), zW K C1 O' t') := fun x y hx hy => c_max (by omega) (by omega)
        by_cases hv0 : v = 0
        · have he1 := h0 hv0
          subst hv0
          subst he1
          obtain ⟨C, q1, q2⟩ := ih (0 + 1) (zMd (A 186) k p (A 186 (7 + k)) 0) C1 (.int (zI (zMd (A 186) k p (A 186 (7 + k)) 0))) (by omega) (by omega) (by omega) (fun _ => r) hf1 d3
          refine ⟨C, ?_, q2⟩
          rw [if_neg (by omega)] at q1
          rw [if_pos rfl]
          have hm99 : m = 99 := by omega
          subst hm99
          rw [show (1 : Int) = 0 + 1 from rfl, ← q1, i307_46 (by omega)]
          simp (disch := first | assumption | omega | exact zr_and | exact zr_or | exact zr_xor | exact zr_shl | exact zr_shr | exact zr_ushr | exact zr_byte | exact isHall3 | exact isLaw12) only [i307_11, i307_14, i307_18, i307_21, i307_25, i307_26, i307_30, i307_33, i307_35, i307_40, i307_53, i307_59, i307_65, i307_72, i307_77, i307_81, i307_88, i307_91, i307_98, i307_106, i280_0, eR, d1, mB1_i, mB0_i, mB1n_i, mB0n_i, mB1_x, mB0_x, ↓if_pos, ↓if_neg, if_true, if_false, if_pos, if_neg]
        · have he1 := he (by omega)
          obtain ⟨C, q1, q2⟩ := ih (v + 1) (zMM s e (zMd (A 186) k p (A 186 (7 + k)) v)) C1 (.int (zI (zMd (A 186) k p (A 186 (7 + k)) v))) (by omega) (by omega) (by omega) (fun _ => zMM_rng _ _ he1.1 he1.2 r.1 r.2) hf1 d3
          refine ⟨C, ?_, q2⟩
          rw [if_neg (by omega)] at q1
          rw [if_neg hv0, show zFo (zMM s) (zMd (A 186) k p (A 186 (7 + k))) v (m + 1) e = zFo (zMM s) (zMd (A 186) k p (A 186 (7 + k))) (v + 1) m (zMM s e (zMd (A 186) k p (A 186 (7 + k)) v)) from rfl, ← q1, i307_46 (by omega)]
          have mi1 := mi e (zMd (A 186) k p (A 186 (7 + k)) v) he1 r
          have ma1 := ma e (zMd (A 186) k p (A 186 (7 + k)) v) he1 r
          unfold zMM
          rcases hs with rfl | rfl
          · simp (disch := first | assumption | omega | exact zr_and | exact zr_or | exact zr_xor | exact zr_shl | exact zr_shr | exact zr_ushr | exact zr_byte | exact isHall3 | exact isLaw12) only [i307_11, i307_14, i307_18, i307_21, i307_25, i307_26, i307_30, i307_33, i307_35, i307_40, i307_53, i307_59, i307_65, i307_72, i307_77, i307_81, i307_88, i307_91, i307_98, i307_106, i280_0, eR, d1, mi1, mB1_i, mB0_i, mB1n_i, mB0n_i, mB1_x, mB0_x, ↓if_pos, ↓if_neg, if_true, if_false, if_pos, if_neg]
          · simp (disch := first | assumption | omega | exact zr_and | exact zr_or | exact zr_xor | exact zr_shl | exact zr_shr | exact zr_ushr | exact zr_byte | exact isHall3 | exact isLaw12) only [i307_11, i307_14, i307_18, i307_21, i307_25, i307_26, i307_30, i307_33, i307_35, i307_40, i307_53, i307_59, i307_65, i307_72, i307_77, i307_81, i307_88, i307_91, i307_98, i307_106, i280_0, eR, d1, ma1, mB1_i, mB0_i, mB1n_i, mB0n_i, mB1_x, mB0_x, ↓if_pos, ↓if_neg, if_true, if_false, if_pos, if_neg]
    obtain ⟨A3, p1, p2⟩ := l2 100 0 (-1) A2 (.double 0) (by omega) (by omega) (fun _ => rfl) (by omega) zFr_refl ⟨s3, s4, s7⟩
    rw [if_pos rfl] at p1
    have hz := zFm_0 (A := B') (A' := A3) (zFt_trans s2 (zFt_fr p2))
    refine ⟨A3, ?_, hz.1, hz.2⟩
    rw [← p1]
    simp (disch := first | assumption | omega | exact zr_and | exact zr_or | exact zr_xor | exact zr_shl | exact zr_shr | exact zr_ushr | exact zr_byte | exact isHall3 | exact isLaw12) only [i307_0, i307_11, i307_14, i307_18, i307_21, i307_25, i307_26, i307_30, i307_33, i307_35, i307_40, i307_53, i307_59, i307_65, i307_72, i307_77, i307_81, i307_88, i307_91, i307_98, i307_106, n1, n2, c_thr0, s1, mB1_i, mB0_i, mB1n_i, mB0n_i, mB1_x, mB0_x, ↓if_pos, ↓if_neg, if_true, if_false, if_pos, if_neg]
end SHAM2
