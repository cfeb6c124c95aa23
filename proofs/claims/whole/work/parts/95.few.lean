/-! CALLS, 26: fewest, the call -/
theorem zFew_skip {x hi y : Int} {P : Int → Prop} (h : zFew (x + 1) hi P y) (hc : P x → 0 ≤ y ∧ zCnt y < zCnt x) (x0 : 0 ≤ x) : zFew x hi P y := by
  rcases h with ⟨a1, a2⟩ | ⟨a1, a2, a3⟩
  · refine Or.inl ⟨a1, fun s h1 h2 hp => ?_⟩
    by_cases hs : s = x
    · rw [hs] at hp
      have := hc hp; omega
    · exact a2 s (by omega) h2 hp
  · refine Or.inr ⟨by omega, a2, fun s h1 h2 hp => ?_⟩
    by_cases hs : s = x
    · rw [hs] at hp ⊢
      have := hc hp; omega
    · exact a3 s (by omega) h2 hp
theorem zFew_take {x hi y : Int} {P : Int → Prop} (h : zFew (x + 1) hi P y) (hp : P x) (hx : 0 ≤ x ∧ x ≤ hi) (hc : 0 ≤ y → zCnt x ≤ zCnt y) : zFew x hi P x := by
  refine Or.inr ⟨by omega, hp, fun s h1 h2 hs => ?_⟩
  by_cases he : s = x
  · rw [he]; omega
  · rcases h with ⟨a1, a2⟩ | ⟨a1, a2, a3⟩
    · exact absurd hs (a2 s (by omega) h2)
    · have := a3 s (by omega) h2 hs
      have := hc (by omega)
      omega
section FEW
variable {ar : Nat → Nat × (Nat → Int32)} {d t : Nat} {K : Nat → Nat → Option Nat} {A : Nat → Int → Int} {O : Nat → Int64}
theorem rfew_loop {h : Int → Int} {k v : Int} (hw : zHW0 h) (hk : 0 ≤ k ∧ k < 4) (hv : 0 ≤ v ∧ v ≤ 99) (hp : 0 < h 0) : ∀ (m : Nat) (x best : Int) (B : Nat → Int → Int), x + 1 = m → x ≤ zAll (h 0) → zFr A B → zLd h k B → zFew (x + 1) (zAll (h 0)) (fun s => zCan (h (7 + k)) (h 0) v (zCnt s) (zS2 (zAP h k)) (zSel (zAll (h 0) - s) (zWP h k) 0 (h 0).toNat)) best → ∃ C y, mGd ar (d + 5) 298 64 [.ref 185, .int (zI k), .int (zI v), .int (zI best), .int (zI x)] [] (zW K B O t) = some (.inl (some (.int (zI y))), zW K C O t) ∧ zFr A C ∧ zFew 0 (zAll (h 0)) (fun s => zCan (h (7 + k)) (h 0) v (zCnt s) (zS2 (zAP h k)) (zSel (zAll (h 0) - s) (zWP h k) 0 (h 0).toNat)) y := by
  intro m
  have w0 := hw.1
  have hl := zAll_lt w0
  have wr := hw.2.2.2.2.2.1 k hk.1 hk.2
  induction m with
  | zero =>
    intro x best B hm hx hf hL hF
    have : x = -1 := by omega
    subst this
    exact ⟨B, best, by rw [i298_64 (by omega), if_pos (by omega), i298_109], hf, hF⟩
  | succ m ih =>
    intro x best B hm hx hf hL hF
    have hb : -1 ≤ best ∧ best < 256 := by
      rcases hF with ⟨a, -⟩ | ⟨a, -⟩ <;> omega
    obtain ⟨l1, l2, l3⟩ := hL
    have eF : ∀ s, zSel s (zRP B) 0 (h 0).toNat = zSel s (zWP h k) 0 (h 0).toNat := fun s => by
      refine zSel_congr (fun i i1 i2 => ⟨rfl, fun _ => ?_⟩)
      unfold zRP zWP
      rw [l1, l3 i i1 (by omega)]
    have eG : ∀ s, zSel s (B 193) 0 (h 0).toNat = (zSel s (zWP h k) 0 (h 0).toNat).map fun q => q.1 := fun s => by
      rw [zSel_map]
      exact zSel_congr (fun i i1 i2 => ⟨rfl, fun _ => l3 i i1 (by omega)⟩)
    obtain ⟨C, y, q1, q2, q3, q4⟩ := c_canBe (d := d) (K := K) (O := O) (t := t) (ar := ar) (A := B) (k := k) (v := v) (s := x) (r := h (7 + k)) hw l2 l1 wr hk hv hp (by omega) eF eG
    have hfC : zFr A C := ⟨fun j hj => by rw [q4.1 j hj, hf.1 j hj], fun c c1 c2 => by rw [q4.2 c c1 c2, hf.2 c c1 c2]⟩
    have hLC := zLd_fr ⟨l1, l2, l3⟩ q4
    have e7 : B 186 (7 + k) = h (7 + k) := by rw [l1]
    have go : (0 ≤ best → zCnt x ≤ zCnt best) → ∃ C y, mGd ar (d + 5) 298 85 [.ref 185, .int (zI k), .int (zI v), .int (zI best), .int (zI x)] [] (zW K B O t) = some (.inl (some (.int (zI y))), zW K C O t) ∧ zFr A C ∧ zFew 0 (zAll (h 0)) (fun s => zCan (h (7 + k)) (h 0) v (zCnt s) (zS2 (zAP h k)) (zSel (zAll (h 0) - s) (zWP h k) 0 (h 0).toNat)) y := fun hc => by
      rw [i298_85, i280_0 (by omega), mB1_i, e7, i298_91, q1, mB1_i, i298_97 (by omega)]
      by_cases y0 : y = 0
      · rw [if_pos y0, i298_103, show x + -1 = x - 1 by omega]
        exact ih (x - 1) best C (by omega) (by omega) hfC hLC (by
          rw [show x - 1 + 1 = x by omega]
          exact zFew_skip hF (fun hp => by have := q3.2 hp; omega) (by omega))
      · rw [if_neg y0, i298_100, i298_103, show x + -1 = x - 1 by omega]
        exact ih (x - 1) x C (by omega) (by omega) hfC hLC (by
          rw [show x - 1 + 1 = x by omega]
          exact zFew_take hF (q3.1 (by omega)) (by omega) hc)
    rw [i298_64 (by omega), if_neg (by omega), i298_69 (by omega)]
    by_cases b0 : best < 0
    · rw [if_pos b0]
      exact go (fun q => by omega)
    · have cb1 := c_bits (d := d + 4) (K := K) (O := O) (t := t) (ar := ar) (A := B) (s := x) (by omega)
      have cb2 := c_bits (d := d + 4) (K := K) (O := O) (t := t) (ar := ar) (A := B) (s := best) (by omega)
      have r1 := zCnt_rng (s := x)
      have r2 := zCnt_rng (s := best)
      rw [if_neg b0, i298_73, cb1, mB1_i, i298_78, cb2, mB1_i, i298_82 (by omega) (by omega)]
      by_cases hc : zCnt best < zCnt x
      · rw [if_pos hc, i298_103, show x + -1 = x - 1 by omega]
        exact ih (x - 1) best B (by omega) (by omega) hf ⟨l1, l2, l3⟩ (by
          rw [show x - 1 + 1 = x by omega]
          exact zFew_skip hF (fun hp => by omega) (by omega))
      · rw [if_neg hc]
        exact go (fun _ => by omega)
theorem q_fewest {k v : Int} (hI : zInv A) (h_k : -2147483648 ≤ k ∧ k < 2147483648) (h_v : -2147483648 ≤ v ∧ v < 2147483648) : zQ ar K O t (d + 12) 136 [.ref 0, .int (zI k), .int (zI v)] 298 [.ref 185, .int (zI k), .int (zI v), .double 0, .double 0] (fun E => if E = 2 then 1 else if E = 0 then 2 else if E = 4 then 3 else 0) A := by
  obtain ⟨hw, hr, e0, w0⟩ := zInv_f hI
  have u6 : ∀ v, zU A 185 0 v 186 = A 186 := fun v => zU_r (by decide)
  have M1 : ∀ (B : Nat → Int → Int) (O' : Nat → Int64) (t' : Nat), B 186 = A 186 → mGd ar (d + 11) 257 0 [.int (zI k)] [] (zW K B O' t') = some (.inl (some (.int (zI (if 0 ≤ k ∧ k < 4 then 0 else 1)))), zW K B O' t') := fun B O' t' e => c_noKind (d := (d + 10)) h_k
  have M2 : ∀ (B : Nat → Int → Int) (O' : Nat → Int64) (t' : Nat), B 186 = A 186 → mGd ar (d + 11) 277 0 [.int (zI v)] [] (zW K B O' t') = some (.inl (some (.int (zI (if 0 ≤ v ∧ v ≤ 99 then 0 else 1)))), zW K B O' t') := fun B O' t' e => c_noNumber (d := (d + 10)) h_v
  by_cases g1 : 0 ≤ k ∧ k < 4
  case neg =>
    have k1 := c_nKindX (d := (d + 11)) (K := K) (O := O) (t := t) (ar := ar) (A := A) (p := k) h_k g1
    refine zQ_ex (E := 2) hI ?_ (by decide) (fun O' t' => ⟨0, zU A 185 0 1, ?_, zU_at, zFm_u⟩)
    · simp (disch := first | assumption | omega | exact zr_and | exact zr_or | exact zr_xor | exact zr_shl | exact zr_shr | exact zr_ushr | exact zr_byte | exact isHall3 | exact isLaw12) only [i136_0, i136_5, i136_13, i136_17, i136_26, k1, mB1_i, mB0_i, mB1n_i, mB0n_i, mB1_x, mB0_x, ↓if_pos, ↓if_neg, if_true, if_false, if_pos, if_neg]
    · have n1 := M1 (zU A 185 0 0) O' t' (u6 0)
      rw [if_neg (by omega)] at n1
      simp (disch := first | assumption | omega | exact zr_and | exact zr_or | exact zr_xor | exact zr_shl | exact zr_shr | exact zr_ushr | exact zr_byte | exact isHall3 | exact isLaw12) only [i298_0, i298_10, i298_14, i298_17, i298_22, i298_26, i298_29, i298_34, i298_37, i298_41, i298_42, i298_46, i298_49, i298_51, i298_56, i298_62, i298_64, i298_69, i298_73, i298_78, i298_82, i298_85, i298_91, i298_97, i298_100, i298_103, i298_109, n1, c_thr0, c_thr1, zU_uu, i233_0, zU_c, mB1_i, mB0_i, mB1n_i, mB0n_i, mB1_x, mB0_x, ↓if_pos, ↓if_neg, if_true, if_false, if_pos, if_neg]
  have k1 := c_nKind (d := (d + 11)) (K := K) (O := O) (t := t) (ar := ar) (A := A) (p := k) g1
  have m1 : ∀ (B : Nat → Int → Int) (O' : Nat → Int64) (t' : Nat), B 186 = A 186 → mGd ar (d + 11) 257 0 [.int (zI k)] [] (zW K B O' t') = some (.inl (some (.int (zI 0))), zW K B O' t') := fun B O' t' e => by have q := M1 B O' t' e; rwa [if_pos (by omega)] at q
  by_cases g2 : 0 ≤ v ∧ v ≤ 99
  case neg =>
    have k2 := c_nNumberX (d := (d + 11)) (K := K) (O := O) (t := t) (ar := ar) (A := A) (p := v) (x := 0) (y := 99) h_v g2 (by decide)
    refine zQ_ex (E := 0) hI ?_ (by decide) (fun O' t' => ⟨0, zU A 185 0 2, ?_, zU_at, zFm_u⟩)
    · simp (disch := first | assumption | omega | exact zr_and | exact zr_or | exact zr_xor | exact zr_shl | exact zr_shr | exact zr_ushr | exact zr_byte | exact isHall3 | exact isLaw12) only [i136_0, i136_5, i136_13, i136_17, i136_26, k1, k2, mB1_i, mB0_i, mB1n_i, mB0n_i, mB1_x, mB0_x, ↓if_pos, ↓if_neg, if_true, if_false, if_pos, if_neg]
    · have n1 := M1 (zU A 185 0 0) O' t' (u6 0)
      rw [if_pos (by omega)] at n1
      have n2 := M2 (zU A 185 0 0) O' t' (u6 0)
      rw [if_neg (by omega)] at n2
      simp (disch := first | assumption | omega | exact zr_and | exact zr_or | exact zr_xor | exact zr_shl | exact zr_shr | exact zr_ushr | exact zr_byte | exact isHall3 | exact isLaw12) only [i298_0, i298_10, i298_14, i298_17, i298_22, i298_26, i298_29, i298_34, i298_37, i298_41, i298_42, i298_46, i298_49, i298_51, i298_56, i298_62, i298_64, i298_69, i298_73, i298_78, i298_82, i298_85, i298_91, i298_97, i298_100, i298_103, i298_109, n1, n2, c_thr0, c_thr1, zU_uu, i233_0, zU_c, mB1_i, mB0_i, mB1n_i, mB0n_i, mB1_x, mB0_x, ↓if_pos, ↓if_neg, if_true, if_false, if_pos, if_neg]
  have k2 := c_nNumber (d := (d + 11)) (K := K) (O := O) (t := t) (ar := ar) (A := A) (p := v) (x := 0) (y := 99) g2 (by decide)
  have m2 : ∀ (B : Nat → Int → Int) (O' : Nat → Int64) (t' : Nat), B 186 = A 186 → mGd ar (d + 11) 277 0 [.int (zI v)] [] (zW K B O' t') = some (.inl (some (.int (zI 0))), zW K B O' t') := fun B O' t' e => by have q := M2 B O' t' e; rwa [if_pos (by omega)] at q
  by_cases g3 : 0 < A 186 0
  case neg =>
    have k3 := c_nPeopleX (d := (d + 11)) (K := K) (O := O) (t := t) (ar := ar) (A := A) (by omega)
    refine zQ_ex (E := 4) hI ?_ (by decide) (fun O' t' => ⟨0, zU A 185 0 3, ?_, zU_at, zFm_u⟩)
    · simp (disch := first | assumption | omega | exact zr_and | exact zr_or | exact zr_xor | exact zr_shl | exact zr_shr | exact zr_ushr | exact zr_byte | exact isHall3 | exact isLaw12) only [i136_0, i136_5, i136_13, i136_17, i136_26, k1, k2, k3, mB1_i, mB0_i, mB1n_i, mB0n_i, mB1_x, mB0_x, ↓if_pos, ↓if_neg, if_true, if_false, if_pos, if_neg]
    · have n1 := M1 (zU A 185 0 0) O' t' (u6 0)
      rw [if_pos (by omega)] at n1
      have n2 := M2 (zU A 185 0 0) O' t' (u6 0)
      rw [if_pos (by omega)] at n2
      simp (disch := first | assumption | omega | exact zr_and | exact zr_or | exact zr_xor | exact zr_shl | exact zr_shr | exact zr_ushr | exact zr_byte | exact isHall3 | exact isLaw12) only [i298_0, i298_10, i298_14, i298_17, i298_22, i298_26, i298_29, i298_34, i298_37, i298_41, i298_42, i298_46, i298_49, i298_51, i298_56, i298_62, i298_64, i298_69, i298_73, i298_78, i298_82, i298_85, i298_91, i298_97, i298_100, i298_103, i298_109, n1, n2, c_thr0, c_thr1, zU_uu, i233_0, zU_c, mB1_i, mB0_i, mB1n_i, mB0n_i, mB1_x, mB0_x, ↓if_pos, ↓if_neg, if_true, if_false, if_pos, if_neg]
  have k3 := c_nPeople (d := (d + 11)) (K := K) (O := O) (t := t) (ar := ar) (A := A) (by omega) (by omega)
  have hl := zAll_lt w0
  have hcn : ∀ s, 0 ≤ s → s ≤ zAll (A 186 0) → 0 ≤ zCnt s ∧ zCnt s ≤ A 186 0 := fun s h1 h2 => by
    by_cases hs : s = 0
    · have : zCnt 0 = 0 := by decide
      rw [hs, this]; omega
    · have := zCnt_pos (s := s) (n := A 186 0) (by omega) w0
      omega
  obtain ⟨C, y, q1, q2, q3⟩ := few_out (d := d + 7) (K := K) (O := O) (t := t) (ar := ar) (A := A) (k := k) (v := v) (n := A 186 0) (all := zAll (A 186 0)) (P := fun s => zCan (A 186 (7 + k)) (A 186 0) v (zCnt s) (zS2 (zAP (A 186) k)) (zSel (zAll (A 186 0) - s) (zWP (A 186) k) 0 (A 186 0).toNat)) e0 w0 hl hcn (fun B hB => by
    have := c_everyone (d := d + 10) (K := K) (O := O) (t := t) (ar := ar) (A := B) isHall3 (by rw [hB 3 (by decide) (by decide), e0]; exact w0)
    rw [hB 3 (by decide) (by decide), e0] at this
    exact this) (fun B s hB h1 h2 => by
    obtain ⟨C, y, a1, a2, a3, a4⟩ := c_could (d := d + 7) (K := K) (O := O) (t := t) (ar := ar) (A := B) (k := k) (v := v) (s := s) hw (zHR0_same5 (fun c c1 c2 => hB c (by omega) (by omega)) hr) g1 g2 (by omega) ⟨h1, h2⟩
    exact ⟨C, y, a1, a2, a3, fun c c1 c2 => by rw [a4 c c1 c2, hB c c1 c2]⟩) (A 186 0 + 1).toNat 0 A (.double 0) (by omega) (by omega) (fun _ _ _ => rfl) (fun s h1 h2 h3 => by have := hcn s h1 h2; omega)
  have hcC : zFc A C := fun c hc => q3 c (by unfold zSc at hc; omega) (by unfold zSc at hc; omega)
  have e6C := zFc_186 hcC
  have u7 : zU C 185 0 0 186 = A 186 := by rw [zU_r (by decide), e6C]
  have ry : -1 ≤ y ∧ y < 256 := by
    rcases q2 with ⟨a, -⟩ | ⟨a, -⟩ <;> omega
  refine zQ_ok (b := y) (A1 := C) hI ?_ hcC (by omega) (fun O' t' => ?_)
  · simp (disch := first | assumption | omega | exact zr_and | exact zr_or | exact zr_xor | exact zr_shl | exact zr_shr | exact zr_ushr | exact zr_byte | exact isHall3 | exact isLaw12) only [i136_0, i136_5, i136_13, i136_17, i136_26, k1, k2, k3, i137_0, q1, mB1_i, mB0_i, mB1n_i, mB0n_i, mB1_x, mB0_x, ↓if_pos, ↓if_neg, if_true, if_false, if_pos, if_neg]
  · have n1 := m1 (zU C 185 0 0) O' t' u7
    have n2 := m2 (zU C 185 0 0) O' t' u7
    obtain ⟨A2, s1, s2, s3, s4, s5, s6, s7⟩ := c_laidAll (d := d + 9) (K := K) (O := O') (t := t') (ar := ar) (B := zU C 185 0 0) hw u7 g1
    have ca := c_all (d := d + 10) (K := K) (O := O') (t := t') (ar := ar) (A := A2) (by rw [s3]; exact w0)
    rw [s3] at ca
    obtain ⟨D, z, x1, x2, x3⟩ := rfew_loop (d := d + 7) (K := K) (O := O') (t := t') (ar := ar) (A := A2) (h := A 186) (k := k) (v := v) hw g1 g2 (by omega) (zAll (A 186 0) + 1).toNat (zAll (A 186 0)) (-1) A2 (by omega) (by omega) zFr_refl ⟨s3, s4, s7⟩ (Or.inl ⟨rfl, fun s h1 h2 => by omega⟩)
    have ez : z = y := zFew_uniq x3 q2
    rw [ez] at x1
    have x4 : zFt A2 D := ⟨⟨fun c hc => x2.2 c (by omega) (by omega), x2.2 186 (by decide) (by decide), fun j hj => x2.1 j (by omega)⟩, x2.1 0 (by decide)⟩
    have hz := zFm_0 (A := C) (A' := D) (zFt_trans s2 x4)
    refine ⟨D, ?_, hz.1, hz.2⟩
    rw [← x1]
    have u0 : (zU C 185 0 0) 186 0 = A 186 0 := by rw [u7]
    simp (disch := first | assumption | omega | exact zr_and | exact zr_or | exact zr_xor | exact zr_shl | exact zr_shr | exact zr_ushr | exact zr_byte | exact isHall3 | exact isLaw12) only [i298_0, i298_10, i298_14, i298_17, i298_22, i298_26, i298_29, i298_34, i298_37, i298_41, i298_42, i298_46, i298_49, i298_51, i298_56, i298_62, n1, n2, c_thr0, i233_0, u0, s1, ca, mB1_i, mB0_i, mB1n_i, mB0n_i, mB1_x, mB0_x, ↓if_pos, ↓if_neg, if_true, if_false, if_pos, if_neg]
end FEW
