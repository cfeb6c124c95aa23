/-! CALLS THAT CHANGE, 12: leave -/
def zLz (s p : Int) : Int := zOr (zAnd s (zShl 1 p - 1)) (zAnd (zUshr s 1) (zXor (zShl 1 p - 1) (-1)))
theorem zf_lose {n s p : Int} (hn : 0 ≤ n ∧ n ≤ 8) (hs : 0 ≤ s ∧ s ≤ zAll n) (hp : 0 ≤ p ∧ p < n) : (0 ≤ zLz s p ∧ zLz s p ≤ zAll (n - 1)) ∧ ∀ q, 0 ≤ q → q < n - 1 → zB (zLz s p) q = if q < p then zB s q else zB s (q + 1) := by
  have h1 : ∀ n : Fin 9, ∀ s : Fin 256, ∀ k : Fin 8, (s.val : Int) ≤ zAll (n.val : Int) → k.val < n.val → 0 ≤ zLz (s.val : Int) (k.val : Int) ∧ zLz (s.val : Int) (k.val : Int) ≤ zAll ((n.val : Int) - 1) := by decide +kernel
  have h2 : ∀ s : Fin 256, ∀ k : Fin 8, ∀ q : Fin 8, zB (zLz (s.val : Int) (k.val : Int)) (q.val : Int) = if (q.val : Int) < (k.val : Int) then zB (s.val : Int) (q.val : Int) else zB (s.val : Int) ((q.val : Int) + 1) := by decide +kernel
  have hl := zAll_lt hn
  have a1 := h1 ⟨n.toNat, by omega⟩ ⟨s.toNat, by omega⟩ ⟨p.toNat, by omega⟩
  simp only [Int.toNat_of_nonneg hs.1, Int.toNat_of_nonneg hn.1, Int.toNat_of_nonneg hp.1] at a1
  refine ⟨a1 hs.2 (by omega), fun q q0 q1 => ?_⟩
  have a2 := h2 ⟨s.toNat, by omega⟩ ⟨p.toNat, by omega⟩ ⟨q.toNat, by omega⟩
  simp only [Int.toNat_of_nonneg hs.1, Int.toNat_of_nonneg hp.1, Int.toNat_of_nonneg q0] at a2
  exact a2
/-- a row when one has left -/
def zLv (h : Int → Int) (p i : Int) : Int := if i = 0 then h 0 - 1 else if 15 + 6 * p ≤ i ∧ i < 57 then h (i + 6) else h i
theorem zLv_0 {h : Int → Int} {p : Int} : zLv h p 0 = h 0 - 1 := if_pos rfl
theorem zLv_b {h : Int → Int} {p i : Int} (h0 : i ≠ 0) (hi : ¬ (15 + 6 * p ≤ i ∧ i < 57)) : zLv h p i = h i := by
  unfold zLv; rw [if_neg h0, if_neg hi]
theorem zLv_a {h : Int → Int} {p i : Int} (h0 : 0 ≤ p) (hi : 15 + 6 * p ≤ i ∧ i < 57) : zLv h p i = h (i + 6) := by
  unfold zLv; rw [if_neg (by omega), if_pos hi]
theorem zHW0_lose {h : Int → Int} {p : Int} (hp : 0 ≤ p ∧ p < h 0) (hw : zHW0 h) : zHW0 (zLv h p) := by
  obtain ⟨w0, w1, w2, w3, w4, wr, wm, wn, ww, ws⟩ := hw
  have f : ∀ i, i < 15 → i ≠ 0 → zLv h p i = h i := fun i hi h0 => zLv_b h0 (by omega)
  have g : ∀ q k : Int, 0 ≤ q → q < h 0 - 1 → 0 ≤ k → k < 6 → ∃ r, 0 ≤ r ∧ r < h 0 ∧ ∀ j, 0 ≤ j → j < 6 → zLv h p (15 + 6 * q + j) = h (15 + 6 * r + j) := fun q k q0 q1 k0 k1 => by
    by_cases hq : p ≤ q
    · exact ⟨q + 1, by omega, by omega, fun j j0 j1 => by rw [zLv_a hp.1 (by omega), show 15 + 6 * q + j + 6 = 15 + 6 * (q + 1) + j by omega]⟩
    · exact ⟨q, by omega, by omega, fun j j0 j1 => zLv_b (by omega) (by omega)⟩
  unfold zHW0
  rw [zLv_0, f 1 (by omega) (by omega), f 2 (by omega) (by omega), f 3 (by omega) (by omega), f 4 (by omega) (by omega)]
  refine ⟨by omega, w1, w2, w3, w4, fun j h1 h2 => ?_, fun j h1 h2 => ?_, fun q j h1 h2 h3 h4 => ?_, fun q h1 h2 => ?_, fun q h1 h2 => ?_⟩
  · rw [f _ (by omega) (by omega)]; exact wr j h1 h2
  · rw [f _ (by omega) (by omega)]; exact wm j h1 h2
  · obtain ⟨r, r0, r1, r2⟩ := g q j h1 h2 h3 (by omega)
    rw [r2 j h3 (by omega)]; exact wn r j r0 r1 h3 h4
  · obtain ⟨r, r0, r1, r2⟩ := g q 0 h1 h2 (by omega) (by omega)
    rw [r2 4 (by omega) (by omega)]; exact ww r r0 r1
  · obtain ⟨r, r0, r1, r2⟩ := g q 0 h1 h2 (by omega) (by omega)
    rw [r2 5 (by omega) (by omega)]; exact ws r r0 r1
section LOSE
variable {ar : Nat → Nat × (Nat → Int32)} {d t : Nat} {K : Nat → Nat → Option Nat} {A : Nat → Int → Int} {O : Nat → Int64}
theorem lose_loop {p n : Int} (hp : 0 ≤ p) (hn : p ≤ n ∧ n ≤ 7) (h0 : A 3 0 = n) : ∀ (m : Nat) (x : Int) (B : Nat → Int → Int), x + m = n → p ≤ x → (∀ c, c ≠ 4 → c ≠ 5 → B c = A c) → (∀ i, B 4 i = if p * 4 ≤ i ∧ i < x * 4 then A 4 (i + 4) else A 4 i) → (∀ i, B 5 i = if p ≤ i ∧ i < x then A 5 (i + 1) else A 5 i) → ∃ C, mGd ar (d) 128 12 [.ref 3, .int (zI p), .int (zI x)] [] (zW K B O t) = mGd ar (d) 128 60 [.ref 3, .int (zI p), .int (zI n)] [] (zW K C O t) ∧ (∀ c, c ≠ 4 → c ≠ 5 → C c = A c) ∧ (∀ i, C 4 i = if p * 4 ≤ i ∧ i < n * 4 then A 4 (i + 4) else A 4 i) ∧ (∀ i, C 5 i = if p ≤ i ∧ i < n then A 5 (i + 1) else A 5 i) := by
  intro m
  induction m with
  | zero =>
    intro x B hm x0 hc h4 h5
    have : x = n := by omega
    subst this
    have b0 : B 3 0 = x := by rw [hc 3 (by decide) (by decide), h0]
    exact ⟨B, by rw [i128_12 isHall3 (by omega) (by omega), if_pos (by omega)], hc, h4, h5⟩
  | succ m ih =>
    intro x B hm x0 hc h4 h5
    have b0 : B 3 0 = n := by rw [hc 3 (by decide) (by decide), h0]
    have e5 : (zC B 4 4 ((x + 1) * 4) (x * 4) 4) 5 (x + 1) = A 5 (x + 1) := by rw [zC_r (by decide), h5, if_neg (by omega)]
    obtain ⟨C, q1, q2⟩ := ih (x + 1) (zU (zC B 4 4 ((x + 1) * 4) (x * 4) 4) 5 x (A 5 (x + 1))) (by omega) (by omega) (fun c c1 c2 => by rw [zU_r c2, zC_r c1, hc c c1 c2]) (fun i => by
      rw [zU_r (by decide)]
      by_cases hi : x * 4 ≤ i ∧ i < x * 4 + 4
      · rw [zC_in hi, h4, if_neg (by omega), if_pos (by omega), show (x + 1) * 4 + (i - x * 4) = i + 4 by omega]
      · rw [zC_out hi, h4]
        by_cases hj : p * 4 ≤ i ∧ i < x * 4
        · rw [if_pos hj, if_pos (by omega)]
        · rw [if_neg hj, if_neg (by omega)]) (fun i => by
      by_cases hi : i = x
      · rw [hi, zU_at, if_pos (by omega)]
      · rw [zU_s hi, zC_r (by decide), h5]
        by_cases hj : p ≤ i ∧ i < x
        · rw [if_pos hj, if_pos (by omega)]
        · rw [if_neg hj, if_neg (by omega)])
    refine ⟨C, ?_, q2⟩
    rw [← q1, i128_12 isHall3 (by omega) (by omega), if_neg (by omega), i128_20 isHall3 (by omega) (by omega) (by omega) (by omega)]
    show mGd _ _ _ _ _ _ (zW K (zU (zC B 4 4 ((x + 1) * 4) (x * 4) 4) 5 x ((zC B 4 4 ((x + 1) * 4) (x * 4) 4) 5 (x + 1))) O t) = _
    rw [e5]
theorem c_lose {p : Int} {h : Int → Int} (w0 : 0 ≤ h 0 ∧ h 0 ≤ 8) (hp : 0 ≤ p ∧ p < h 0) (hr : zHR0 A 3 h) : ∃ C, mGd ar (d) 128 0 [.ref 3, .int (zI p), .double 0] [] (zW K A O t) = some (.inl none, zW K C O t) ∧ zHR0 C 3 (zLv h p) ∧ ∀ c, ¬ (3 ≤ c ∧ c ≤ 5) → C c = A c := by
  obtain ⟨r0, r9, r7, r6, r8, rr, rm, rn, rw', ⟨s1, s2⟩⟩ := hr
  obtain ⟨C, g1, g2, g3, g4⟩ := lose_loop (d := d) (K := K) (O := O) (t := t) (ar := ar) (A := zU A 3 0 (A 3 0 - 1)) (p := p) (n := h 0 - 1) hp.1 (by omega) (by rw [zU_at, r0]) (h 0 - 1 - p).toNat p (zU A 3 0 (A 3 0 - 1)) (by omega) (by omega) (fun _ _ _ => rfl) (fun i => by rw [if_neg (by omega)]) (fun i => by rw [if_neg (by omega)])
  obtain ⟨z1, z2⟩ := zf_lose w0 s1 hp
  have c3 : C 3 3 = A 3 3 := by rw [g2 3 (by decide) (by decide), zU_s (by decide)]
  refine ⟨zU C 3 3 (zLz (A 3 3) p), ?_, ?_, fun c hc => by rw [zU_r (by omega), g2 c (by omega) (by omega), zU_r (by omega)]⟩
  · rw [i128_0 isHall3, g1, i128_60 isHall3, c3]
    rfl
  · have f : ∀ i, i < 15 → i ≠ 0 → zLv h p i = h i := fun i hi h0 => zLv_b h0 (by omega)
    have fc : ∀ j, j ≠ 0 → j ≠ 3 → (zU C 3 3 (zLz (A 3 3) p)) 3 j = A 3 j := fun j j0 j3 => by rw [zU_s j3, g2 3 (by decide) (by decide), zU_s j0]
    have fo : ∀ c, ¬ (3 ≤ c ∧ c ≤ 5) → (zU C 3 3 (zLz (A 3 3) p)) c = A c := fun c hc => by rw [zU_r (by omega), g2 c (by omega) (by omega), zU_r (by omega)]
    have f0 : (zU C 3 3 (zLz (A 3 3) p)) 3 0 = h 0 - 1 := by rw [zU_s (by decide), g2 3 (by decide) (by decide), zU_at, r0]
    unfold zHR0 zStub
    rw [zLv_0, f 1 (by omega) (by omega), f 3 (by omega) (by omega), f 4 (by omega) (by omega), f 6 (by omega) (by omega), f0, fc 9 (by decide) (by decide), fc 7 (by decide) (by decide), fc 6 (by decide) (by decide), fc 8 (by decide) (by decide), fo (3 + 3) (by decide), fo (3 + 4) (by decide), zU_at]
    refine ⟨rfl, r9, r7, r6, r8, fun j h1 h2 => ?_, fun j h1 h2 => ?_, fun q j h1 h2 h3 h4 => ?_, fun q h1 h2 => ?_, ⟨z1, fun q h1 h2 => ?_⟩⟩
    · rw [f _ (by omega) (by omega)]; exact rr j h1 h2
    · rw [f _ (by omega) (by omega)]; exact rm j h1 h2
    · show (zU C 3 3 (zLz (A 3 3) p)) 4 (q * 4 + j) = _
      rw [zU_r (by decide), g3]
      by_cases hq : p ≤ q
      · rw [if_pos (by omega), zU_r (by decide), zLv_a hp.1 (by omega), show q * 4 + j + 4 = (q + 1) * 4 + j by omega, show 15 + 6 * q + j + 6 = 15 + 6 * (q + 1) + j by omega]
        exact rn (q + 1) j (by omega) (by omega) h3 h4
      · rw [if_neg (by omega), zU_r (by decide), zLv_b (by omega) (by omega)]
        exact rn q j h1 (by omega) h3 h4
    · show (zU C 3 3 (zLz (A 3 3) p)) 5 q = _
      rw [zU_r (by decide), g4]
      by_cases hq : p ≤ q
      · rw [if_pos (by omega), zU_r (by decide), zLv_a hp.1 (by omega), show 15 + 6 * q + 4 + 6 = 15 + 6 * (q + 1) + 4 by omega]
        exact rw' (q + 1) (by omega) (by omega)
      · rw [if_neg (by omega), zU_r (by decide), zLv_b (by omega) (by omega)]
        exact rw' q h1 (by omega)
    · rw [z2 q h1 h2]
      by_cases hq : p ≤ q
      · rw [if_neg (by omega), zLv_a hp.1 (by omega), show 15 + 6 * q + 5 + 6 = 15 + 6 * (q + 1) + 5 by omega]
        exact s2 (q + 1) (by omega) (by omega)
      · rw [if_pos (by omega), zLv_b (by omega) (by omega)]
        exact s2 q h1 (by omega)
theorem rleave_loop {p : Int} (hp : 0 ≤ p ∧ p < 8) : ∀ (m : Nat) (x : Int) (B : Nat → Int → Int), x + m = 57 → 15 + 6 * p ≤ x → (∀ c, c ≠ 186 → B c = A c) → (∀ i, B 186 i = if 15 + 6 * p ≤ i ∧ i < x then A 186 (i + 6) else A 186 i) → ∃ C, mGd ar (d) 282 30 [.ref 185, .int (zI p), .int (zI x)] [] (zW K B O t) = mGd ar (d) 282 60 [.ref 185, .int (zI p), .int (zI 57)] [] (zW K C O t) ∧ (∀ c, c ≠ 186 → C c = A c) ∧ (∀ i, C 186 i = if 15 + 6 * p ≤ i ∧ i < 57 then A 186 (i + 6) else A 186 i) := by
  intro m
  induction m with
  | zero =>
    intro x B hm x0 hc h6
    have : x = 57 := by omega
    subst this
    exact ⟨B, by rw [i282_30 (by omega), if_pos (by omega)], hc, h6⟩
  | succ m ih =>
    intro x B hm x0 hc h6
    have e : B 186 (x + 6) = A 186 (x + 6) := by rw [h6, if_neg (by omega)]
    obtain ⟨C, q1, q2⟩ := ih (x + 1) (zU B 186 x (A 186 (x + 6))) (by omega) (by omega) (fun c c1 => by rw [zU_r c1, hc c c1]) (fun i => by
      by_cases hi : i = x
      · rw [hi, zU_at, if_pos (by omega)]
      · rw [zU_s hi, h6]
        by_cases hj : 15 + 6 * p ≤ i ∧ i < x
        · rw [if_pos hj, if_pos (by omega)]
        · rw [if_neg hj, if_neg (by omega)])
    refine ⟨C, ?_, q2⟩
    rw [← q1, i282_30 (by omega), if_neg (by omega), i282_39 (by omega) (by omega), e]
theorem zRm_w {A1 C C' : Nat → Int → Int} (h : zRm A1 C) (hc : ∀ c, c ≠ 186 → C' c = C c) (hi : ∀ i, i = 2 ∨ 423 ≤ i → C' 186 i = C 186 i) : zRm A1 C' := by
  obtain ⟨m1, m2, m3, m4, m5, m6⟩ := h
  exact ⟨by rw [hc 185 (by decide)]; exact m1, by rw [hc 190 (by decide)]; exact m2, by rw [hc 190 (by decide)]; exact m3, fun c hx => by rw [hc c (by omega)]; exact m4 c hx, fun j hj => by rw [hc 185 (by decide)]; exact m5 j hj, fun i hx => by rw [hi i hx]; exact m6 i hx⟩
theorem q_leave {p : Int} (hK : mKok K) (hI : zInv A) (h_p : -2147483648 ≤ p ∧ p < 2147483648) : zQ ar K O t (d + 12) 127 [.ref 0, .int (zI p)] 282 [.ref 185, .int (zI p), .double 0] (fun E => if E = 2 then 1 else 0) A := by
  obtain ⟨hw, hr, e0, w0⟩ := zInv_f hI
  have u6 : ∀ v, zU A 185 0 v 186 = A 186 := fun v => zU_r (by decide)
  have M1 : ∀ (B : Nat → Int → Int) (O' : Nat → Int64) (t' : Nat), B 186 = A 186 → mGd ar (d + 11) 255 0 [.ref 185, .int (zI p)] [] (zW K B O' t') = some (.inl (some (.int (zI (if 0 ≤ p ∧ p < A 186 0 then 0 else 1)))), zW K B O' t') := fun B O' t' e => by rw [← e]; exact c_noPerson (d := (d + 10)) h_p (by rw [e]; exact w0)
  by_cases g1 : 0 ≤ p ∧ p < A 186 0
  case neg =>
    have k1 := c_nPersonX (d := (d + 11)) (K := K) (O := O) (t := t) (ar := ar) (A := A) (p := p) h_p (by omega) (by omega)
    refine zQ_ex (E := 2) hI ?_ (by decide) (fun O' t' => ⟨0, zU A 185 0 1, ?_, zU_at, zFm_u⟩)
    · simp (disch := first | assumption | omega | exact zr_and | exact zr_or | exact zr_xor | exact zr_shl | exact zr_shr | exact zr_ushr | exact zr_byte | exact isHall3 | exact isLaw12) only [i127_0, i127_5, i127_16, i127_24, k1, mB1_i, mB0_i, mB1n_i, mB0n_i, mB1_x, mB0_x, ↓if_pos, ↓if_neg, if_true, if_false, if_pos, if_neg]
    · have n1 := M1 (zU A 185 0 0) O' t' (u6 0)
      rw [if_neg (by omega)] at n1
      simp (disch := first | assumption | omega | exact zr_and | exact zr_or | exact zr_xor | exact zr_shl | exact zr_shr | exact zr_ushr | exact zr_byte | exact isHall3 | exact isLaw12) only [i282_0, i282_11, i282_15, i282_18, i282_20, i282_24, i282_29, i282_30, i282_39, i282_60, i282_74, n1, c_thr0, c_thr1, zU_uu, i233_0, zU_c, mB1_i, mB0_i, mB1n_i, mB0n_i, mB1_x, mB0_x, ↓if_pos, ↓if_neg, if_true, if_false, if_pos, if_neg]
  have k1 := c_nPerson (d := (d + 11)) (K := K) (O := O) (t := t) (ar := ar) (A := A) (p := p) (by omega) (by omega)
  have m1 : ∀ (B : Nat → Int → Int) (O' : Nat → Int64) (t' : Nat), B 186 = A 186 → mGd ar (d + 11) 255 0 [.ref 185, .int (zI p)] [] (zW K B O' t') = some (.inl (some (.int (zI 0))), zW K B O' t') := fun B O' t' e => by have q := M1 B O' t' e; rwa [if_pos (by omega)] at q
  obtain ⟨a1, a2, a3, -⟩ := hI.2.2.2.1
  obtain ⟨C, f1, f2, f3⟩ := k_remember (d := d + 9) (K := K) (O := O) (t := t) (ar := ar) hK hI
  have hrC : zHR C 3 (A 186) := zHR_same (fun c h1 h2 => f3 c h1 h2) hI.1.1 hI.1.2
  obtain ⟨C', l1, l2, l3⟩ := c_lose (d := d + 11) (K := K) (O := O) (t := t) (ar := ar) (A := C) w0 g1 hrC.1
  have hc : zRc A C' := zRc_hall f2 a3 hI.1.1 (fun c h1 _ => l3 c (by omega))
  have ev : ∀ i, 63 ≤ i → i < 423 → zLv (A 186) p i = A 186 i := fun i i1 _ => zLv_b (by omega) (by omega)
  have e5 : zLv (A 186) p 5 = A 186 5 := zLv_b (by decide) (by omega)
  have hr1 : zHR C' 3 (zLv (A 186) p) := ⟨l2, zLog_same (A := C) (fun c h1 h2 => l3 c (by omega)) (zLog_congr e5 ev hI.1.1.2 hrC.2)⟩
  have hw1 : zHWf (zLv (A 186) p) := ⟨zHW0_lose g1 hw, zHWl_congr e5 ev hI.1.1.2⟩
  have s : ∀ c, c = 185 ∨ c = 186 → C' c = A c := fun c hx => by
    rw [l3 c (by omega)]
    exact f2.2.2.2 c (by omega) (by omega) (by omega) (by unfold zSc; omega)
  have n0 : C' 3 0 = A 186 0 - 1 := by rw [l2.1, zLv_0]
  refine zQ_act (b := A 186 0 - 1) (A1 := C') hI ?_ hc (by omega) (fun O' t' => ?_)
  · simp (disch := first | assumption | omega | exact zr_and | exact zr_or | exact zr_xor | exact zr_shl | exact zr_shr | exact zr_ushr | exact zr_byte | exact isHall3 | exact isLaw12) only [i127_0, i127_5, i127_16, i127_24, k1, f1, l1, n0, mB1_i, mB0_i, mB1n_i, mB0n_i, mB1_x, mB0_x, ↓if_pos, ↓if_neg, if_true, if_false, if_pos, if_neg]
  · have n1 := m1 (zU C' 185 0 0) O' t' (by rw [zU_r (by decide), s 186 (by omega)])
    obtain ⟨D, p1, p2, p3, p4⟩ := k_remembers (d := d + 11) (K := K) (O := O') (t := t') (ar := ar) (A1 := C') (by rw [s 185 (by omega), a1]; exact a2)
    rw [s 186 (by omega)] at p4
    obtain ⟨D', o1, o2, o3⟩ := rleave_loop (d := d + 12) (K := K) (O := O') (t := t') (ar := ar) (A := D) (p := p) (by omega) (57 - (15 + 6 * p)).toNat (15 + 6 * p) D (by omega) (by omega) (fun _ _ => rfl) (fun i => by rw [if_neg (by omega)])
    have d0 : D' 186 0 = A 186 0 := by rw [o3, if_neg (by omega), p4]
    have e6 : (zU D' 186 0 (A 186 0 - 1)) 186 = zLv (A 186) p := by
      funext i
      by_cases hi : i = 0
      · rw [hi, zU_at, zLv_0]
      · rw [zU_s hi, o3, p4]
        unfold zLv
        rw [if_neg hi]
    have hm : zRm C' (zU D' 186 0 (A 186 0 - 1)) := zRm_w p2 (fun c hc => by rw [zU_r hc, o2 c hc]) (fun i hi => by rw [zU_s (by omega), o3, if_neg (by omega)])
    refine ⟨zU D' 186 0 (A 186 0 - 1), ?_, by rw [zU_c (by decide), o2 185 (by decide)]; exact p3, hm, by rw [e6]; exact hw1, ?_⟩
    · have z0 : (zU D' 186 0 (A 186 0 - 1)) 186 0 = A 186 0 - 1 := zU_at
      have ea : 15 + 6 * p + 0 = 15 + 6 * p := by omega
      simp (disch := first | assumption | omega | exact zr_and | exact zr_or | exact zr_xor | exact zr_shl | exact zr_shr | exact zr_ushr | exact zr_byte | exact isHall3 | exact isLaw12) only [i282_0, i282_11, i282_15, i282_20, i282_24, i282_29, n1, c_thr0, p1, i234_0, ea, mB1_i, mB0_i, mB1n_i, mB0n_i, mB1_x, mB0_x, ↓if_pos, ↓if_neg, if_true, if_false, if_pos, if_neg]
      rw [o1]
      simp (disch := first | assumption | omega | exact zr_and | exact zr_or | exact zr_xor | exact zr_shl | exact zr_shr | exact zr_ushr | exact zr_byte | exact isHall3 | exact isLaw12) only [i282_60, i282_74, i233_0, d0, z0, mB1_i, mB0_i, mB1n_i, mB0n_i, mB1_x, mB0_x, ↓if_pos, ↓if_neg, if_true, if_false, if_pos, if_neg]
    · rw [e6]
      exact zHR_same (A := C') (fun c h1 h2 => hm.2.2.2.1 c (by omega)) hw1 hr1
end LOSE
