/-! CONTRACTS, 3: the bag -/
section BAG
variable {ar : Nat → Nat × (Nat → Int32)} {d t : Nat} {K : Nat → Nat → Option Nat} {A : Nat → Int → Int} {O : Nat → Int64}
def zBag (A : Nat → Int → Int) (P : List (Int × Int)) : Prop := A 173 0 = P.length ∧ A 173 1 = zS1 P ∧ A 173 2 = zS2 P ∧ A 173 3 = zS3 P ∧ zLst (A 174) 0 P.length = zV P
theorem zBag_perm {P Q : List (Int × Int)} (h : zBag A P) (hp : P.Perm Q) : zBag A Q := by
  unfold zBag zV zS1 zS2 zS3 at h ⊢
  rw [← hp.length_eq, ← zSum_perm (hp.map fun q => q.1), ← zSum_perm (hp.map fun q => q.2), ← zSum_perm (hp.map fun q => q.1 * q.2), ← zSort_of_perm (hp.map fun q => q.1)]
  exact h
theorem zBag_sorted {P : List (Int × Int)} (h : zBag A P) : ∀ i j, 0 ≤ i → i < j → j < (P.length : Int) → A 174 i ≤ A 174 j := by
  have h1 : (zLst (A 174) 0 P.length).Pairwise (· ≤ ·) := by rw [h.2.2.2.2]; exact zSort_sorted
  exact fun i j hi hj hm => zLst_pair.mp h1 i j hi hj (by omega)
theorem zBag_rng {P : List (Int × Int)} (h : zBag A P) (hP : zOkP P) : ∀ i, 0 ≤ i → i < (P.length : Int) → 0 ≤ A 174 i ∧ A 174 i ≤ 99 := by
  intro i h1 h2
  have hm : A 174 i ∈ zLst (A 174) 0 P.length := zLst_mem.mpr ⟨i, h1, by omega, rfl⟩
  rw [h.2.2.2.2] at hm
  obtain ⟨q, hq, e⟩ := List.mem_map.mp (zSort_mem.mp hm)
  rw [← e]
  exact (hP.2 q hq).1
theorem c_clear : ∃ A', mGd ar (d) 26 0 [.ref 173] [] (zW K A O t) = some (.inl none, zW K A' O t) ∧ zBag A' [] ∧ ∀ c, c ≠ 173 → A' c = A c := by
  refine ⟨_, i26_0, ⟨?_, ?_, ?_, ?_, rfl⟩, fun c h => ?_⟩
  · simp (disch := first | assumption | omega) only [zU_at, zU_c, zU_s, zU_r]; rfl
  · simp (disch := first | assumption | omega) only [zU_at, zU_c, zU_s, zU_r]; rfl
  · simp (disch := first | assumption | omega) only [zU_at, zU_c, zU_s, zU_r]; rfl
  · simp (disch := first | assumption | omega) only [zU_at, zU_c, zU_s, zU_r]; rfl
  · simp (disch := first | assumption | omega) only [zU_at, zU_c, zU_s, zU_r]
theorem put_loop {m v w : Int} (hm : A 173 0 = m) (hm8 : 0 ≤ m ∧ m < 8) (hr : ∀ i, 0 ≤ i → i < m → 0 ≤ A 174 i ∧ A 174 i ≤ 99) (hv : 0 ≤ v ∧ v ≤ 99) :
    ∀ (n : Nat) (x : Int) (B : Nat → Int → Int), x = n → x ≤ m → (∀ c, c ≠ 174 → B c = A c) → (∀ i, 0 ≤ i → i < x → B 174 i = A 174 i) → (∀ i, x ≤ i → i < m → B 174 (i + 1) = A 174 i ∧ v < A 174 i) →
    ∃ (q : Int) (A' : Nat → Int → Int), mGd ar (d) 28 15 [.ref 173, .int (zI v), .int (zI w), .int (zI x)] [] (zW K B O t) = some (.inl none, zW K A' O t) ∧ (0 ≤ q ∧ q ≤ m) ∧ (0 < q → A 174 (q - 1) ≤ v) ∧ (∀ i, q ≤ i → i < m → v < A 174 i) ∧ (∀ i, 0 ≤ i → i < q → A' 174 i = A 174 i) ∧ A' 174 q = v ∧ (∀ i, q ≤ i → i < m → A' 174 (i + 1) = A 174 i) ∧ A' 173 0 = m + 1 ∧ A' 173 1 = A 173 1 + v ∧ A' 173 2 = A 173 2 + w ∧ A' 173 3 = A 173 3 + v * w ∧ ∀ c, c ≠ 173 → c ≠ 174 → A' c = A c := by
  have fin : ∀ (x : Int) (B : Nat → Int → Int), 0 ≤ x ∧ x ≤ m → (0 < x → A 174 (x - 1) ≤ v) → (∀ c, c ≠ 174 → B c = A c) → (∀ i, 0 ≤ i → i < x → B 174 i = A 174 i) → (∀ i, x ≤ i → i < m → B 174 (i + 1) = A 174 i ∧ v < A 174 i) →
    ∃ (q : Int) (A' : Nat → Int → Int), mGd ar (d) 28 51 [.ref 173, .int (zI v), .int (zI w), .int (zI x)] [] (zW K B O t) = some (.inl none, zW K A' O t) ∧ (0 ≤ q ∧ q ≤ m) ∧ (0 < q → A 174 (q - 1) ≤ v) ∧ (∀ i, q ≤ i → i < m → v < A 174 i) ∧ (∀ i, 0 ≤ i → i < q → A' 174 i = A 174 i) ∧ A' 174 q = v ∧ (∀ i, q ≤ i → i < m → A' 174 (i + 1) = A 174 i) ∧ A' 173 0 = m + 1 ∧ A' 173 1 = A 173 1 + v ∧ A' 173 2 = A 173 2 + w ∧ A' 173 3 = A 173 3 + v * w ∧ ∀ c, c ≠ 173 → c ≠ 174 → A' c = A c := by
    intro x B hx hxv hB h1 h2
    have e173 := hB 173 (by decide)
    refine ⟨x, _, i28_51 (by omega), hx, hxv, fun i hi hm => (h2 i hi hm).2, ?_, ?_, ?_, ?_, ?_, ?_, ?_, ?_⟩
    · intro i hi hix
      simp (disch := first | assumption | omega) only [zU_at, zU_c, zU_s, zU_r]
      exact h1 i hi hix
    · simp (disch := first | assumption | omega) only [zU_at, zU_c, zU_s, zU_r]
    · intro i hi him
      simp (disch := first | assumption | omega) only [zU_at, zU_c, zU_s, zU_r]
      exact (h2 i hi him).1
    · simp (disch := first | assumption | omega) only [zU_at, zU_c, zU_s, zU_r]
      rw [e173, hm]
    · simp (disch := first | assumption | omega) only [zU_at, zU_c, zU_s, zU_r]
      rw [e173]
    · simp (disch := first | assumption | omega) only [zU_at, zU_c, zU_s, zU_r]
      rw [e173]
    · simp (disch := first | assumption | omega) only [zU_at, zU_c, zU_s, zU_r]
      rw [e173]
    · intro c hc1 hc2
      simp (disch := first | assumption | omega) only [zU_at, zU_c, zU_s, zU_r]
      exact hB c hc2
  intro n
  induction n with
  | zero =>
    intro x B hx hxm hB h1 h2
    simp (disch := first | assumption | omega | exact zr_and | exact zr_or | exact zr_xor | exact zr_shl | exact zr_shr | exact zr_ushr | exact zr_byte) only [i28_15, mB1_i, mB0_i, mB1n_i, mB0n_i, mB1_x, mB0_x, if_true, if_false, if_pos, if_neg]
    exact fin x B (by omega) (by omega) hB h1 h2
  | succ n ih =>
    intro x B hx hxm hB h1 h2
    have e := h1 (x - 1) (by omega) (by omega)
    have hr1 := hr (x - 1) (by omega) (by omega)
    by_cases hc : A 174 (x - 1) ≤ v
    · simp (disch := first | assumption | omega | exact zr_and | exact zr_or | exact zr_xor | exact zr_shl | exact zr_shr | exact zr_ushr | exact zr_byte) only [i28_15, i28_19, mB1_i, mB0_i, mB1n_i, mB0n_i, mB1_x, mB0_x, if_true, if_false, if_pos, if_neg]
      exact fin x B (by omega) (fun _ => hc) hB h1 h2
    · rw [i28_15 (by omega)]
      simp (disch := first | assumption | omega | exact zr_and | exact zr_or | exact zr_xor | exact zr_shl | exact zr_shr | exact zr_ushr | exact zr_byte) only [i28_19, i28_31, mB1_i, mB0_i, mB1n_i, mB0n_i, mB1_x, mB0_x, if_true, if_false, if_pos, if_neg]
      refine ih (x + -1) _ (by omega) (by omega) (fun c hc => ?_) (fun i hi hix => ?_) (fun i hi him => ?_)
      · simp (disch := first | assumption | omega) only [zU_at, zU_c, zU_s, zU_r]
        exact hB c hc
      · simp (disch := first | assumption | omega) only [zU_at, zU_c, zU_s, zU_r]
        exact h1 i hi (by omega)
      · by_cases hix : i = x - 1
        · subst hix
          rw [show x - 1 + 1 = x by omega]
          simp (disch := first | assumption | omega) only [zU_at, zU_c, zU_s, zU_r]
          exact ⟨e, by omega⟩
        · simp (disch := first | assumption | omega) only [zU_at, zU_c, zU_s, zU_r]
          exact h2 i (by omega) him
theorem c_put {v w : Int} {P : List (Int × Int)} (hb : zBag A P) (hP : zOkP P) (hl : P.length < 8) (hv : 0 ≤ v ∧ v ≤ 99) : ∃ A', mGd ar (d) 28 0 [.ref 173, .int (zI v), .int (zI w), .double 0] [] (zW K A O t) = some (.inl none, zW K A' O t) ∧ zBag A' ((v, w) :: P) ∧ ∀ c, c ≠ 173 → c ≠ 174 → A' c = A c := by
  have h0 := hb.1
  obtain ⟨q, A', e, hq, q1, q2, q3, q4, q5, q6, q7, q8, q9, q10⟩ := put_loop (d := d) (K := K) (O := O) (t := t) (ar := ar) (w := w) h0 (by omega) (fun i h1 h2 => zBag_rng hb hP i h1 h2) hv P.length _ A rfl (by omega) (fun _ _ => rfl) (fun _ _ _ => rfl) (fun i h1 h2 => by omega)
  refine ⟨A', ?_, ⟨?_, ?_, ?_, ?_, ?_⟩, q10⟩
  · rw [← e]
    simp (disch := first | assumption | omega | exact zr_and | exact zr_or | exact zr_xor | exact zr_shl | exact zr_shr | exact zr_ushr | exact zr_byte) only [i28_0, i28_10, h0, mB1_i, mB0_i, mB1n_i, mB0n_i, mB1_x, mB0_x, if_true, if_false, if_pos, if_neg]
  · rw [q6]; simp
  · rw [q7, hb.2.1]; simp [zS1]; omega
  · rw [q8, hb.2.2.1]; simp [zS2]; omega
  · rw [q9, hb.2.2.2.1]; simp [zS3]; omega
  · show zLst (A' 174) 0 (P.length + 1) = zIns v (zV P)
    rw [← hb.2.2.2.2]
    have eq : ((q.toNat : Nat) : Int) = q := by omega
    exact zIns_arr (q := q.toNat) (by omega) (fun i j hi hj hm => zBag_sorted hb i j hi hj hm) (fun h => by rw [eq]; exact q1 (by omega)) (fun i h1 h2 => q2 i (by omega) h2) (fun i h1 h2 => q3 i h1 (by omega)) (by rw [eq]; exact q4) (fun i h1 h2 => q5 i (by omega) h2)
theorem take_loop {m v w : Int} (hm : A 173 0 = m) (hm8 : 0 ≤ m ∧ m < 8) {x3 : Int} :
    ∀ (n : Nat) (x : Int) (B : Nat → Int → Int), x + n = m → 0 ≤ x → (∀ c, c ≠ 174 → B c = A c) → ∃ A', mGd ar (d) 150 48 [.ref 173, .int (zI v), .int (zI w), .int (zI x3), .int (zI x)] [] (zW K B O t) = some (.inl none, zW K A' O t) ∧ (∀ i, i < x → A' 174 i = B 174 i) ∧ (∀ i, x ≤ i → i < m → A' 174 i = B 174 (i + 1)) ∧ A' 173 0 = m ∧ A' 173 1 = A 173 1 - v ∧ A' 173 2 = A 173 2 - w ∧ A' 173 3 = A 173 3 - v * w ∧ ∀ c, c ≠ 173 → c ≠ 174 → A' c = A c := by
  intro n
  induction n with
  | zero =>
    intro x B hx h0 hB
    have e173 := hB 173 (by decide)
    have e1 : B 173 0 = m := by rw [e173, hm]
    simp (disch := first | assumption | omega | exact zr_and | exact zr_or | exact zr_xor | exact zr_shl | exact zr_shr | exact zr_ushr | exact zr_byte) only [i150_48, i150_79, mB1_i, mB0_i, mB1n_i, mB0n_i, mB1_x, mB0_x, if_true, if_false, if_pos, if_neg]
    refine ⟨_, rfl, ?_, ?_, ?_, ?_, ?_, ?_, ?_⟩
    · intro i hi; simp (disch := first | assumption | omega) only [zU_at, zU_c, zU_s, zU_r]
    · intro i hi hi2; omega
    · simp (disch := first | assumption | omega) only [zU_at, zU_c, zU_s, zU_r]; exact e1
    · simp (disch := first | assumption | omega) only [zU_at, zU_c, zU_s, zU_r]; rw [e173]
    · simp (disch := first | assumption | omega) only [zU_at, zU_c, zU_s, zU_r]; rw [e173]
    · simp (disch := first | assumption | omega) only [zU_at, zU_c, zU_s, zU_r]; rw [e173]
    · intro c h1 h2; simp (disch := first | assumption | omega) only [zU_at, zU_c, zU_s, zU_r]; exact hB c h2
  | succ n ih =>
    intro x B hx h0 hB
    have e173 := hB 173 (by decide)
    have e1 : B 173 0 = m := by rw [e173, hm]
    rw [i150_48 (by omega) (by omega)]
    simp (disch := first | assumption | omega | exact zr_and | exact zr_or | exact zr_xor | exact zr_shl | exact zr_shr | exact zr_ushr | exact zr_byte) only [i150_57, mB1_i, mB0_i, mB1n_i, mB0n_i, mB1_x, mB0_x, if_true, if_false, if_pos, if_neg]
    obtain ⟨A', e, a1, a2, a3⟩ := ih (x + 1) (zU B 174 x (B 174 (x + 1))) (by omega) (by omega) (fun c hc => by simp (disch := first | assumption | omega) only [zU_at, zU_c, zU_s, zU_r]; exact hB c hc)
    refine ⟨A', e, fun i hi => ?_, fun i hi hi2 => ?_, a3⟩
    · rw [a1 i (by omega)]; simp (disch := first | assumption | omega) only [zU_at, zU_c, zU_s, zU_r]
    · by_cases hix : i = x
      · rw [a1 i (by omega), hix]; simp (disch := first | assumption | omega) only [zU_at, zU_c, zU_s, zU_r]
      · rw [a2 i (by omega) hi2]; simp (disch := first | assumption | omega) only [zU_at, zU_c, zU_s, zU_r]
theorem take_find {m v w : Int} (hm : A 173 0 = m) (hm8 : 0 ≤ m ∧ m ≤ 8) (hr : ∀ i, 0 ≤ i → i < m → 0 ≤ A 174 i ∧ A 174 i ≤ 99) (hv : 0 ≤ v ∧ v ≤ 99) {u : Value} :
    ∀ (n : Nat) (x : Int), x + n = m → 0 ≤ x → (∃ i, x ≤ i ∧ i < m ∧ A 174 i = v) → ∃ q, x ≤ q ∧ q < m ∧ A 174 q = v ∧ mGd ar (d) 150 2 [.ref 173, .int (zI v), .int (zI w), .int (zI x), u] [] (zW K A O t) = mGd ar (d) 150 26 [.ref 173, .int (zI v), .int (zI w), .int (zI q), u] [] (zW K A O t) := by
  intro n
  induction n with
  | zero => rintro x hx h0 ⟨i, h1, h2, -⟩; omega
  | succ n ih =>
    rintro x hx h0 ⟨i, h1, h2, h3⟩
    have hr1 := hr x (by omega) (by omega)
    by_cases hxv : A 174 x = v
    · refine ⟨x, by omega, by omega, hxv, ?_⟩
      rw [i150_2 (by omega) (by omega)]
      simp (disch := first | assumption | omega | exact zr_and | exact zr_or | exact zr_xor | exact zr_shl | exact zr_shr | exact zr_ushr | exact zr_byte) only [i150_10, mB1_i, mB0_i, mB1n_i, mB0n_i, mB1_x, mB0_x, if_true, if_false, if_pos, if_neg]
    · obtain ⟨q, a1, a2, a3, a4⟩ := ih (x + 1) (by omega) (by omega) ⟨i, by
        have : i ≠ x := fun h => hxv (by rw [← h]; exact h3)
        omega, h2, h3⟩
      refine ⟨q, by omega, a2, a3, ?_⟩
      rw [← a4, i150_2 (by omega) (by omega)]
      simp (disch := first | assumption | omega | exact zr_and | exact zr_or | exact zr_xor | exact zr_shl | exact zr_shr | exact zr_ushr | exact zr_byte) only [i150_10, i150_20, mB1_i, mB0_i, mB1n_i, mB0n_i, mB1_x, mB0_x, if_true, if_false, if_pos, if_neg]
theorem zErase {v : Int} {L1 L2 L : List Int} (h : (L1 ++ v :: L2).Perm (v :: L)) : (L1 ++ L2).Perm L := by
  have h1 : (v :: (L1 ++ L2)).Perm (L1 ++ v :: L2) := List.perm_middle.symm
  exact (List.perm_cons v).mp (h1.trans h)
theorem c_take {v w : Int} {P : List (Int × Int)} (hb : zBag A ((v, w) :: P)) (hP : zOkP ((v, w) :: P)) : ∃ A', mGd ar (d) 150 0 [.ref 173, .int (zI v), .int (zI w), .double 0, .double 0] [] (zW K A O t) = some (.inl none, zW K A' O t) ∧ zBag A' P ∧ ∀ c, c ≠ 173 → c ≠ 174 → A' c = A c := by
  have h0 := hb.1
  rw [List.length_cons] at h0
  have hl := hP.1
  rw [List.length_cons] at hl
  have hr := zBag_rng hb hP
  rw [List.length_cons] at hr
  have hs := zBag_sorted hb
  rw [List.length_cons] at hs
  have hv := (hP.2 (v, w) List.mem_cons_self).1
  have hL := hb.2.2.2.2
  rw [List.length_cons] at hL
  have hin : v ∈ zLst (A 174) 0 (P.length + 1) := by
    rw [hL]; exact zSort_mem.mpr List.mem_cons_self
  obtain ⟨i, i1, i2, i3⟩ := zLst_mem.mp hin
  obtain ⟨q, q1, q2, q3, q4⟩ := take_find (d := d) (K := K) (O := O) (t := t) (ar := ar) (w := w) (u := .double 0) h0 (by omega) (fun i h1 h2 => hr i h1 (by omega)) hv (P.length + 1) 0 (by omega) (by omega) ⟨i, by omega, by omega, i3⟩
  obtain ⟨A', e, a1, a2, a3, a4, a5, a6, a7⟩ := take_loop (d := d) (K := K) (O := O) (t := t) (ar := ar) (A := zU A 173 0 (A 173 0 - 1)) (m := P.length) (v := v) (w := w) (x3 := q) (by simp (disch := first | assumption | omega) only [zU_at, zU_c, zU_s, zU_r]; omega) (by omega) (P.length - q.toNat) q (zU A 173 0 (A 173 0 - 1)) (by omega) (by omega) (fun c _ => rfl)
  refine ⟨A', ?_, ⟨a3, ?_, ?_, ?_, ?_⟩, ?_⟩
  · rw [← e]
    simp (disch := first | assumption | omega | exact zr_and | exact zr_or | exact zr_xor | exact zr_shl | exact zr_shr | exact zr_ushr | exact zr_byte) only [i150_0, i150_26, i150_35, q4, mB1_i, mB0_i, mB1n_i, mB0n_i, mB1_x, mB0_x, if_true, if_false, if_pos, if_neg]
  · rw [a4, zU_s (by omega), hb.2.1]; simp [zS1]; omega
  · rw [a5, zU_s (by omega), hb.2.2.1]; simp [zS2]; omega
  · rw [a6, zU_s (by omega), hb.2.2.2.1]; simp [zS3]; omega
  · have eq : ((q.toNat : Nat) : Int) = q := by omega
    have b1 : zLst (A 174) 0 (P.length + 1) = zLst (A 174) 0 q.toNat ++ v :: zLst (A 174) (q + 1) (P.length - q.toNat) := by
      rw [show P.length + 1 = q.toNat + (1 + (P.length - q.toNat)) by omega, zLst_add, zLst_add, Int.zero_add, eq]
      show _ ++ ((A 174 q :: []) ++ _) = _
      rw [q3]
      rfl
    have b2 : zLst (A' 174) 0 P.length = zLst (A 174) 0 q.toNat ++ zLst (A 174) (q + 1) (P.length - q.toNat) := by
      conv => lhs; rw [show P.length = q.toNat + (P.length - q.toNat) by omega]
      rw [zLst_add, Int.zero_add, eq]
      congr 1
      · exact zLst_ext (fun j hj => by rw [Int.zero_add, a1 _ (by omega)]; simp (disch := first | assumption | omega) only [zU_at, zU_c, zU_s, zU_r])
      · exact zLst_ext (fun j hj => by rw [a2 _ (by omega) (by omega), show q + 1 + (j : Int) = q + j + 1 by omega]; simp (disch := first | assumption | omega) only [zU_at, zU_c, zU_s, zU_r])
    refine zSorted_eq ?_ zSort_sorted ?_
    · rw [b2]
      have hs2 : (zLst (A 174) 0 (P.length + 1)).Pairwise (· ≤ ·) := by rw [hL]; exact zSort_sorted
      rw [b1] at hs2
      exact hs2.sublist (List.Sublist.append_left (List.sublist_cons_self _ _) _)
    · rw [b2]
      refine (zErase (v := v) ?_).trans (zSort_perm (L := P.map fun q => q.1)).symm
      rw [← b1, hL]
      exact zSort_perm
  · intro c h1 h2
    rw [a7 c h1 h2, zU_r h1]
theorem zCount_snoc {L : List Int} {x y : Int} : (L ++ [x]).count y = L.count y + if x = y then 1 else 0 := by
  rw [List.count_append, List.count_singleton]
  by_cases h : x = y <;> simp [h]
theorem com_loop {P : List (Int × Int)} (hb : zBag A P) (hP : zOkP P) :
    ∀ (n : Nat) (i : Nat) (f m a : Int), i + n = P.length → 0 < i → zIsCom (zLst (A 174) 0 i) f → m = (zLst (A 174) 0 i).count f → a = (zLst (A 174) 0 i).count (A 174 ((i : Int) - 1)) →
    ∃ f', mGd ar (d) 32 14 [.ref 173, .int (zI f), .int (zI m), .int (zI a), .int (zI i)] [] (zW K A O t) = some (.inl (some (.int (zI f'))), zW K A O t) ∧ zIsCom (zLst (A 174) 0 P.length) f' := by
  have h0 := hb.1
  have h8 := hP.1
  intro n
  induction n with
  | zero =>
    intro i f m a hi hp h1 h2 h3
    refine ⟨f, ?_, ?_⟩
    · simp (disch := first | assumption | omega | exact zr_and | exact zr_or | exact zr_xor | exact zr_shl | exact zr_shr | exact zr_ushr | exact zr_byte) only [i32_14, i32_76, mB1_i, mB0_i, mB1n_i, mB0n_i, mB1_x, mB0_x, if_true, if_false, if_pos, if_neg]
    · rw [← hi]; exact h1
  | succ n ih =>
    intro i f m a hi hp h1 h2 h3
    have hs := zBag_sorted hb
    have hr := zBag_rng hb hP
    have r1 := hr i (by omega) (by omega)
    have r2 := hr ((i : Int) - 1) (by omega) (by omega)
    have hlen : (zLst (A 174) 0 i).length = i := zLst_len
    have cm := List.count_le_length (a := f) (l := zLst (A 174) 0 i)
    have ca := List.count_le_length (a := A 174 ((i : Int) - 1)) (l := zLst (A 174) 0 i)
    have e1 : zLst (A 174) 0 (i + 1) = zLst (A 174) 0 i ++ [A 174 i] := by rw [zLst_add, Int.zero_add]; rfl
    have hle : ∀ y ∈ zLst (A 174) 0 i, y ≤ A 174 i := fun y hy => by
      obtain ⟨j, j1, j2, rfl⟩ := zLst_mem.mp hy
      exact hs j i j1 (by omega) (by omega)
    -- the run's length with the new one
    have ea : ((zLst (A 174) 0 (i + 1)).count (A 174 i) : Int) = if A 174 i = A 174 ((i : Int) - 1) then a + 1 else 1 := by
      rw [e1, zCount_snoc, if_pos rfl]
      by_cases hx : A 174 i = A 174 ((i : Int) - 1)
      · rw [if_pos hx, h3, hx]; omega
      · rw [if_neg hx]
        have : A 174 (i : Int) ∉ zLst (A 174) 0 i := fun hm => by
          obtain ⟨j, j1, j2, j3⟩ := zLst_mem.mp hm
          have q2 := hs ((i : Int) - 1) i (by omega) (by omega) (by omega)
          by_cases hj : j = (i : Int) - 1
          · rw [hj] at j3; exact hx j3.symm
          · have q1 := hs j ((i : Int) - 1) j1 (by omega) (by omega)
            omega
        rw [List.count_eq_zero_of_not_mem this]
        omega
    have run : mGd ar (d) 32 14 [.ref 173, .int (zI f), .int (zI m), .int (zI a), .int (zI i)] [] (zW K A O t) = (if ((zLst (A 174) 0 (i + 1)).count (A 174 i) : Int) ≤ m then mGd ar (d) 32 14 [.ref 173, .int (zI f), .int (zI m), .int (zI (((zLst (A 174) 0 (i + 1)).count (A 174 i) : Int))), .int (zI ((i + 1 : Nat)))] [] (zW K A O t) else mGd ar (d) 32 14 [.ref 173, .int (zI ((A 174 i))), .int (zI (((zLst (A 174) 0 (i + 1)).count (A 174 i) : Int))), .int (zI (((zLst (A 174) 0 (i + 1)).count (A 174 i) : Int))), .int (zI ((i + 1 : Nat)))] [] (zW K A O t)) := by
      rw [ea, show ((i + 1 : Nat) : Int) = (i : Int) + 1 by omega, i32_14 (by omega) (by omega)]
      by_cases hx : A 174 i = A 174 ((i : Int) - 1)
      · rw [if_pos hx]
        simp (disch := first | assumption | omega | exact zr_and | exact zr_or | exact zr_xor | exact zr_shl | exact zr_shr | exact zr_ushr | exact zr_byte) only [i32_23, i32_28, i32_47, i32_54, i32_60, i32_70, mB1_i, mB0_i, mB1n_i, mB0n_i, mB1_x, mB0_x, if_true, if_false, if_pos, if_neg]
      · rw [if_neg hx]
        simp (disch := first | assumption | omega | exact zr_and | exact zr_or | exact zr_xor | exact zr_shl | exact zr_shr | exact zr_ushr | exact zr_byte) only [i32_23, i32_28, i32_53, i32_54, i32_60, i32_70, mB1_i, mB0_i, mB1n_i, mB0n_i, mB1_x, mB0_x, if_true, if_false, if_pos, if_neg]
    rw [run]
    by_cases hc : ((zLst (A 174) 0 (i + 1)).count (A 174 i) : Int) ≤ m
    · rw [if_pos hc]
      have hne : A 174 i ≠ f := fun h => by
        rw [e1, zCount_snoc, if_pos rfl, h] at hc; omega
      have hgt : f < A 174 i := by
        have := hle f h1.1; omega
      refine ih (i + 1) f m _ (by omega) (by omega) ⟨?_, fun y => ?_, fun y hy => ?_⟩ ?_ ?_
      · rw [e1]; exact List.mem_append_left _ h1.1
      · have := h1.2.1 y
        by_cases hy : A 174 i = y
        · rw [← hy]; rw [e1, zCount_snoc (y := f), if_neg hne, ← e1]; omega
        · rw [e1, zCount_snoc, zCount_snoc, if_neg hne, if_neg hy]; exact this
      · have := h1.2.2 y hy
        rw [e1, zCount_snoc, zCount_snoc, if_neg hne, if_neg (by omega)]; exact this
      · rw [e1, zCount_snoc, if_neg hne]; exact h2
      · rw [show ((i + 1 : Nat) : Int) - 1 = i by omega]
    · rw [if_neg hc]
      refine ih (i + 1) _ _ _ (by omega) (by omega) ⟨?_, fun y => ?_, fun y hy => ?_⟩ rfl ?_
      · rw [e1]; exact List.mem_append_right _ List.mem_cons_self
      · have := h1.2.1 y
        by_cases hy : A 174 i = y
        · rw [← hy]; exact Nat.le_refl _
        · rw [e1, zCount_snoc, if_neg hy, ← e1]; omega
      · have := h1.2.1 y
        rw [e1, zCount_snoc (y := y), if_neg (by omega), ← e1]; omega
      · rw [show ((i + 1 : Nat) : Int) - 1 = i by omega]
theorem c_com {P : List (Int × Int)} (hb : zBag A P) (hP : zOkP P) (hl : 0 < P.length) : mGd ar (d) 32 0 [.ref 173, .double 0, .double 0, .double 0, .double 0] [] (zW K A O t) = some (.inl (some (.int (zI (zCom (zV P))))), zW K A O t) := by
  have h0 := hb.1
  have h8 := hP.1
  have r1 := zBag_rng hb hP 0 (by omega) (by omega)
  have e1 : zLst (A 174) 0 1 = [A 174 0] := rfl
  obtain ⟨f, e, hf⟩ := com_loop (d := d) (K := K) (O := O) (t := t) (ar := ar) hb hP (P.length - 1) 1 (A 174 0) 1 1 (by omega) (by omega) ⟨by rw [e1]; exact List.mem_cons_self, fun y => by
      rw [e1, List.count_singleton, List.count_singleton]; simp; split <;> omega, fun y hy => by
      rw [e1, List.count_singleton, List.count_singleton]; simp; omega⟩ (by rw [e1]; simp) (by rw [e1]; simp)
  rw [hb.2.2.2.2] at hf
  rw [zCom_eq hf, ← e, i32_0, i32_14 (by omega) (by omega)]
  simp (disch := first | assumption | omega | exact zr_and | exact zr_or | exact zr_xor | exact zr_shl | exact zr_shr | exact zr_ushr | exact zr_byte) only [i32_23, i32_53, i32_54, i32_60, i32_70, mB1_i, mB0_i, mB1n_i, mB0n_i, mB1_x, mB0_x, if_true, if_false, if_pos, if_neg]
  rfl
theorem c_greatest {P : List (Int × Int)} (hb : zBag A P) (hP : zOkP P) (hl : 0 < P.length) : mGd ar (d) 31 0 [.ref 173] [] (zW K A O t) = some (.inl (some (.int (zI (zAt (zV P) (P.length - 1))))), zW K A O t) := by
  have h0 := hb.1
  have h8 := hP.1
  rw [← zLst_at0 hb.2.2.2.2 (by omega) (by omega), ← h0]
  simp (disch := first | assumption | omega | exact zr_and | exact zr_or | exact zr_xor | exact zr_shl | exact zr_shr | exact zr_ushr | exact zr_byte) only [i31_0, i31_11, i31_22, mB1_i, mB0_i, mB1n_i, mB0n_i, mB1_x, mB0_x, if_true, if_false, if_pos, if_neg]
theorem c_least {P : List (Int × Int)} (hb : zBag A P) (hl : 0 < P.length) : mGd ar (d) 30 0 [.ref 173] [] (zW K A O t) = some (.inl (some (.int (zI (zAt (zV P) 0)))), zW K A O t) := by
  rw [← zLst_at0 hb.2.2.2.2 (by omega) (by omega)]
  exact i30_0
theorem zAt_rng {P : List (Int × Int)} (hP : zOkP P) {i : Int} (h1 : 0 ≤ i) (h2 : i < P.length) : 0 ≤ zAt (zV P) i ∧ zAt (zV P) i ≤ 99 := by
  have hm : zAt (zV P) i ∈ zV P := by
    have hlen : (zV P).length = P.length := by unfold zV; rw [zSort_len, List.length_map]
    unfold zAt
    rw [List.getD_eq_getElem?_getD, List.getElem?_eq_getElem (by rw [hlen]; omega), Option.getD_some]
    exact List.getElem_mem _
  obtain ⟨q, hq, e⟩ := List.mem_map.mp (zSort_mem.mp hm)
  rw [← e]
  exact (hP.2 q hq).1
theorem c_by {r : Int} {P : List (Int × Int)} (hb : zBag A P) (hP : zOkP P) (hl : 0 < P.length) (hr : 0 ≤ r ∧ r ≤ 5) : mGd ar (d + 1) 29 0 [.ref 173, .int (zI r)] [] (zW K A O t) = some (.inl (some (.int (zI (zMid r P)))), zW K A O t) := by
  have h0 := hb.1
  have h1 := hb.2.1
  have h2 := hb.2.2.1
  have h3 := hb.2.2.2.1
  have h8 := hP.1
  obtain ⟨s1, s2, s3⟩ := zOk_sums hP.2
  unfold zMid
  have c1 := c_least (d := d) (K := K) (O := O) (t := t) (ar := ar) hb hl
  have c2 := c_greatest (d := d) (K := K) (O := O) (t := t) (ar := ar) hb hP hl
  have c3 := c_com (d := d) (K := K) (O := O) (t := t) (ar := ar) hb hP hl
  have t1 : Int.tdiv (A 173 1) (A 173 0) = A 173 1 / A 173 0 := Int.tdiv_eq_ediv_of_nonneg (by omega)
  have t2 : Int.tdiv (A 173 0 - 1) 2 = (A 173 0 - 1) / 2 := Int.tdiv_eq_ediv_of_nonneg (by omega)
  have t3 : Int.tdiv (A 173 0) 2 = A 173 0 / 2 := Int.tdiv_eq_ediv_of_nonneg (by omega)
  have t4 : Int.tdiv (A 173 3) (A 173 2) = A 173 3 / A 173 2 := Int.tdiv_eq_ediv_of_nonneg (by omega)
  rw [i29_0 (by omega), if_neg (by omega), i29_7 (by omega), if_neg (by omega), i29_16 (by omega)]
  by_cases r0 : r = 0
  · rw [if_pos r0, if_pos r0, i29_52 (by omega) (by omega) (by omega), t1, h0, h1]
  rw [if_neg r0, if_neg r0]
  by_cases r1 : r = 1
  · rw [if_pos r1, if_pos r1, i29_62 (by omega) (by omega), t2, zLst_at0 hb.2.2.2.2 (by omega) (by omega), h0]
  rw [if_neg r1, if_neg r1]
  by_cases r2 : r = 2
  · rw [if_pos r2, if_pos r2, i29_76 (by omega) (by omega), t3, zLst_at0 hb.2.2.2.2 (by omega) (by omega), h0]
  rw [if_neg r2, if_neg r2]
  by_cases r3 : r = 3
  · have a1 := zAt_rng hP (i := 0) (by omega) (by omega)
    have a2 := zAt_rng hP (i := P.length - 1) (by omega) (by omega)
    have t5 : Int.tdiv (zAt (zV P) 0 + zAt (zV P) (P.length - 1)) 2 = (zAt (zV P) 0 + zAt (zV P) (P.length - 1)) / 2 := Int.tdiv_eq_ediv_of_nonneg (by omega)
    rw [if_pos r3, if_pos r3]
    simp (disch := first | assumption | omega | exact zr_and | exact zr_or | exact zr_xor | exact zr_shl | exact zr_shr | exact zr_ushr | exact zr_byte) only [i29_88, i29_92, i29_96, c1, c2, t5, mB1_i, mB0_i, mB1n_i, mB0n_i, mB1_x, mB0_x, if_true, if_false, if_pos, if_neg]
  rw [if_neg r3, if_neg r3]
  by_cases r4 : r = 4
  · rw [if_pos r4, if_pos r4]
    simp (disch := first | assumption | omega | exact zr_and | exact zr_or | exact zr_xor | exact zr_shl | exact zr_shr | exact zr_ushr | exact zr_byte) only [i29_100, i29_104, c3, mB1_i, mB0_i, mB1n_i, mB0n_i, mB1_x, mB0_x, if_true, if_false, if_pos, if_neg]
  rw [if_neg r4, if_neg r4, i29_105 (by omega) (by omega) (by omega), t4, h2, h3]
theorem c_by0 {r : Int} (hb : zBag A []) : mGd ar (d) 29 0 [.ref 173, .int (zI r)] [] (zW K A O t) = some (.inl (some (.int (zI (-1)))), zW K A O t) := by
  have h0 := hb.1
  simp only [List.length_nil, Int.natCast_zero] at h0
  simp (disch := first | assumption | omega | exact zr_and | exact zr_or | exact zr_xor | exact zr_shl | exact zr_shr | exact zr_ushr | exact zr_byte) only [i29_0, i29_14, mB1_i, mB0_i, mB1n_i, mB0n_i, mB1_x, mB0_x, if_true, if_false, if_pos, if_neg]
end BAG
