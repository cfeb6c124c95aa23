/-! CONTRACTS, 9: a day -/
theorem zCom_ex {L : List Int} : ∀ {M : List Int}, M ≠ [] → (∀ y ∈ M, y ∈ L) → ∃ x ∈ M, ∀ y ∈ M, L.count y ≤ L.count x ∧ (y < x → L.count y < L.count x)
  | [], h, _ => absurd rfl h
  | [x], _, _ => ⟨x, List.mem_cons_self, fun y hy => by
      rcases List.mem_cons.mp hy with rfl | hy
      · exact ⟨Nat.le_refl _, fun h => by omega⟩
      · cases hy⟩
  | x :: z :: M, _, hL => by
    obtain ⟨u, hu, hm⟩ := zCom_ex (L := L) (M := z :: M) (by simp) (fun y hy => hL y (List.mem_cons_of_mem _ hy))
    by_cases h1 : L.count u < L.count x ∨ (L.count u = L.count x ∧ x < u)
    · refine ⟨x, List.mem_cons_self, fun y hy => ?_⟩
      rcases List.mem_cons.mp hy with rfl | hy
      · exact ⟨Nat.le_refl _, fun h => by omega⟩
      · have := hm y hy
        refine ⟨by omega, fun h => ?_⟩
        rcases h1 with h1 | h1
        · omega
        · have := this.2 (by omega); omega
    · refine ⟨u, List.mem_cons_of_mem _ hu, fun y hy => ?_⟩
      rcases List.mem_cons.mp hy with rfl | hy
      · exact ⟨by omega, fun h => by omega⟩
      · exact hm y hy
theorem zCom_mem {L : List Int} (h : L ≠ []) : zCom L ∈ L := by
  obtain ⟨x, hx, hm⟩ := zCom_ex (L := L) h (fun y hy => hy)
  have hp : 0 < L.count x := List.count_pos_iff.mpr hx
  have hc : zIsCom L x := ⟨hx, fun y => by
    by_cases hy : y ∈ L
    · exact (hm y hy).1
    · rw [List.count_eq_zero_of_not_mem hy]; omega, fun y hyx => by
    by_cases hy : y ∈ L
    · exact (hm y hy).2 hyx
    · rw [List.count_eq_zero_of_not_mem hy]; omega⟩
  rw [zCom_eq hc]; exact hx
theorem zMid_rng {r : Int} {P : List (Int × Int)} (hP : zOkP P) (hl : 0 < P.length) (hr : 0 ≤ r ∧ r ≤ 5) : 0 ≤ zMid r P ∧ zMid r P ≤ 99 := by
  obtain ⟨s1, s2, s3⟩ := zOk_sums hP.2
  unfold zMid
  split
  · refine ⟨Int.ediv_nonneg s1.1 (by omega), ?_⟩
    have := Int.ediv_le_ediv (show (0 : Int) < P.length by omega) s1.2
    rw [Int.mul_ediv_cancel _ (by omega)] at this
    exact this
  split
  · exact zAt_rng hP (by omega) (by omega)
  split
  · exact zAt_rng hP (by omega) (by omega)
  split
  · have a1 := zAt_rng hP (i := 0) (by omega) (by omega)
    have a2 := zAt_rng hP (i := P.length - 1) (by omega) (by omega)
    omega
  split
  · have hm : zCom (zV P) ∈ zV P := zCom_mem (by
      intro h
      have : (zV P).length = P.length := by unfold zV; rw [zSort_len, List.length_map]
      rw [h] at this
      simp at this
      omega)
    obtain ⟨q, hq, e⟩ := List.mem_map.mp (zSort_mem.mp hm)
    rw [← e]
    exact (hP.2 q hq).1
  · refine ⟨Int.ediv_nonneg s3.1 (by omega), ?_⟩
    have := Int.ediv_le_ediv (show (0 : Int) < zS2 P by omega) s3.2
    rw [Int.mul_ediv_cancel _ (by omega)] at this
    exact this
theorem zWP_ok {h : Int → Int} {s k : Int} (hw : zHW0 h) (hk : 0 ≤ k ∧ k < 4) : zOkP (zSel s (zWP h k) 0 (h 0).toNat) := by
  obtain ⟨w0, -, -, -, -, -, -, wn, ww, -⟩ := hw
  have := zSel_le (s := s) (f := zWP h k) (m := (h 0).toNat) (p := 0)
  refine ⟨by omega, fun q hq => ?_⟩
  obtain ⟨i, h1, h2, -, rfl⟩ := zSel_mem hq
  exact ⟨wn i k (by omega) (by omega) hk.1 hk.2, ww i (by omega) (by omega)⟩
theorem zSel_pos {α : Type} {f : Int → α} {n : Int} (hn : 0 < n ∧ n ≤ 8) : 0 < (zSel (zAll n) f 0 n.toNat).length := by
  have h1 := zSel_in (s := zAll n) (f := f) (m := n.toNat) (p := 0) (i := 0) (by omega) (by omega) (by rw [zB_all (by omega) (by decide)]; exact decide_eq_true hn.1)
  exact List.length_pos_of_mem h1
def zSm (f : Int → Int) : Int → Nat → Int
  | _, 0 => 0
  | p, m + 1 => f p + zSm f (p + 1) m
theorem zSm_congr {f g : Int → Int} : ∀ {m : Nat} {p : Int}, (∀ i, p ≤ i → i < p + m → f i = g i) → zSm f p m = zSm g p m
  | 0, _, _ => rfl
  | m + 1, p, h => by
    show f p + zSm f (p + 1) m = g p + zSm g (p + 1) m
    rw [h p (by omega) (by omega), zSm_congr (m := m) (p := p + 1) (fun i h1 h2 => h i (by omega) (by omega))]
theorem zSm_rng {f : Int → Int} {c : Int} : ∀ {m : Nat} {p : Int}, (∀ i, p ≤ i → i < p + m → 0 ≤ f i ∧ f i ≤ c) → 0 ≤ zSm f p m ∧ zSm f p m ≤ c * m
  | 0, _, _ => by show (0 : Int) ≤ 0 ∧ (0 : Int) ≤ c * ((0 : Nat) : Int); simp
  | m + 1, p, h => by
    have h0 := h p (by omega) (by omega)
    have ih := zSm_rng (m := m) (p := p + 1) (fun i h1 h2 => h i (by omega) (by omega))
    show 0 ≤ f p + zSm f (p + 1) m ∧ f p + zSm f (p + 1) m ≤ c * ((m + 1 : Nat) : Int)
    rw [show c * ((m + 1 : Nat) : Int) = c * m + c by rw [Int.natCast_add]; exact Int.mul_add c m 1 ▸ by simp]
    omega
noncomputable def zMan (h : Int → Int) (k : Int) : Int := if 0 < h 0 then zMid (h (7 + k)) (zSel (zAll (h 0)) (zWP h k) 0 (h 0).toNat) else h (11 + k)
noncomputable def zNum (h : Int → Int) (L : zLines) (p k : Int) : Int := if h (15 + 6 * p + 5) = 1 then h (15 + 6 * p + k) else zGoes p k (h (15 + 6 * p + k)) (zMan h k) (h 3) L
noncomputable def zCh1 (h : Int → Int) (L : zLines) (p k : Int) : Int := if zNum h L p k = h (15 + 6 * p + k) then 0 else 1
noncomputable def zChg (h : Int → Int) (L : zLines) : Int := zSm (fun p => zSm (zCh1 h L p) 0 4) 0 (h 0).toNat
noncomputable def zGo1 (h : Int → Int) (L : zLines) (i : Int) : Int := if 11 ≤ i ∧ i < 15 then zMan h (i - 11) else if 15 ≤ i ∧ i < 15 + 6 * h 0 ∧ (i - 15) % 6 < 4 then zNum h L ((i - 15) / 6) ((i - 15) % 6) else h i
theorem zMan_rng {h : Int → Int} (hw : zHW0 h) {k : Int} (hk : 0 ≤ k ∧ k < 4) : 0 ≤ zMan h k ∧ zMan h k ≤ 99 := by
  have w0 := hw.1
  unfold zMan
  split
  · exact zMid_rng (zWP_ok hw hk) (zSel_pos (by omega)) (hw.2.2.2.2.2.1 k hk.1 hk.2)
  · exact hw.2.2.2.2.2.2.1 k hk.1 hk.2
theorem zNum_rng {h : Int → Int} {L : zLines} (hw : zHW0 h) {p k : Int} (hp : 0 ≤ p ∧ p < h 0) (hk : 0 ≤ k ∧ k < 4) : 0 ≤ zNum h L p k ∧ zNum h L p k ≤ 99 := by
  unfold zNum
  split
  · exact hw.2.2.2.2.2.2.2.1 p k hp.1 hp.2 hk.1 hk.2
  · unfold zGoes; omega
theorem zCh1_rng {h : Int → Int} {L : zLines} {p k : Int} : 0 ≤ zCh1 h L p k ∧ zCh1 h L p k ≤ 1 := by
  unfold zCh1; split <;> omega
theorem zChg_rng {h : Int → Int} {L : zLines} (hw : zHW0 h) : 0 ≤ zChg h L ∧ zChg h L ≤ 32 := by
  have w0 := hw.1
  have := zSm_rng (f := fun p => zSm (zCh1 h L p) 0 4) (c := 4) (m := (h 0).toNat) (p := 0) (fun i _ _ => by
    have := zSm_rng (f := zCh1 h L i) (c := 1) (m := 4) (p := 0) (fun j _ _ => zCh1_rng)
    omega)
  unfold zChg
  omega
theorem zGo1_lo {h : Int → Int} {L : zLines} {i : Int} (hi : i < 11) : zGo1 h L i = h i := by
  unfold zGo1; rw [if_neg (by omega), if_neg (by omega)]
theorem zGo1_man {h : Int → Int} {L : zLines} {k : Int} (hk : 0 ≤ k ∧ k < 4) : zGo1 h L (11 + k) = zMan h k := by
  unfold zGo1; rw [if_pos (by omega), show 11 + k - 11 = k by omega]
theorem zGo1_num {h : Int → Int} {L : zLines} {p k : Int} (hp : 0 ≤ p ∧ p < h 0) (hk : 0 ≤ k ∧ k < 4) : zGo1 h L (15 + 6 * p + k) = zNum h L p k := by
  unfold zGo1; rw [if_neg (by omega), if_pos (by omega), show (15 + 6 * p + k - 15) / 6 = p by omega, show (15 + 6 * p + k - 15) % 6 = k by omega]
theorem zGo1_wt {h : Int → Int} {L : zLines} {p k : Int} (hp : 0 ≤ p) (hk : 4 ≤ k ∧ k < 6) : zGo1 h L (15 + 6 * p + k) = h (15 + 6 * p + k) := by
  unfold zGo1; rw [if_neg (by omega), if_neg (by omega)]
theorem zGo1_hi {h : Int → Int} {L : zLines} {i : Int} (hw : h 0 ≤ 8) (hi : 63 ≤ i) : zGo1 h L i = h i := by
  unfold zGo1; rw [if_neg (by omega), if_neg (by omega)]
theorem zGo1_wf {h : Int → Int} {L : zLines} (hw : zHW0 h) : zHW0 (zGo1 h L) := by
  have hw' := hw
  obtain ⟨w0, w1, w2, w3, w4, wr, wm, wn, ww, ws⟩ := hw
  unfold zHW0
  rw [zGo1_lo (by omega), zGo1_lo (by omega), zGo1_lo (by omega), zGo1_lo (by omega), zGo1_lo (by omega)]
  refine ⟨w0, w1, w2, w3, w4, fun k h1 h2 => ?_, fun k h1 h2 => ?_, fun p k h1 h2 h3 h4 => ?_, fun p h1 h2 => ?_, fun p h1 h2 => ?_⟩
  · rw [zGo1_lo (by omega)]; exact wr k h1 h2
  · rw [zGo1_man ⟨h1, h2⟩]; exact zMan_rng hw' ⟨h1, h2⟩
  · rw [zGo1_num ⟨h1, h2⟩ ⟨h3, h4⟩]; exact zNum_rng hw' ⟨h1, h2⟩ ⟨h3, h4⟩
  · rw [zGo1_wt h1 (by omega)]; exact ww p h1 h2
  · rw [zGo1_wt h1 (by omega)]; exact ws p h1 h2
section DAY
variable {ar : Nat → Nat × (Nat → Int32)} {d t : Nat} {K : Nat → Nat → Option Nat} {A A' : Nat → Int → Int} {O : Nat → Int64}
theorem zLawC_same {b : Nat} {L : zLines} {B : Nat → Int → Int} (h : zLawC A b L) (e : ∀ c, b ≤ c → c ≤ b + 4 → B c = A c) : zLawC B b L := by
  obtain ⟨L1, L2, L3, L4, L5⟩ := h
  refine ⟨by rw [e b (by omega) (by omega)]; exact L1, L2, L3, L4, ?_⟩
  exact zLwC_of (fun i _ _ => by rw [e _ (by omega) (by omega)]) (fun i _ _ => by rw [e _ (by omega) (by omega)]) (fun i _ _ => by rw [e _ (by omega) (by omega)]) (fun i _ _ => by rw [e _ (by omega) (by omega)]) L 0 0 (by omega) (by omega) (by omega) (by omega) L5
theorem zSel_HP {a : Nat} {h : Int → Int} (hr : zHR0 A a h) {B : Nat → Int → Int} {s k : Int} (e0 : B a 0 = A a 0) (e1 : B (a + 1) = A (a + 1)) (e2 : B (a + 2) = A (a + 2)) (hk : 0 ≤ k ∧ k < 4) : zSel s (zHP B a k) 0 (B a 0).toNat = zSel s (zWP h k) 0 (h 0).toNat := by
  rw [e0, zHP_of e1 e2]; exact zHP_sel hr hk
theorem pd_man {a b : Nat} (ha : isHall a) (hb : isLaw b) {h : Int → Int} (hw : zHW0 h) (hr : zHR0 A a h) {dr : Int} {u5 u6 u7 : Value} :
    ∀ (m : Nat) (k : Int) (B : Nat → Int → Int), k + m = 4 → 0 ≤ k → (∀ c, c ≠ a + 4 → c ≠ 173 → c ≠ 174 → B c = A c) → (∀ j, 0 ≤ j → j < k → B (a + 4) j = zMan h j) → (∀ j, k ≤ j → j < 4 → B (a + 4) j = h (11 + j)) →
    ∃ (B' : Nat → Int → Int) (k' : Int), mGd ar (d + 3) 22 3 [.ref a, .ref b, .ref 173, .int (zI dr), .int (zI k), u5, u6, u7] [] (zW K B O t) = mGd ar (d + 3) 22 43 [.ref a, .ref b, .ref 173, .int (zI dr), .int (zI (k')), u5, u6, u7] [] (zW K B' O t) ∧ (∀ c, c ≠ a + 4 → c ≠ 173 → c ≠ 174 → B' c = A c) ∧ ∀ j, 0 ≤ j → j < 4 → B' (a + 4) j = zMan h j := by
  have hlt := isHall_lt ha
  have hw0 := hw.1
  have hr0 := hr.1
  intro m
  induction m with
  | zero =>
    intro k B hk h0 hB h1 h2
    refine ⟨B, k, ?_, hB, fun j j0 j4 => h1 j j0 (by omega)⟩
    simp (disch := first | assumption | omega | exact zr_and | exact zr_or | exact zr_xor | exact zr_shl | exact zr_shr | exact zr_ushr | exact zr_byte) only [i22_3, mB1_i, mB0_i, mB1n_i, mB0n_i, mB1_x, mB0_x, if_true, if_false, if_pos, if_neg]
  | succ m ih =>
    intro k B hk h0 hB h1 h2
    have e0 : B a 0 = A a 0 := by rw [hB a (by omega) (by omega) (by omega)]
    by_cases hp : 0 < h 0
    · have e1 : B (a + 1) = A (a + 1) := hB _ (by omega) (by omega) (by omega)
      have e2 : B (a + 2) = A (a + 2) := hB _ (by omega) (by omega) (by omega)
      have e3 : B (a + 3) k = h (7 + k) := by rw [hB _ (by omega) (by omega) (by omega)]; exact hr.2.2.2.2.2.1 k h0 (by omega)
      have hok := zHOk_of (zHOk_of_HR hw hr) (B := B) (hB a (by omega) (by omega) (by omega)) e1 e2
      have wr := hw.2.2.2.2.2.1 k h0 (by omega)
      obtain ⟨B1, g1, g2⟩ := c_midAll (d := d) (K := K) (O := O) (t := t) (ar := ar) (A := B) ha (k := k) (r := h (7 + k)) hok (by omega) wr (by omega)
      rw [zSel_HP hr e0 e1 e2 (by omega), e0, hr0] at g1
      have hman : zMan h k = zMid (h (7 + k)) (zSel (zAll (h 0)) (zWP h k) 0 (h 0).toNat) := by unfold zMan; rw [if_pos hp]
      rw [← hman] at g1
      obtain ⟨B', k', f1, f2⟩ := ih (k + 1) (zU B1 (a + 4) k (zMan h k)) (by omega) (by omega) (fun c c1 c2 c3 => by rw [zU_r c1, g2 c c2 c3, hB c c1 c2 c3]) (fun j j0 j1 => by
        by_cases hj : j = k
        · rw [hj]; simp (disch := first | assumption | omega) only [zU_at, zU_c, zU_s, zU_r]
        · simp (disch := first | assumption | omega) only [zU_at, zU_c, zU_s, zU_r]; rw [g2 _ (by omega) (by omega)]; exact h1 j j0 (by omega)) (fun j j0 j1 => by simp (disch := first | assumption | omega) only [zU_at, zU_c, zU_s, zU_r]; rw [g2 _ (by omega) (by omega)]; exact h2 j (by omega) j1)
      refine ⟨B', k', ?_, f2⟩
      rw [← f1, i22_3 ha hb (by omega)]
      simp (disch := first | assumption | omega | exact zr_and | exact zr_or | exact zr_xor | exact zr_shl | exact zr_shr | exact zr_ushr | exact zr_byte) only [i22_9, i22_16, i22_36, e3, g1, mB1_i, mB0_i, mB1n_i, mB0n_i, mB1_x, mB0_x, if_true, if_false, if_pos, if_neg]
    · refine ⟨B, k, ?_, hB, fun j j0 j4 => ?_⟩
      · simp (disch := first | assumption | omega | exact zr_and | exact zr_or | exact zr_xor | exact zr_shl | exact zr_shr | exact zr_ushr | exact zr_byte) only [i22_3, i22_9, mB1_i, mB0_i, mB1n_i, mB0n_i, mB1_x, mB0_x, if_true, if_false, if_pos, if_neg]
      · by_cases hj : j < k
        · exact h1 j j0 hj
        · rw [h2 j (by omega) j4]; unfold zMan; rw [if_neg hp]
/-- the goings of one person -/
theorem pd_in {a b : Nat} (ha : isHall a) (hb : isLaw b) (hab : b + 6 < a ∨ a + 8 < b) {h : Int → Int} {L : zLines} (hw : zHW0 h) (hr : zHR0 A a h) (hL : zLawC A b L) {dr p : Int} (hp : 0 ≤ p ∧ p < h 0) :
    ∀ (m : Nat) (k c : Int) (B : Nat → Int → Int) (u7 : Value), k + m = 4 → 0 ≤ k → (∀ x, x ≠ a + 1 → x ≠ a + 4 → x ≠ 173 → x ≠ 174 → x ≠ b + 5 → x ≠ b + 6 → B x = A x) → (∀ j, 0 ≤ j → j < 4 → B (a + 4) j = zMan h j) → (∀ j, k ≤ j → j < 4 → B (a + 1) (p * 4 + j) = h (15 + 6 * p + j)) →
    ∃ (B' : Nat → Int → Int) (v7 : Value), mGd ar (d + 4) 22 61 [.ref a, .ref b, .ref 173, .int (zI dr), .int (zI c), .int (zI p), .int (zI k), u7] [] (zW K B O t) = mGd ar (d + 4) 22 110 [.ref a, .ref b, .ref 173, .int (zI dr), .int (zI ((c + zSm (zCh1 h L p) k m))), .int (zI p), .int (zI 4), v7] [] (zW K B' O t) ∧ (∀ x, x ≠ a + 1 → x ≠ b + 5 → x ≠ b + 6 → B' x = B x) ∧ (∀ i, i < p * 4 + k ∨ p * 4 + 4 ≤ i → B' (a + 1) i = B (a + 1) i) ∧ ∀ j, k ≤ j → j < 4 → B' (a + 1) (p * 4 + j) = zNum h L p j := by
  have hlt := isHall_lt ha
  have hlb := isLaw_lt hb
  have hw0 := hw.1
  intro m
  induction m with
  | zero =>
    intro k c B u7 hk k0 hB hM hN
    refine ⟨B, u7, ?_, fun _ _ _ _ => rfl, fun _ _ => rfl, fun j j0 j1 => by omega⟩
    rw [show c + zSm (zCh1 h L p) k 0 = c from Int.add_zero _, show k = 4 by omega]
    simp (disch := first | assumption | omega | exact zr_and | exact zr_or | exact zr_xor | exact zr_shl | exact zr_shr | exact zr_ushr | exact zr_byte) only [i22_61, mB1_i, mB0_i, mB1n_i, mB0n_i, mB1_x, mB0_x, if_true, if_false, if_pos, if_neg]
  | succ m ih =>
    intro k c B u7 hk k0 hB hM hN
    have e0 := hB a (by omega) (by omega) (by omega) (by omega) (by omega) (by omega)
    have e1 := hN k (by omega) (by omega)
    have e4 := hM k k0 (by omega)
    have w1 := hw.2.2.2.2.2.2.2.1 p k hp.1 hp.2 k0 (by omega)
    have wm := zMan_rng hw (k := k) (by omega)
    have w3 := hw.2.2.2.1
    have s1 := hr.2.2.2.2.2.2.2.2.2
    have hl := zAll_lt hw0
    have d7 : B a 7 = h 3 := by rw [e0]; exact hr.2.2.1
    have d3 : B a 3 = A a 3 := by rw [e0]
    obtain ⟨B1, g1, g2⟩ := c_goesTo (d := d) (K := K) (O := O) (t := t) (ar := ar) (A := B) ha hb (p := p) (k := k) (L := L) (by rw [d3]; have := s1.1; omega) (by omega) (by omega) (by rw [e1]; exact w1) (by rw [e4]; exact wm) (by rw [d7]; exact w3) (zLawC_same hL (fun c h1 h2 => hB c (by omega) (by omega) (by omega) (by omega) (by omega) (by omega)))
    have hval : (if zB (B a 3) p = true then B (a + 1) (p * 4 + k) else zGoes p k (B (a + 1) (p * 4 + k)) (B (a + 4) k) (B a 7) L) = zNum h L p k := by
      rw [e1, e4, d7, d3]
      unfold zNum
      have := s1.2 p hp.1 hp.2
      by_cases hz : zB (A a 3) p = true
      · rw [if_pos hz, if_pos (this.mp hz)]
      · rw [if_neg hz, if_neg (fun q => hz (this.mpr q))]
    rw [hval] at g1
    have wn := zNum_rng (L := L) hw hp (show 0 ≤ k ∧ k < 4 by omega)
    have e1' : B1 (a + 1) (p * 4 + k) = h (15 + 6 * p + k) := by rw [g2 _ (by omega) (by omega)]; exact e1
    rw [show zSm (zCh1 h L p) k (m + 1) = zCh1 h L p k + zSm (zCh1 h L p) (k + 1) m from rfl]
    by_cases hch : zNum h L p k = h (15 + 6 * p + k)
    · have hc1 : zCh1 h L p k = 0 := by unfold zCh1; rw [if_pos hch]
      obtain ⟨B', v7, f1, f2, f3, f4⟩ := ih (k + 1) c B1 (.int (zI (zNum h L p k))) (by omega) (by omega) (fun x x1 x2 x3 x4 x5 x6 => by rw [g2 x x5 x6, hB x x1 x2 x3 x4 x5 x6]) (fun j j0 j1 => by rw [g2 _ (by omega) (by omega)]; exact hM j j0 j1) (fun j j0 j1 => by rw [g2 _ (by omega) (by omega)]; exact hN j (by omega) j1)
      refine ⟨B', v7, ?_, fun x x1 x2 x3 => by rw [f2 x x1 x2 x3, g2 x x2 x3], fun i hi => by rw [f3 i (by omega), g2 _ (by omega) (by omega)], fun j j0 j1 => ?_⟩
      · rw [hc1, Int.zero_add, ← f1, i22_61 ha hb (by omega)]
        simp (disch := first | assumption | omega | exact zr_and | exact zr_or | exact zr_xor | exact zr_shl | exact zr_shr | exact zr_ushr | exact zr_byte) only [i22_67, g1, i22_76, i27_0, e1', i22_88, i22_104, mB1_i, mB0_i, mB1n_i, mB0n_i, mB1_x, mB0_x, if_true, if_false, if_pos, if_neg]
      · by_cases hj : j = k
        · rw [hj, f3 _ (by omega), e1', hch]
        · exact f4 j (by omega) j1
    · have hc1 : zCh1 h L p k = 1 := by unfold zCh1; rw [if_neg hch]
      obtain ⟨B', v7, f1, f2, f3, f4⟩ := ih (k + 1) (c + 1) (zU B1 (a + 1) (p * 4 + k) (zNum h L p k)) (.int (zI (zNum h L p k))) (by omega) (by omega) (fun x x1 x2 x3 x4 x5 x6 => by rw [zU_r x1, g2 x x5 x6, hB x x1 x2 x3 x4 x5 x6]) (fun j j0 j1 => by rw [zU_r (by omega), g2 _ (by omega) (by omega)]; exact hM j j0 j1) (fun j j0 j1 => by rw [zU_s (by omega), g2 _ (by omega) (by omega)]; exact hN j (by omega) j1)
      refine ⟨B', v7, ?_, fun x x1 x2 x3 => by rw [f2 x x1 x2 x3, zU_r x1, g2 x x2 x3], fun i hi => by rw [f3 i (by omega), zU_s (by omega), g2 _ (by omega) (by omega)], fun j j0 j1 => ?_⟩
      · rw [hc1, ← Int.add_assoc, ← f1, i22_61 ha hb (by omega)]
        simp (disch := first | assumption | omega | exact zr_and | exact zr_or | exact zr_xor | exact zr_shl | exact zr_shr | exact zr_ushr | exact zr_byte) only [i22_67, g1, i22_76, i27_0, e1', i22_88, i22_91, i41_0, i22_104, mB1_i, mB0_i, mB1n_i, mB0n_i, mB1_x, mB0_x, if_true, if_false, if_pos, if_neg]
      · by_cases hj : j = k
        · rw [hj, f3 _ (by omega), zU_at]
        · exact f4 j (by omega) j1
theorem pd_out {a b : Nat} (ha : isHall a) (hb : isLaw b) (hab : b + 6 < a ∨ a + 8 < b) {h : Int → Int} {L : zLines} (hw : zHW0 h) (hr : zHR0 A a h) (hL : zLawC A b L) {dr : Int} :
    ∀ (m : Nat) (p c : Int) (B : Nat → Int → Int) (u6 u7 : Value), p + m = h 0 → 0 ≤ p → (∀ x, x ≠ a + 1 → x ≠ a + 4 → x ≠ 173 → x ≠ 174 → x ≠ b + 5 → x ≠ b + 6 → B x = A x) → (∀ j, 0 ≤ j → j < 4 → B (a + 4) j = zMan h j) → (∀ q j, 0 ≤ q → q < p → 0 ≤ j → j < 4 → B (a + 1) (q * 4 + j) = zNum h L q j) → (∀ q j, p ≤ q → q < h 0 → 0 ≤ j → j < 4 → B (a + 1) (q * 4 + j) = h (15 + 6 * q + j)) →
    ∃ (B' : Nat → Int → Int) (v6 v7 : Value), mGd ar (d + 4) 22 49 [.ref a, .ref b, .ref 173, .int (zI dr), .int (zI c), .int (zI p), u6, u7] [] (zW K B O t) = mGd ar (d + 4) 22 116 [.ref a, .ref b, .ref 173, .int (zI dr), .int (zI ((c + zSm (fun p => zSm (zCh1 h L p) 0 4) p m))), .int (zI ((h 0))), v6, v7] [] (zW K B' O t) ∧ (∀ x, x ≠ a + 1 → x ≠ a + 4 → x ≠ 173 → x ≠ 174 → x ≠ b + 5 → x ≠ b + 6 → B' x = A x) ∧ (∀ j, 0 ≤ j → j < 4 → B' (a + 4) j = zMan h j) ∧ ∀ q j, 0 ≤ q → q < h 0 → 0 ≤ j → j < 4 → B' (a + 1) (q * 4 + j) = zNum h L q j := by
  have hlt := isHall_lt ha
  have hlb := isLaw_lt hb
  have hw0 := hw.1
  have hr0 := hr.1
  intro m
  induction m with
  | zero =>
    intro p c B u6 u7 hp p0 hB hM hN hO
    have e0 : B a 0 = A a 0 := by rw [hB a (by omega) (by omega) (by omega) (by omega) (by omega) (by omega)]
    refine ⟨B, u6, u7, ?_, hB, hM, fun q j q0 q1 j0 j1 => hN q j q0 (by omega) j0 j1⟩
    rw [show c + zSm (fun p => zSm (zCh1 h L p) 0 4) p 0 = c from Int.add_zero _, show h 0 = p by omega]
    simp (disch := first | assumption | omega | exact zr_and | exact zr_or | exact zr_xor | exact zr_shl | exact zr_shr | exact zr_ushr | exact zr_byte) only [i22_49, mB1_i, mB0_i, mB1n_i, mB0n_i, mB1_x, mB0_x, if_true, if_false, if_pos, if_neg]
  | succ m ih =>
    intro p c B u6 u7 hp p0 hB hM hN hO
    have e0 : B a 0 = A a 0 := by rw [hB a (by omega) (by omega) (by omega) (by omega) (by omega) (by omega)]
    obtain ⟨B1, v7, g1, g2, g3, g4⟩ := pd_in (d := d) (K := K) (O := O) (t := t) (ar := ar) ha hb hab hw hr hL (dr := dr) (p := p) (by omega) 4 0 c B u7 (by omega) (by omega) hB hM (fun j j0 j1 => hO p j (by omega) (by omega) j0 j1)
    obtain ⟨B', w6, w7, f1, f2, f3, f4⟩ := ih (p + 1) (c + zSm (zCh1 h L p) 0 4) B1 (.int (zI 4)) v7 (by omega) (by omega) (fun x x1 x2 x3 x4 x5 x6 => by rw [g2 x x1 x5 x6, hB x x1 x2 x3 x4 x5 x6]) (fun j j0 j1 => by rw [g2 _ (by omega) (by omega) (by omega)]; exact hM j j0 j1) (fun q j q0 q1 j0 j1 => by
      by_cases hq : q = p
      · rw [hq]; exact g4 j j0 j1
      · rw [g3 _ (by omega)]; exact hN q j q0 (by omega) j0 j1) (fun q j q0 q1 j0 j1 => by rw [g3 _ (by omega)]; exact hO q j (by omega) q1 j0 j1)
    refine ⟨B', w6, w7, ?_, f2, f3, f4⟩
    rw [show zSm (fun p => zSm (zCh1 h L p) 0 4) p (m + 1) = zSm (zCh1 h L p) 0 4 + zSm (fun p => zSm (zCh1 h L p) 0 4) (p + 1) m from rfl, ← Int.add_assoc, ← f1, i22_49 ha hb (by omega) (by omega)]
    simp (disch := first | assumption | omega | exact zr_and | exact zr_or | exact zr_xor | exact zr_shl | exact zr_shr | exact zr_ushr | exact zr_byte) only [i22_58, g1, i22_110, mB1_i, mB0_i, mB1n_i, mB0n_i, mB1_x, mB0_x, if_true, if_false, if_pos, if_neg]
theorem zHR0_go {a : Nat} {h : Int → Int} {L : zLines} {B : Nat → Int → Int} (hw : zHW0 h) (hr : zHR0 A a h) (ea : B a = A a) (e2 : B (a + 2) = A (a + 2)) (e3 : B (a + 3) = A (a + 3)) (hM : ∀ j, 0 ≤ j → j < 4 → B (a + 4) j = zMan h j) (hN : ∀ q j, 0 ≤ q → q < h 0 → 0 ≤ j → j < 4 → B (a + 1) (q * 4 + j) = zNum h L q j) : zHR0 B a (zGo1 h L) := by
  obtain ⟨r0, r9, r7, r6, r8, rr, rm, rn, rw', ⟨s1, s2⟩⟩ := hr
  unfold zHR0 zStub
  rw [zGo1_lo (by omega), zGo1_lo (by omega), zGo1_lo (by omega), zGo1_lo (by omega), zGo1_lo (by omega), ea, e2, e3]
  refine ⟨r0, r9, r7, r6, r8, fun k h1 h2 => ?_, fun k h1 h2 => ?_, fun p k h1 h2 h3 h4 => ?_, fun p h1 h2 => ?_, s1, fun p h1 h2 => ?_⟩
  · rw [zGo1_lo (by omega)]; exact rr k h1 h2
  · rw [zGo1_man ⟨h1, h2⟩]; exact hM k h1 h2
  · rw [zGo1_num ⟨h1, h2⟩ ⟨h3, h4⟩]; exact hN p k h1 h2 h3 h4
  · rw [zGo1_wt h1 (by omega)]; exact rw' p h1 h2
  · rw [zGo1_wt h1 (by omega)]; exact s2 p h1 h2
/-- draws -/
def zNx (s : Int) : Int := 1103515245 * s + 12345
def zDr (s : Int) : Int := ((s % 4294967296) / 65536) % 32768
theorem zDr_u {s : Int} : zAnd (zUshr s 16) 32767 = zDr s := by
  have h1 := zUshr_eq (x := s) (k := 16) (by decide) (by decide)
  have h2 := zAnd_mask (x := zUshr s 16) (m := 15) (by decide)
  rw [show ((16 : Nat) : Int) = 16 from rfl] at h1
  rw [show ((2 : Int) ^ 15 - 1) = 32767 from by decide, show ((2 : Int) ^ 15) = 32768 from by decide, h1, show ((2 : Int) ^ 16) = 65536 from by decide] at h2
  rw [h1, show ((2 : Int) ^ 16) = 65536 from by decide, h2]
  rfl
theorem zDr_s {s : Int} : zAnd (zShr s 16) 32767 = zDr s := by
  have h0 : zShr s 16 = zShr (zI s).toInt 16 := by unfold zShr; rw [zI_toInt]
  have hd : zDr s = zDr (zI s).toInt := by
    rw [← zDr_u, ← zDr_u]; unfold zUshr; rw [zI_toInt]
  have hx : -2147483648 ≤ (zI s).toInt ∧ (zI s).toInt < 2147483648 := ⟨Int32.le_toInt _, Int32.toInt_lt _⟩
  rw [h0, hd]
  generalize (zI s).toInt = x at hx
  have h1 := zShr_eq (x := x) (k := 16) hx (by decide)
  have h2 := zAnd_mask (x := zShr x 16) (m := 15) (by decide)
  rw [show ((16 : Nat) : Int) = 16 from rfl] at h1
  rw [show ((2 : Int) ^ 15 - 1) = 32767 from by decide, show ((2 : Int) ^ 15) = 32768 from by decide, h1, show ((2 : Int) ^ 16) = 65536 from by decide] at h2
  rw [h1, show ((2 : Int) ^ 16) = 65536 from by decide, h2]
  unfold zDr
  omega
theorem zDr_rng {s : Int} : 0 ≤ zDr s ∧ zDr s < 32768 := by unfold zDr; omega
/-- a strike, if it is drawn -/
def zStr (h : Int → Int) (i : Int) : Int := if zDr (zNx (h 6)) % 100 < h 4 ∧ 0 < h 0 then (if i = 6 then zNx (zNx (zNx (zNx (h 6)))) else if i = 15 + 6 * (zDr (zNx (zNx (h 6))) % h 0) + zDr (zNx (zNx (zNx (h 6)))) % 4 then zDr (zNx (zNx (zNx (zNx (h 6))))) % 100 else h i) else (if i = 6 then zNx (h 6) else h i)
theorem c_draw {a : Nat} (ha : isHall a) : mGd ar (d) 43 0 [.ref a] [] (zW K A O t) = some (.inl (some (.int (zI (zDr (zNx (A a 8)))))), zW K (zU A a 8 (zNx (A a 8))) O t) := by
  rw [i43_0 ha, zU_at, zDr_u]
  rfl
theorem zHR0_seed {a : Nat} {h : Int → Int} (hr : zHR0 A a h) {v : Int} : zHR0 (zU A a 8 v) a (fun i => if i = 6 then v else h i) := by
  obtain ⟨r0, r9, r7, r6, r8, rr, rm, rn, rw', ⟨s1, s2⟩⟩ := hr
  unfold zHR0 zStub
  refine ⟨?_, ?_, ?_, ?_, ?_, fun k h1 h2 => ?_, fun k h1 h2 => ?_, fun p k h1 h2 h3 h4 => ?_, fun p h1 h2 => ?_, ?_, fun p h1 h2 => ?_⟩
  · rw [zU_s (by decide)]; exact r0
  · rw [zU_s (by decide)]; exact r9
  · rw [zU_s (by decide)]; exact r7
  · rw [zU_s (by decide)]; exact r6
  · rw [zU_at]; rfl
  · rw [zU_c (by omega)]; show _ = if 7 + k = 6 then v else h (7 + k); rw [if_neg (by omega)]; exact rr k h1 h2
  · rw [zU_c (by omega)]; show _ = if 11 + k = 6 then v else h (11 + k); rw [if_neg (by omega)]; exact rm k h1 h2
  · rw [zU_c (by omega)]; show _ = if 15 + 6 * p + k = 6 then v else h (15 + 6 * p + k); rw [if_neg (by omega)]; exact rn p k h1 h2 h3 h4
  · rw [zU_c (by omega)]; show _ = if 15 + 6 * p + 4 = 6 then v else h (15 + 6 * p + 4); rw [if_neg (by omega)]; exact rw' p h1 h2
  · rw [zU_s (by decide)]; exact s1
  · rw [zU_s (by decide)]; show _ ↔ (if 15 + 6 * p + 5 = 6 then v else h (15 + 6 * p + 5)) = 1; rw [if_neg (by omega)]; exact s2 p h1 h2
theorem zHR0_put {a : Nat} {h : Int → Int} (hr : zHR0 A a h) {p k v : Int} (hp : 0 ≤ p ∧ p < h 0) (hk : 0 ≤ k ∧ k < 4) : zHR0 (zU A (a + 1) (p * 4 + k) v) a (fun i => if i = 15 + 6 * p + k then v else h i) := by
  obtain ⟨r0, r9, r7, r6, r8, rr, rm, rn, rw', ⟨s1, s2⟩⟩ := hr
  have f : ∀ j, (j < 15 ∨ ∃ q, j = 15 + 6 * q + 4 ∨ j = 15 + 6 * q + 5) → (if j = 15 + 6 * p + k then v else h j) = h j := fun j hj => if_neg (by rcases hj with hj | ⟨q, hj | hj⟩ <;> omega)
  unfold zHR0 zStub
  refine ⟨?_, ?_, ?_, ?_, ?_, fun j h1 h2 => ?_, fun j h1 h2 => ?_, fun q j h1 h2 h3 h4 => ?_, fun q h1 h2 => ?_, ?_, fun q h1 h2 => ?_⟩
  · rw [zU_c (by omega)]; exact r0.trans (f 0 (Or.inl (by omega))).symm
  · rw [zU_c (by omega)]; exact r9.trans (f 1 (Or.inl (by omega))).symm
  · rw [zU_c (by omega)]; exact r7.trans (f 3 (Or.inl (by omega))).symm
  · rw [zU_c (by omega)]; exact r6.trans (f 4 (Or.inl (by omega))).symm
  · rw [zU_c (by omega)]; exact r8.trans (f 6 (Or.inl (by omega))).symm
  · rw [zU_c (by omega)]; exact (rr j h1 h2).trans (f (7 + j) (Or.inl (by omega))).symm
  · rw [zU_c (by omega)]; exact (rm j h1 h2).trans (f (11 + j) (Or.inl (by omega))).symm
  · show _ = if 15 + 6 * q + j = 15 + 6 * p + k then v else h (15 + 6 * q + j)
    have hq : q < h 0 := by
      have : (if (0 : Int) = 15 + 6 * p + k then v else h 0) = h 0 := f 0 (Or.inl (by omega))
      rw [← this]; exact h2
    by_cases hc : 15 + 6 * q + j = 15 + 6 * p + k
    · rw [if_pos hc, show q * 4 + j = p * 4 + k by omega, zU_at]
    · rw [if_neg hc, zU_s (by omega)]; exact rn q j h1 hq h3 h4
  · have hq : q < h 0 := by
      have : (if (0 : Int) = 15 + 6 * p + k then v else h 0) = h 0 := f 0 (Or.inl (by omega))
      rw [← this]; exact h2
    rw [zU_c (by omega)]; exact (rw' q h1 hq).trans (f _ (Or.inr ⟨q, Or.inl rfl⟩)).symm
  · rw [zU_c (by omega)]
    show 0 ≤ _ ∧ _ ≤ zAll (if (0 : Int) = 15 + 6 * p + k then v else h 0)
    rw [f 0 (Or.inl (by omega))]; exact s1
  · have hq : q < h 0 := by
      have : (if (0 : Int) = 15 + 6 * p + k then v else h 0) = h 0 := f 0 (Or.inl (by omega))
      rw [← this]; exact h2
    rw [zU_c (by omega)]
    show _ ↔ (if 15 + 6 * q + 5 = 15 + 6 * p + k then v else h (15 + 6 * q + 5)) = 1
    rw [f _ (Or.inr ⟨q, Or.inr rfl⟩)]; exact s2 q h1 hq
end DAY
