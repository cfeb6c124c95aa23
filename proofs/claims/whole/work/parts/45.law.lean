/-! CONTRACTS, 6: the law: its lines, what they ask, what they come to -/
/-- what the parts of a law are of a person and a kind -/
def zEnv (p k mine his day j : Int) : Int := if j = 0 then p else if j = 1 then k else if j = 2 then mine else if j = 3 then his else if j = 4 then zAbs (mine - his) else if j = 5 then day else if j = 6 then (if his < mine then 1 else 0) else (if mine < his then 1 else 0)
def zJn (c x y : Int) : Int := if c = 1009 then x + y else if c = 1010 then (if x < y then 1 else 0) else if c = 1011 then (if y < x then 1 else 0) else if c = 1012 then (if x + y = 2 then 1 else 0) else (if 0 < x + y then 1 else 0)
def zEv (E : Int → Int) (c : Int) (st : List Int) : List Int := if c < 1000 then c :: st else if c < 1008 then E (c - 1000) :: st else if c = 1008 then (match st with | x :: r => (1 - x) :: r | [] => []) else (match st with | y :: x :: r => zJn c x y :: r | r => r)
def zRun (E : Int → Int) : List Int → List Int → List Int
  | [], st => st
  | c :: cs, st => zRun E cs (zEv E c st)
def zHolds (E : Int → Int) (cs : List Int) : Bool := match zRun E cs [] with
  | [] => true
  | x :: _ => decide (x = 1)
/-- kinds of what lies on the stack: true a truth, false a number -/
def zTc : List Int → List Bool → Option (List Bool)
  | [], ts => some ts
  | c :: cs, ts => if 0 ≤ c ∧ c < 1008 then (if ts.length < 20 then zTc cs (decide (1006 ≤ c) :: ts) else none) else if c = 1008 then (match ts with | true :: r => zTc cs (true :: r) | _ => none) else if c = 1009 then (match ts with | false :: false :: r => zTc cs (false :: r) | _ => none) else if c = 1010 ∨ c = 1011 then (match ts with | false :: false :: r => zTc cs (true :: r) | _ => none) else if c = 1012 ∨ c = 1013 then (match ts with | true :: true :: r => zTc cs (true :: r) | _ => none) else none
def zTv : List Bool → List Int → Prop
  | [], [] => True
  | true :: ts, x :: st => (x = 0 ∨ x = 1) ∧ zTv ts st
  | false :: ts, x :: st => 0 ≤ x ∧ zTv ts st
  | _, _ => False
theorem zTv_len : ∀ {ts : List Bool} {st : List Int}, zTv ts st → ts.length = st.length
  | [], [], _ => rfl
  | true :: ts, x :: st, h => congrArg Nat.succ (zTv_len h.2)
  | false :: ts, x :: st, h => congrArg Nat.succ (zTv_len h.2)
  | [], _ :: _, h => h.elim
  | true :: _, [], h => h.elim
  | false :: _, [], h => h.elim
theorem zTv_nn : ∀ {ts : List Bool} {st : List Int}, zTv ts st → 0 ≤ st.sum
  | [], [], _ => by decide
  | true :: ts, x :: st, h => by have := zTv_nn h.2; have := h.1; rw [List.sum_cons]; omega
  | false :: ts, x :: st, h => by have := zTv_nn h.2; have := h.1; rw [List.sum_cons]; omega
  | [], _ :: _, h => h.elim
  | true :: _, [], h => h.elim
  | false :: _, [], h => h.elim
def zEok (E : Int → Int) : Prop := (∀ j, 0 ≤ j → j < 6 → 0 ≤ E j ∧ E j ≤ 9999) ∧ ∀ j, 6 ≤ j → j < 8 → E j = 0 ∨ E j = 1
/-- the cases of a step -/
theorem zTc_cases {E : Int → Int} {c : Int} {cs st : List Int} {ts us : List Bool} (hE : zEok E) (h : zTc (c :: cs) ts = some us) (hv : zTv ts st) :
    (0 ≤ c ∧ c < 1008 ∧ st.length < 20 ∧ (∃ x, x = (if c < 1000 then c else E (c - 1000)) ∧ (0 ≤ x ∧ x ≤ 9999) ∧ zEv E c st = x :: st ∧ zTc cs (decide (1006 ≤ c) :: ts) = some us ∧ zTv (decide (1006 ≤ c) :: ts) (x :: st))) ∨
    (c = 1008 ∧ ∃ x r us', st = x :: r ∧ (x = 0 ∨ x = 1) ∧ zEv E c st = (1 - x) :: r ∧ zTc cs us' = some us ∧ zTv us' ((1 - x) :: r)) ∨
    (1009 ≤ c ∧ c ≤ 1013 ∧ ∃ x y r us', st = y :: x :: r ∧ (0 ≤ x ∧ 0 ≤ y) ∧ 0 ≤ r.sum ∧ (1012 ≤ c → (x = 0 ∨ x = 1) ∧ (y = 0 ∨ y = 1)) ∧ zEv E c st = zJn c x y :: r ∧ (0 ≤ zJn c x y ∧ zJn c x y ≤ x + y) ∧ zTc cs us' = some us ∧ zTv us' (zJn c x y :: r)) := by
  have hl := zTv_len hv
  unfold zTc at h
  by_cases h1 : 0 ≤ c ∧ c < 1008
  · rw [if_pos h1] at h
    by_cases h2 : ts.length < 20
    · rw [if_pos h2] at h
      left
      refine ⟨h1.1, h1.2, by omega, _, rfl, ?_, ?_, h, ?_⟩
      · by_cases h3 : c < 1000
        · rw [if_pos h3]; omega
        · rw [if_neg h3]
          by_cases h4 : c < 1006
          · exact hE.1 (c - 1000) (by omega) (by omega)
          · have := hE.2 (c - 1000) (by omega) (by omega); omega
      · unfold zEv
        by_cases h3 : c < 1000
        · rw [if_pos h3, if_pos h3]
        · rw [if_neg h3, if_neg h3, if_pos h1.2]
      · by_cases h4 : 1006 ≤ c
        · rw [decide_eq_true h4]
          refine ⟨?_, hv⟩
          rw [if_neg (by omega)]
          exact hE.2 (c - 1000) (by omega) (by omega)
        · rw [decide_eq_false h4]
          refine ⟨?_, hv⟩
          by_cases h3 : c < 1000
          · rw [if_pos h3]; exact h1.1
          · rw [if_neg h3]; exact (hE.1 (c - 1000) (by omega) (by omega)).1
    · rw [if_neg h2] at h; cases h
  rw [if_neg h1] at h
  right
  by_cases h8 : c = 1008
  · rw [if_pos h8] at h
    left
    refine ⟨h8, ?_⟩
    match ts, st, hv, h with
    | true :: ts, x :: r, hv, h =>
      refine ⟨x, r, _, rfl, hv.1, ?_, h, ?_, hv.2⟩
      · unfold zEv; rw [if_neg (by omega), if_neg (by omega), if_pos h8]
      · have := hv.1; omega
  rw [if_neg h8] at h
  right
  have hev : ∀ x y r, zEv E c (y :: x :: r) = if c < 1000 then c :: y :: x :: r else if c < 1008 then E (c - 1000) :: y :: x :: r else zJn c x y :: r := fun x y r => by
    unfold zEv; rw [if_neg h8]
  by_cases h9 : c = 1009
  · rw [if_pos h9] at h
    refine ⟨by omega, by omega, ?_⟩
    match ts, st, hv, h with
    | false :: false :: ts, y :: x :: r, hv, h =>
      have hj : zJn c x y = x + y := by unfold zJn; rw [if_pos h9]
      refine ⟨x, y, r, _, rfl, ⟨hv.2.1, hv.1⟩, zTv_nn hv.2.2, by omega, ?_, ?_, h, ?_, hv.2.2⟩
      · rw [hev, if_neg (by omega), if_neg (by omega)]
      · rw [hj]; have := hv.1; have := hv.2.1; omega
      · rw [hj]; have := hv.1; have := hv.2.1; omega
  rw [if_neg h9] at h
  by_cases h10 : c = 1010 ∨ c = 1011
  · rw [if_pos h10] at h
    refine ⟨by omega, by omega, ?_⟩
    match ts, st, hv, h with
    | false :: false :: ts, y :: x :: r, hv, h =>
      have a1 := hv.1
      have a2 := hv.2.1
      have hj : (zJn c x y = 0 ∨ zJn c x y = 1) ∧ zJn c x y ≤ x + y := by
        unfold zJn
        rw [if_neg h9]
        by_cases q : c = 1010
        · rw [if_pos q]; by_cases q2 : x < y
          · rw [if_pos q2]; omega
          · rw [if_neg q2]; omega
        · rw [if_neg q, if_pos (by omega)]; by_cases q2 : y < x
          · rw [if_pos q2]; omega
          · rw [if_neg q2]; omega
      refine ⟨x, y, r, _, rfl, ⟨hv.2.1, hv.1⟩, zTv_nn hv.2.2, by omega, ?_, by omega, h, hj.1, hv.2.2⟩
      rw [hev, if_neg (by omega), if_neg (by omega)]
  rw [if_neg h10] at h
  by_cases h12 : c = 1012 ∨ c = 1013
  · rw [if_pos h12] at h
    refine ⟨by omega, by omega, ?_⟩
    match ts, st, hv, h with
    | true :: true :: ts, y :: x :: r, hv, h =>
      have a1 := hv.1
      have a2 := hv.2.1
      have hj : (zJn c x y = 0 ∨ zJn c x y = 1) ∧ zJn c x y ≤ x + y := by
        unfold zJn
        rw [if_neg h9, if_neg (by omega), if_neg (by omega)]
        by_cases q : c = 1012
        · rw [if_pos q]; by_cases q2 : x + y = 2
          · rw [if_pos q2]; omega
          · rw [if_neg q2]; omega
        · rw [if_neg q]; by_cases q2 : 0 < x + y
          · rw [if_pos q2]; omega
          · rw [if_neg q2]; omega
      refine ⟨x, y, r, _, rfl, by omega, zTv_nn hv.2.2, fun _ => ⟨a2, a1⟩, ?_, by omega, h, hj.1, hv.2.2⟩
      rw [hev, if_neg (by omega), if_neg (by omega)]
  rw [if_neg h12] at h
  cases h
/-- the stack in a row of places -/
def zStk (g : Int → Int) : List Int → Prop
  | [] => True
  | x :: st => g st.length = x ∧ zStk g st
theorem zStk_congr {g g' : Int → Int} : ∀ {st : List Int}, (∀ i, 0 ≤ i → i < (st.length : Int) → g' i = g i) → zStk g st → zStk g' st
  | [], _, _ => trivial
  | x :: st, h, hs => by
    have e : ((x :: st).length : Int) = st.length + 1 := by simp
    exact ⟨by rw [h _ (by omega) (by omega)]; exact hs.1, zStk_congr (fun i h1 h2 => h i h1 (by omega)) hs.2⟩
section LAW
variable {ar : Nat → Nat × (Nat → Int32)} {d t : Nat} {K : Nat → Nat → Option Nat} {A A' : Nat → Int → Int} {O : Nat → Int64}
theorem isLaw_lt {a : Nat} (h : isLaw a) : 12 ≤ a ∧ a + 6 < 170 := by
  unfold isLaw at h; omega
theorem zf_andor {x y : Int} (hx : x = 0 ∨ x = 1) (hy : y = 0 ∨ y = 1) : zAnd x y = (if x + y = 2 then 1 else 0) ∧ zOr x y = (if 0 < x + y then 1 else 0) := by
  rcases hx with rfl | rfl <;> rcases hy with rfl | rfl <;> decide
theorem c_joined {c x y : Int} (hc : 1009 ≤ c ∧ c ≤ 1013) (hx : 0 ≤ x ∧ x < 1000000000) (hy : 0 ≤ y ∧ y < 1000000000) (hb : 1012 ≤ c → (x = 0 ∨ x = 1) ∧ (y = 0 ∨ y = 1)) : mGd ar (d) 38 0 [.int (zI c), .int (zI x), .int (zI y)] [] (zW K A O t) = some (.inl (some (.int (zI (zJn c x y)))), zW K A O t) := by
  unfold zJn
  by_cases h9 : c = 1009
  · simp (disch := first | assumption | omega | exact zr_and | exact zr_or | exact zr_xor | exact zr_shl | exact zr_shr | exact zr_ushr | exact zr_byte) only [i38_0, i38_32, i38_36, i38_41, i38_45, i38_46, i38_47, i38_52, i38_56, i38_57, i38_58, i38_62, mB1_i, mB0_i, mB1n_i, mB0n_i, mB1_x, mB0_x, if_true, if_false, if_pos, if_neg]
  by_cases h10 : c = 1010
  · by_cases h : x < y <;> simp (disch := first | assumption | omega | exact zr_and | exact zr_or | exact zr_xor | exact zr_shl | exact zr_shr | exact zr_ushr | exact zr_byte) only [i38_0, i38_32, i38_36, i38_41, i38_45, i38_46, i38_47, i38_52, i38_56, i38_57, i38_58, i38_62, mB1_i, mB0_i, mB1n_i, mB0n_i, mB1_x, mB0_x, if_true, if_false, if_pos, if_neg]
  by_cases h11 : c = 1011
  · by_cases h : y < x <;> simp (disch := first | assumption | omega | exact zr_and | exact zr_or | exact zr_xor | exact zr_shl | exact zr_shr | exact zr_ushr | exact zr_byte) only [i38_0, i38_32, i38_36, i38_41, i38_45, i38_46, i38_47, i38_52, i38_56, i38_57, i38_58, i38_62, mB1_i, mB0_i, mB1n_i, mB0n_i, mB1_x, mB0_x, if_true, if_false, if_pos, if_neg]
  obtain ⟨b1, b2⟩ := hb (by omega)
  obtain ⟨e1, e2⟩ := zf_andor b1 b2
  by_cases h12 : c = 1012
  · simp (disch := first | assumption | omega | exact zr_and | exact zr_or | exact zr_xor | exact zr_shl | exact zr_shr | exact zr_ushr | exact zr_byte) only [i38_0, i38_32, i38_36, i38_41, i38_45, i38_46, i38_47, i38_52, i38_56, i38_57, i38_58, i38_62, e1, mB1_i, mB0_i, mB1n_i, mB0n_i, mB1_x, mB0_x, if_true, if_false, if_pos, if_neg]
  · simp (disch := first | assumption | omega | exact zr_and | exact zr_or | exact zr_xor | exact zr_shl | exact zr_shr | exact zr_ushr | exact zr_byte) only [i38_0, i38_32, i38_36, i38_41, i38_45, i38_46, i38_47, i38_52, i38_56, i38_57, i38_58, i38_62, e2, mB1_i, mB0_i, mB1n_i, mB0n_i, mB1_x, mB0_x, if_true, if_false, if_pos, if_neg]
/-- the class's stack machine over what is left of a line -/
theorem holds_loop {b : Nat} (hb : isLaw b) {E : Int → Int} (hE : zEok E) {n : Int} (hn : 0 ≤ n ∧ n < 12) (hp : ∀ j, 0 ≤ j → j < 8 → A (b + 5) j = E j) :
    ∀ (cs : List Int) (i : Int) (st : List Int) (ts us : List Bool) (B : Nat → Int → Int) (u : Value), zLst (A (b + 4)) i cs.length = cs → A (b + 3) n = i + cs.length → 0 ≤ i → i + cs.length ≤ 400 → zTc cs ts = some us → zTv ts st → st.length ≤ 20 → zStk (B (b + 6)) st → st.sum ≤ 10000 * i → (∀ c, c ≠ b + 6 → B c = A c) →
    ∃ (B' : Nat → Int → Int) (u' : Value), mGd ar (d + 1) 37 19 [.ref b, .int (zI n), .int (zI ((st.length : Int))), .int (zI i), u] [] (zW K B O t) = mGd ar (d + 1) 37 164 [.ref b, .int (zI n), .int (zI (((zRun E cs st).length : Int))), .int (zI ((A (b + 3) n))), u'] [] (zW K B' O t) ∧ zStk (B' (b + 6)) (zRun E cs st) ∧ zTv us (zRun E cs st) ∧ (zRun E cs st).sum ≤ 4000000 ∧ ∀ c, c ≠ b + 6 → B' c = A c := by
  have hlt := isLaw_lt hb
  intro cs
  induction cs with
  | nil =>
    intro i st ts us B u hL hend h0 h4 hT hV h20 hS hsum hB
    have e3 : B (b + 3) n = A (b + 3) n := by rw [hB _ (by omega)]
    simp only [List.length_nil, Int.natCast_zero, Int.add_zero] at hend h4
    cases hT
    refine ⟨B, u, ?_, hS, hV, by show st.sum ≤ _; omega, hB⟩
    show _ = mGd ar (d + 1) 37 164 [.ref b, .int (zI n), .int (zI ((st.length : Int))), .int (zI ((A (b + 3) n))), u] [] (zW K B O t)
    rw [hend]
    simp (disch := first | assumption | omega | exact zr_and | exact zr_or | exact zr_xor | exact zr_shl | exact zr_shr | exact zr_ushr | exact zr_byte) only [i37_19, mB1_i, mB0_i, mB1n_i, mB0n_i, mB1_x, mB0_x, if_true, if_false, if_pos, if_neg]
  | cons c cs ih =>
    intro i st ts us B u hL hend h0 h4 hT hV h20 hS hsum hB
    have e3 : B (b + 3) n = A (b + 3) n := by rw [hB _ (by omega)]
    have e4 : B (b + 4) i = c := by
      rw [hB _ (by omega)]
      have : A (b + 4) i :: zLst (A (b + 4)) (i + 1) cs.length = c :: cs := hL
      exact (List.cons.inj this).1
    have hL2 : zLst (A (b + 4)) (i + 1) cs.length = cs := by
      have : A (b + 4) i :: zLst (A (b + 4)) (i + 1) cs.length = c :: cs := hL
      exact (List.cons.inj this).2
    have e5 : ∀ j, 0 ≤ j → j < 8 → B (b + 5) j = E j := fun j h1 h2 => by rw [hB _ (by omega)]; exact hp j h1 h2
    rw [List.length_cons] at hend h4
    have hnn := zTv_nn hV
    rw [i37_19 hb hn (by omega) (by omega)]
    show ∃ B' u', _ = mGd ar (d + 1) 37 164 [.ref b, .int (zI n), .int (zI (((zRun E cs (zEv E c st)).length : Int))), .int (zI ((A (b + 3) n))), u'] [] (zW K B' O t) ∧ zStk (B' (b + 6)) (zRun E cs (zEv E c st)) ∧ zTv us (zRun E cs (zEv E c st)) ∧ (zRun E cs (zEv E c st)).sum ≤ 4000000 ∧ _
    rcases zTc_cases hE hT hV with ⟨c1, c2, c3, x, hx, hx2, hev, hT2, hV2⟩ | ⟨c1, x, r, us', rfl, hx, hev, hT2, hV2⟩ | ⟨c1, c2, x, y, r, us', rfl, hxy, hr0, hbb, hev, hj, hT2, hV2⟩
    · rw [hev]
      obtain ⟨B', u', g1, g2⟩ := ih (i + 1) (x :: st) _ us (zU B (b + 6) st.length x) (.int (zI c)) hL2 (by omega) (by omega) (by omega) hT2 hV2 (by simp only [List.length_cons] at h20 ⊢; omega) ⟨by simp (disch := first | assumption | omega) only [zU_at, zU_c, zU_s, zU_r], zStk_congr (fun j h1 h2 => by simp (disch := first | assumption | omega) only [zU_at, zU_c, zU_s, zU_r]) hS⟩ (by rw [List.sum_cons]; omega) (fun c hc => by rw [zU_r hc, hB c hc])
      refine ⟨B', u', ?_, g2⟩
      rw [← g1, show (((x :: st).length : Nat) : Int) = (st.length : Int) + 1 by simp]
      by_cases hc : c < 1000
      · rw [if_pos hc] at hx
        subst hx
        simp (disch := first | assumption | omega | exact zr_and | exact zr_or | exact zr_xor | exact zr_shl | exact zr_shr | exact zr_ushr | exact zr_byte) only [i37_29, i37_45, i37_54, i37_67, i37_83, i37_158, e4, mB1_i, mB0_i, mB1n_i, mB0n_i, mB1_x, mB0_x, if_true, if_false, if_pos, if_neg]
      · rw [if_neg hc] at hx
        have e6 := e5 (c - 1000) (by omega) (by omega)
        rw [← hx] at e6
        simp (disch := first | assumption | omega | exact zr_and | exact zr_or | exact zr_xor | exact zr_shl | exact zr_shr | exact zr_ushr | exact zr_byte) only [i37_29, i37_45, i37_54, i37_72, i37_83, i37_158, e4, e6, mB1_i, mB0_i, mB1n_i, mB0n_i, mB1_x, mB0_x, if_true, if_false, if_pos, if_neg]
    · rw [hev]
      rw [List.sum_cons] at hsum
      have el : (((x :: r).length : Nat) : Int) = (r.length : Int) + 1 := by simp
      have hl8 := zTv_len hV
      obtain ⟨s1, s2⟩ := hS
      have hlen : r.length < 20 := by simp only [List.length_cons] at h20; omega
      obtain ⟨B', u', g1, g2⟩ := ih (i + 1) ((1 - x) :: r) _ us (zU B (b + 6) r.length (1 - x)) (.int (zI c)) hL2 (by omega) (by omega) (by omega) hT2 hV2 (by simp only [List.length_cons] at h20 ⊢; omega) ⟨by simp (disch := first | assumption | omega) only [zU_at, zU_c, zU_s, zU_r], zStk_congr (fun j h1 h2 => by simp (disch := first | assumption | omega) only [zU_at, zU_c, zU_s, zU_r]) s2⟩ (by rw [List.sum_cons]; omega) (fun c hc => by rw [zU_r hc, hB c hc])
      refine ⟨B', u', ?_, g2⟩
      rw [← g1, show ((((1 - x) :: r).length : Nat) : Int) = (r.length : Int) + 1 by simp, el]
      have er : (r.length : Int) + 1 - 1 = r.length := by omega
      simp (disch := first | assumption | omega | exact zr_and | exact zr_or | exact zr_xor | exact zr_shl | exact zr_shr | exact zr_ushr | exact zr_byte) only [i37_29, i37_90, i37_98, i37_102, i37_158, e4, er, s1, mB1_i, mB0_i, mB1n_i, mB0n_i, mB1_x, mB0_x, if_true, if_false, if_pos, if_neg]
    · rw [hev]
      rw [List.sum_cons, List.sum_cons] at hsum
      have el : (((y :: x :: r).length : Nat) : Int) = (r.length : Int) + 2 := by simp; omega
      obtain ⟨s1, s2, s3⟩ := hS
      have s1' : B (b + 6) ((r.length : Int) + 1) = y := by rw [← s1]; simp
      have hlen : r.length < 20 := by simp only [List.length_cons] at h20; omega
      obtain ⟨B', u', g1, g2⟩ := ih (i + 1) (zJn c x y :: r) _ us (zU B (b + 6) r.length (zJn c x y)) (.int (zI c)) hL2 (by omega) (by omega) (by omega) hT2 hV2 (by simp only [List.length_cons] at h20 ⊢; omega) ⟨by simp (disch := first | assumption | omega) only [zU_at, zU_c, zU_s, zU_r], zStk_congr (fun j h1 h2 => by simp (disch := first | assumption | omega) only [zU_at, zU_c, zU_s, zU_r]) s3⟩ (by rw [List.sum_cons]; omega) (fun c hc => by rw [zU_r hc, hB c hc])
      refine ⟨B', u', ?_, g2⟩
      rw [← g1, show (((zJn c x y :: r).length : Nat) : Int) = (r.length : Int) + 1 by simp, el]
      have er : (r.length : Int) + 1 - 1 = r.length := by omega
      have er2 : (r.length : Int) + 2 + -1 = r.length + 1 := by omega
      have cj := c_joined (d := d) (K := K) (O := O) (t := t) (ar := ar) (A := B) (c := c) (x := x) (y := y) (by omega) (by omega) (by omega) hbb
      simp (disch := first | assumption | omega | exact zr_and | exact zr_or | exact zr_xor | exact zr_shl | exact zr_shr | exact zr_ushr | exact zr_byte) only [i37_29, i37_90, i37_123, i37_128, i37_157, i37_158, e4, er, er2, s1', s2, cj, mB1_i, mB0_i, mB1n_i, mB0n_i, mB1_x, mB0_x, if_true, if_false, if_pos, if_neg]
theorem c_holds {b : Nat} (hb : isLaw b) {E : Int → Int} (hE : zEok E) {n e : Int} (hn : 0 ≤ n ∧ n < 12) (hp : ∀ j, 0 ≤ j → j < 8 → A (b + 5) j = E j) {cs : List Int} (he : e = if n = 0 then 0 else A (b + 3) (n - 1)) (hL : zLst (A (b + 4)) e cs.length = cs) (hend : A (b + 3) n = e + cs.length) (h0 : 0 ≤ e) (h4 : e + cs.length ≤ 400) (hT : cs = [] ∨ zTc cs [] = some [true]) :
    ∃ A', mGd ar (d + 1) 37 0 [.ref b, .int (zI n), .double 0, .double 0, .double 0] [] (zW K A O t) = some (.inl (some (.int (zI (if zHolds E cs = true then 1 else 0)))), zW K A' O t) ∧ ∀ c, c ≠ b + 6 → A' c = A c := by
  have start : mGd ar (d + 1) 37 0 [.ref b, .int (zI n), .double 0, .double 0, .double 0] [] (zW K A O t) = mGd ar (d + 1) 37 19 [.ref b, .int (zI n), .int (zI 0), .int (zI e), .double 0] [] (zW K A O t) := by
    by_cases h : n = 0
    · rw [if_pos h] at he
      subst he
      simp (disch := first | assumption | omega | exact zr_and | exact zr_or | exact zr_xor | exact zr_shl | exact zr_shr | exact zr_ushr | exact zr_byte) only [i37_0, i37_6, i37_18, mB1_i, mB0_i, mB1n_i, mB0n_i, mB1_x, mB0_x, if_true, if_false, if_pos, if_neg]
    · rw [if_neg h] at he
      subst he
      simp (disch := first | assumption | omega | exact zr_and | exact zr_or | exact zr_xor | exact zr_shl | exact zr_shr | exact zr_ushr | exact zr_byte) only [i37_0, i37_10, i37_18, mB1_i, mB0_i, mB1n_i, mB0n_i, mB1_x, mB0_x, if_true, if_false, if_pos, if_neg]
  rw [start]
  have hT2 : ∃ us, zTc cs [] = some us := by
    rcases hT with rfl | h
    · exact ⟨[], rfl⟩
    · exact ⟨_, h⟩
  obtain ⟨us, hus⟩ := hT2
  obtain ⟨B, u, g1, g2, g3, g4, g5⟩ := holds_loop (d := d) (K := K) (O := O) (t := t) (ar := ar) hb hE hn hp cs e [] [] us A (.double 0) hL hend h0 h4 hus trivial (by decide) trivial (by show (0 : Int) ≤ _; omega) (fun _ _ => rfl)
  refine ⟨B, ?_, g5⟩
  have g1' : mGd ar (d + 1) 37 19 [.ref b, .int (zI n), .int (zI 0), .int (zI e), .double 0] [] (zW K A O t) = _ := g1
  rw [g1']
  unfold zHolds
  cases hr : zRun E cs [] with
  | nil =>
    simp (disch := first | assumption | omega | exact zr_and | exact zr_or | exact zr_xor | exact zr_shl | exact zr_shr | exact zr_ushr | exact zr_byte) only [i37_164, i37_178, i37_183, List.length_nil, Int.natCast_zero, mB1_i, mB0_i, mB1n_i, mB0n_i, mB1_x, mB0_x, if_true, if_false, if_pos, if_neg]
  | cons x r =>
    rw [hr] at g2 g3 g4
    have hr0 : r = [] := by
      rcases hT with rfl | h
      · cases hr
      · rw [hus] at h
        cases h
        have := zTv_len g3
        cases r with
        | nil => rfl
        | cons y r => simp at this
    subst hr0
    have hx : B (b + 6) 0 = x := g2.1
    have hx0 : 0 ≤ x ∧ x ≤ 4000000 := by
      have := zTv_nn g3
      simp at this g4
      omega
    by_cases h1 : x = 1
    · simp (disch := first | assumption | omega | exact zr_and | exact zr_or | exact zr_xor | exact zr_shl | exact zr_shr | exact zr_ushr | exact zr_byte) only [i37_164, i37_168, i37_178, i37_183, List.length_cons, List.length_nil, hx, h1, decide_true, mB1_i, mB0_i, mB1n_i, mB0n_i, mB1_x, mB0_x, if_true, if_false, if_pos, if_neg]
    · have h2 : (decide (x = 1) = true) = False := by simp [h1]
      simp (disch := first | assumption | omega | exact zr_and | exact zr_or | exact zr_xor | exact zr_shl | exact zr_shr | exact zr_ushr | exact zr_byte) only [i37_164, i37_168, i37_182, i37_183, List.length_cons, List.length_nil, hx, h2, mB1_i, mB0_i, mB1n_i, mB0n_i, mB1_x, mB0_x, if_true, if_false, if_pos, if_neg]
end LAW
