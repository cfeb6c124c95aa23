/-! THE PURE PART, 4: the law's code comes to its loop with a flat memory -/
theorem mGo_dup {ar : Nat → Nat × (Nat → Int32)} : ∀ {n d M pc : Nat} {l st : List Value} {w : mW} {r : mEnd × mW}, mGo ar n d M pc l st w = some r → mGo ar n (d + 1) M pc l st w = some r := by
  intro n
  induction n with
  | zero => intro d M pc l st w r h; unfold mGo at h; cases h
  | succ n ih =>
    intro d M pc l st w r h
    obtain ⟨E, w'⟩ := r
    obtain ⟨i, len, hf, h1 | h1 | h1 | h1 | h1⟩ := mGo_cases h
    · obtain ⟨rfl, x, ty, rfl, h2, h3, rfl, rfl⟩ := h1
      exact mI_ir hf h2 h3
    · obtain ⟨rfl, rfl, h2, rfl, rfl⟩ := h1
      exact mI_rt hf h2
    · obtain ⟨x, rfl, h8, rfl, rfl⟩ := h1
      exact mI_th hf h8
    · obtain ⟨M', k, d', hcal, rfl, hok, h2 | h2⟩ := h1
      · obtain ⟨v, w1, h3, h4⟩ := h2
        rw [mI_ca hf hcal hok, ih h3]
        exact ih h4
      · obtain ⟨x, w1, h3, h4, h5⟩ := h2
        rw [mI_ca hf hcal hok, ih h3]
        unfold mBk
        dsimp only
        rw [if_pos h4]
        rcases h5 with ⟨pc', j, h6, h7, h8⟩ | ⟨h6, rfl, rfl⟩
        · rw [h6]
          dsimp only
          rw [if_pos h7]
          exact ih h8
        · rw [h6]
    · obtain ⟨z, h2, h3⟩ := h1
      rw [mI_st hf h2]
      exact ih h3
theorem mGd_dup {ar : Nat → Nat × (Nat → Int32)} {d M pc : Nat} {l st : List Value} {w : mW} {r : mEnd × mW} (h : mGd ar d M pc l st w = some r) (k : Nat) : mGd ar (d + k) M pc l st w = some r := by
  induction k with
  | zero => exact h
  | succ k ih =>
    obtain ⟨n, hn⟩ := mGd_iff.mp ih
    exact mGd_iff.mpr ⟨n, mGo_dup hn⟩
def mKf : List (Option Nat) → List Value → Bool
  | [], [] => true
  | none :: r, .int _ :: q => mKf r q
  | some b :: r, .ref c :: q => Nat.beq b c && mKf r q
  | _, _ => false
def mKin (e : va_E) (s : mSh) : Bool := match s, e with
  | .inl (t, n), .inl (t', n', .inl _) => decide (t' = t) && Nat.beq n' n && !decide (t = 2)
  | .inl (t, n), .inl (t', n', .inr (.inl _)) => decide (t = 2) && decide (t' = 2) && Nat.beq n' n
  | .inr (.inl (t, rs)), .inl (t', n', .inr (.inr (.inr (.inr _)))) => decide (t' = t) && Nat.beq n' rs.length
  | .inr (.inr (c, fs)), .inr (c', vs) => Nat.beq c' c && mKf fs vs
  | _, _ => false
def mXf (e : va_E) : Nat → Int32 := match e with
  | .inl (_, _, .inl f) => f
  | .inr (_, vs) => fun j => match vs[j]? with
    | some (.int x) => x
    | _ => 0
  | _ => fun _ => 0
def mXo (e : va_E) : Nat → Int64 := match e with
  | .inl (_, _, .inr (.inl f)) => f
  | _ => fun _ => 0
def mXg (e : va_E) : Nat → Option Nat := match e with
  | .inl (_, _, .inr (.inr (.inr (.inr f)))) => f
  | _ => fun _ => none
theorem mKf_ok {g : Nat → Int32} : ∀ {fs : List (Option Nat)} {vs : List Value} {j : Nat}, mKf fs vs = true → (∀ k x, vs[k]? = some (.int x) → g (j + k) = x) → vs = mFs g j fs
  | [], [], j, _, _ => rfl
  | [], v :: q, j, h, _ => by cases h
  | none :: r, [], j, h, _ => by cases h
  | some b :: r, [], j, h, _ => by cases h
  | none :: r, v :: q, j, h, hg => by
    cases v with
    | int x =>
      have h : mKf r q = true := h
      have e1 : g j = x := hg 0 x rfl
      show Value.int x :: q = Value.int (g j) :: mFs g (j + 1) r
      rw [e1, mKf_ok (g := g) (j := j + 1) h (fun k y hk => by rw [show j + 1 + k = j + (k + 1) by omega]; exact hg (k + 1) y hk)]
    | _ => cases h
  | some b :: r, v :: q, j, h, hg => by
    cases v with
    | ref c =>
      have h : (Nat.beq b c && mKf r q) = true := h
      simp only [Bool.and_eq_true, Nat.beq_eq] at h
      obtain ⟨rfl, h2⟩ := h
      show Value.ref b :: q = Value.ref b :: mFs g (j + 1) r
      rw [mKf_ok (g := g) (j := j + 1) h2 (fun k y hk => by rw [show j + 1 + k = j + (k + 1) by omega]; exact hg (k + 1) y hk)]
    | _ => cases h
theorem mKin_ok {e : va_E} {s : mSh} {O : Nat → Int64} (h : mKin e s = true) (hO : (∀ n, s ≠ .inl (2, n)) ∨ O = mXo e) : e = mCe (mXg e) s (mXf e) O := by
  unfold mKin at h
  split at h
  · rename_i t n t' n' f
    simp only [Bool.and_eq_true, decide_eq_true_eq, Nat.beq_eq, Bool.not_eq_true', decide_eq_false_iff_not] at h
    obtain ⟨⟨rfl, rfl⟩, h3⟩ := h
    show _ = if t' = 2 then _ else _
    rw [if_neg h3]
    rfl
  · rename_i t n t' n' f
    simp only [Bool.and_eq_true, decide_eq_true_eq, Nat.beq_eq] at h
    obtain ⟨⟨rfl, rfl⟩, rfl⟩ := h
    rcases hO with hO | rfl
    · exact absurd rfl (hO n')
    · rfl
  · rename_i t rs t' n' f
    simp only [Bool.and_eq_true, decide_eq_true_eq, Nat.beq_eq] at h
    obtain ⟨rfl, rfl⟩ := h
    rfl
  · rename_i c fs c' vs
    simp only [Bool.and_eq_true, Nat.beq_eq] at h
    obtain ⟨rfl, h2⟩ := h
    show Sum.inr (c', vs) = Sum.inr (c', mFs _ 0 fs)
    rw [← mKf_ok (g := mXf (.inr (c', vs))) (j := 0) h2 (fun k x hk => by
      show (match vs[0 + k]? with | some (.int x) => x | _ => 0) = x
      rw [Nat.zero_add, hk])]
  · cases h
/-- what the memory holds at first -/
def mSv (a : Nat) : Nat × Int32 := match mS a with
  | .inr (.inr (c, _)) => if c = 2 then (8, 1) else if c = 11 then (15, -1) else if c = 10 then (5, -1) else if c = 3 then (1, -1) else if c = 5 then (1, -1) else if c = 12 then (14, -1) else (0, 0)
  | _ => if a = 186 then (6, 1) else (0, 0)
def mVal (e : va_E) (q : Nat × Int32) : Bool := match e with
  | .inl (_, n, .inl f) => (List.range n).all fun j => decide (f j = if j = q.1 then q.2 else 0)
  | .inr (_, vs) => (List.range vs.length).all fun j => decide (mXf (.inr (0, vs)) j = if j = q.1 then q.2 else 0)
  | _ => true
def mSize (s : mSh) : Nat := match s with
  | .inl (_, n) => n
  | .inr (.inl _) => 0
  | .inr (.inr (_, fs)) => fs.length
theorem mMk_k : (match mMk with | some w => ((List.range 199).all fun a => mKin (w.1 a) (mS a) && mVal (w.1 a) (mSv a)) && ((List.range 12).all fun i => decide (mXg (w.1 20) i = some (21 + 9 * i))) && ((List.range 5).all fun i => decide (mXg (w.1 175) i = some (176 + i))) && decide (mXo (w.1 198) 0 = 0) | none => false) = true := by decide +kernel
theorem mS_long : ((List.range 198).all fun a => match mS a with | .inl (t, _) => !decide (t = 2) | _ => true) = true := by decide +kernel
