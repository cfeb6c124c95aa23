/-! THE PURE PART, 1: the small machine without fuel -/
section GD
variable {ar : Nat → Nat × (Nat → Int32)} {n d M pc len : Nat} {l st : List Value} {w w' w1 : mW} {E : mEnd} {i : Instr}
theorem mI_ir {x : Int32} {ty : FieldType} (hf : mF M pc = some (.ireturn, len)) (hr : mRt M = some ty) (hn : narrow ty (.int x) = .int x) : mGo ar (n + 1) d M pc l [.int x] w = some (.inl (some (.int x)), w) := by
  unfold mGo
  rw [hf]
  dsimp only
  rw [hr]
  dsimp only
  rw [if_pos hn]
theorem mI_rt (hf : mF M pc = some (.return_, len)) (hr : mRt M = none) : mGo ar (n + 1) d M pc l [] w = some (.inl none, w) := by
  unfold mGo
  rw [hf]
  dsimp only
  rw [hr]
theorem mI_th {x : Nat} (hf : mF M pc = some (.ret x, len)) (h8 : (st.map fun v => v.category).sum ≤ 8) : mGo ar (n + 1) d M pc l st w = some (.inr x, (w.1, w.2.1, w.2.2.1, w.2.2.2 + 1)) := by
  unfold mGo
  rw [hf]
  dsimp only
  rw [if_pos h8]
theorem mI_st {z : mNx} (hf : mF M pc = some (i, len)) (hs : mSt ar i len pc l st w = some z) : mGo ar (n + 1) d M pc l st w = mGo ar n d M z.1 z.2.1 z.2.2.1 z.2.2.2 := by
  cases i <;> first | (cases hs; done) | (conv => lhs; unfold mGo; rw [hf]; dsimp only [mCal]; rw [hs])
/-- behind a call -/
def mBk (ar : Nat → Nat × (Nat → Int32)) (n d M pc len k : Nat) (i : Instr) (l st : List Value) : Option (mEnd × mW) → Option (mEnd × mW)
  | none => none
  | some (.inl v, w1) => mGo ar n d M (pc + len) l (v.toList ++ st.drop k) w1
  | some (.inr E, w1) => if mTk i = true then match mHd M pc E with
    | some (pc', j) => if j < l.length then mGo ar n d M pc' (l.set j (.double 0)) [] w1 else none
    | none => some (.inr E, w1)
    else none
theorem mI_ca {M' k : Nat} (hf : mF M pc = some (i, len)) (hc : mCal i st w = some (M', k)) (hk : mOk k st = true) : mGo ar (n + 1) (d + 1) M pc l st w = mBk ar n (d + 1) M pc len k i l st (mGo ar n d M' 0 (mLoc M' (mArgs k st)) [] w) := by
  cases i <;> first | (cases hc; done) | (
    conv => lhs; unfold mGo; rw [hf]; dsimp only; rw [hc]; dsimp only; rw [if_pos hk]
    unfold mBk
    rfl)
theorem mGo_up1 : ∀ {n d M pc : Nat} {l st : List Value} {w : mW} {r : mEnd × mW}, mGo ar n d M pc l st w = some r → mGo ar (n + 1) d M pc l st w = some r := by
  intro n
  induction n with
  | zero => intro d M pc l st w r h; unfold mGo at h; cases h
  | succ n ih =>
    intro d M pc l st w r h
    obtain ⟨E, w'⟩ := r
    obtain ⟨i, len, hf, h1 | h1 | h1 | h1 | h1⟩ := mGo_cases h
    · obtain ⟨rfl, x, ty, rfl, h2, h3, rfl, rfl⟩ := h1
      exact mI_ir hf h2 h3
    · obtain ⟨rfl, rfl, h2, rfl, rfl⟩ := h1
      exact mI_rt hf h2
    · obtain ⟨x, rfl, h8, rfl, rfl⟩ := h1
      exact mI_th hf h8
    · obtain ⟨M', k, d', hcal, rfl, hok, h2 | h2⟩ := h1
      · obtain ⟨v, w1, h3, h4⟩ := h2
        rw [mI_ca hf hcal hok, ih h3]
        exact ih h4
      · obtain ⟨x, w1, h3, h4, h5⟩ := h2
        rw [mI_ca hf hcal hok, ih h3]
        unfold mBk
        dsimp only
        rw [if_pos h4]
        rcases h5 with ⟨pc', j, h6, h7, h8⟩ | ⟨h6, rfl, rfl⟩
        · rw [h6]
          dsimp only
          rw [if_pos h7]
          exact ih h8
        · rw [h6]
    · obtain ⟨z, h2, h3⟩ := h1
      rw [mI_st hf h2]
      exact ih h3
theorem mGo_more {n k : Nat} {r : mEnd × mW} (h : mGo ar n d M pc l st w = some r) (hk : n ≤ k) : mGo ar k d M pc l st w = some r := by
  induction hk with
  | refl => exact h
  | step _ ih => exact mGo_up1 ih
/-- what the machine comes to, if it comes to an end -/
noncomputable def mGd (ar : Nat → Nat × (Nat → Int32)) (d M pc : Nat) (l st : List Value) (w : mW) : Option (mEnd × mW) :=
  @dite _ (∃ r, ∃ n, mGo ar n d M pc l st w = some r) (Classical.propDecidable _) (fun h => some (Classical.choose h)) (fun _ => none)
theorem mGd_iff {r : mEnd × mW} : mGd ar d M pc l st w = some r ↔ ∃ n, mGo ar n d M pc l st w = some r := by
  unfold mGd
  constructor
  · intro h
    split at h
    · rename_i hx
      have := Classical.choose_spec hx
      cases h
      exact this
    · cases h
  · rintro ⟨n, h⟩
    have hx : ∃ r, ∃ n, mGo ar n d M pc l st w = some r := ⟨r, n, h⟩
    rw [dif_pos hx]
    obtain ⟨k, hk⟩ := Classical.choose_spec hx
    have h1 := mGo_more h (Nat.le_max_left n k)
    have h2 := mGo_more hk (Nat.le_max_right n k)
    rw [h1] at h2
    exact h2.symm
theorem mOpt_ext {α : Type} {a b : Option α} (h : ∀ r, a = some r ↔ b = some r) : a = b := by
  cases a with
  | none =>
    cases b with
    | none => rfl
    | some y => exact (h y).mpr rfl
  | some x => exact ((h x).mp rfl).symm
theorem mG_ir {x : Int32} {ty : FieldType} (hf : mF M pc = some (.ireturn, len)) (hr : mRt M = some ty) (hn : narrow ty (.int x) = .int x) : mGd ar d M pc l [.int x] w = some (.inl (some (.int x)), w) := mGd_iff.mpr ⟨1, mI_ir hf hr hn⟩
theorem mG_rt (hf : mF M pc = some (.return_, len)) (hr : mRt M = none) : mGd ar d M pc l [] w = some (.inl none, w) := mGd_iff.mpr ⟨1, mI_rt hf hr⟩
theorem mG_th {x : Nat} (hf : mF M pc = some (.ret x, len)) (h8 : (st.map fun v => v.category).sum ≤ 8) : mGd ar d M pc l st w = some (.inr x, (w.1, w.2.1, w.2.2.1, w.2.2.2 + 1)) := mGd_iff.mpr ⟨1, mI_th hf h8⟩
theorem mG_st {z : mNx} (hf : mF M pc = some (i, len)) (hs : mSt ar i len pc l st w = some z) : mGd ar d M pc l st w = mGd ar d M z.1 z.2.1 z.2.2.1 z.2.2.2 := by
  apply mOpt_ext
  intro r
  rw [mGd_iff, mGd_iff]
  constructor
  · rintro ⟨n, h⟩
    cases n with
    | zero => unfold mGo at h; cases h
    | succ n => rw [mI_st hf hs] at h; exact ⟨n, h⟩
  · rintro ⟨n, h⟩
    exact ⟨n + 1, by rw [mI_st hf hs]; exact h⟩
/-- a call, by what its callee comes to -/
theorem mG_ok {M' k : Nat} {v : Option Value} (hf : mF M pc = some (i, len)) (hc : mCal i st w = some (M', k)) (hk : mOk k st = true) (hg : mGd ar d M' 0 (mLoc M' (mArgs k st)) [] w = some (.inl v, w1)) : mGd ar (d + 1) M pc l st w = mGd ar (d + 1) M (pc + len) l (v.toList ++ st.drop k) w1 := by
  obtain ⟨n0, h0⟩ := mGd_iff.mp hg
  apply mOpt_ext
  intro r
  rw [mGd_iff, mGd_iff]
  constructor
  · rintro ⟨n, h⟩
    have h2 := mGo_more h (Nat.le_trans (Nat.le_max_left n n0) (Nat.le_succ _))
    rw [mI_ca hf hc hk, mGo_more h0 (Nat.le_max_right n n0)] at h2
    exact ⟨_, h2⟩
  · rintro ⟨n, h⟩
    refine ⟨max n n0 + 1, ?_⟩
    rw [mI_ca hf hc hk, mGo_more h0 (Nat.le_max_right n n0)]
    exact mGo_more h (Nat.le_max_left n n0)
theorem mG_out {M' k x : Nat} (hf : mF M pc = some (i, len)) (hc : mCal i st w = some (M', k)) (hk : mOk k st = true) (hg : mGd ar d M' 0 (mLoc M' (mArgs k st)) [] w = some (.inr x, w1)) (ht : mTk i = true) (hh : mHd M pc x = none) : mGd ar (d + 1) M pc l st w = some (.inr x, w1) := by
  obtain ⟨n0, h0⟩ := mGd_iff.mp hg
  refine mGd_iff.mpr ⟨n0 + 1, ?_⟩
  rw [mI_ca hf hc hk, h0]
  unfold mBk
  dsimp only
  rw [if_pos ht, hh]
theorem mG_in {M' k x pc' j : Nat} (hf : mF M pc = some (i, len)) (hc : mCal i st w = some (M', k)) (hk : mOk k st = true) (hg : mGd ar d M' 0 (mLoc M' (mArgs k st)) [] w = some (.inr x, w1)) (ht : mTk i = true) (hh : mHd M pc x = some (pc', j)) (hj : j < l.length) : mGd ar (d + 1) M pc l st w = mGd ar (d + 1) M pc' (l.set j (.double 0)) [] w1 := by
  obtain ⟨n0, h0⟩ := mGd_iff.mp hg
  apply mOpt_ext
  intro r
  rw [mGd_iff, mGd_iff]
  constructor
  · rintro ⟨n, h⟩
    have h2 := mGo_more h (Nat.le_trans (Nat.le_max_left n n0) (Nat.le_succ _))
    rw [mI_ca hf hc hk, mGo_more h0 (Nat.le_max_right n n0)] at h2
    unfold mBk at h2
    dsimp only at h2
    rw [if_pos ht, hh] at h2
    dsimp only at h2
    rw [if_pos hj] at h2
    exact ⟨_, h2⟩
  · rintro ⟨n, h⟩
    refine ⟨max n n0 + 1, ?_⟩
    rw [mI_ca hf hc hk, mGo_more h0 (Nat.le_max_right n n0)]
    unfold mBk
    dsimp only
    rw [if_pos ht, hh]
    dsimp only
    rw [if_pos hj]
    exact mGo_more h (Nat.le_max_left n n0)
end GD
