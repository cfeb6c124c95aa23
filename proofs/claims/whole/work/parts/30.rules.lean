/-! THE PURE PART, 6: the rules by which the pieces of code are put together -/
theorem mF_m {M pc : Nat} {t : List (Nat × Nat × Instr)} {q : Instr × Nat} (ht : mTab.getD M [] = t) (h : mFind pc t = some q) : mF M pc = some q := by
  unfold mF
  rw [ht]
  exact h
def mTsp (x : Int32) (df lo hi : Int) (offs : Array Int) (pc : Nat) : Option Nat := if x.toInt < lo ∨ hi < x.toInt then some ((pc : Int) + df).toNat else (offs[(x.toInt - lo).toNat]?).map fun off => ((pc : Int) + off).toNat
def mLsp (x : Int32) (df : Int) (ps : Array (Int × Int)) (pc : Nat) : Option Nat := some ((pc : Int) + Op.lookupswitch.offset ps.toList df x.toInt).toNat
/-- behind a call that gives an int; that gives nothing; of a kind that may not throw -/
def mB1 (r : Option (mEnd × mW)) (k : Int32 → mW → Option (mEnd × mW)) : Option (mEnd × mW) := match r with
  | some (.inl (some (.int y)), w1) => k y w1
  | some (.inr x, w1) => some (.inr x, w1)
  | _ => none
def mB0 (r : Option (mEnd × mW)) (k : mW → Option (mEnd × mW)) : Option (mEnd × mW) := match r with
  | some (.inl none, w1) => k w1
  | some (.inr x, w1) => some (.inr x, w1)
  | _ => none
section RULES
variable {ar : Nat → Nat × (Nat → Int32)} {d M pc len : Nat} {l st : List Value} {K : Nat → Nat → Option Nat} {D : Nat → Nat → Int32} {O : Nat → Int64} {t a : Nat} {w : mW} {i : Instr}
theorem mG_br {c : Prop} [Decidable c] {p q : Nat} : mGd ar d M (if c then p else q) l st w = if c then mGd ar d M p l st w else mGd ar d M q l st w := by
  by_cases h : c
  · rw [if_pos h, if_pos h]
  · rw [if_neg h, if_neg h]
theorem mG_ts {x : Int32} {df lo hi : Int} {offs : Array Int} {q : Nat} (hf : mF M pc = some (.tableswitch df lo hi offs, len)) (h : mTsp x df lo hi offs pc = some q) : mGd ar d M pc l (.int x :: st) w = mGd ar d M q l st w := by
  refine mG_st (z := (q, l, st, w)) hf ?_
  show mTsw df lo hi offs pc l w (.int x :: st) = _
  unfold mTsw
  unfold mTsp at h
  dsimp only
  by_cases hc : x.toInt < lo ∨ hi < x.toInt
  · rw [if_pos hc] at h ⊢
    cases h
    rfl
  · rw [if_neg hc] at h ⊢
    cases ho : offs[(x.toInt - lo).toNat]? with
    | none => rw [ho] at h; cases h
    | some off => rw [ho] at h; cases h; rfl
theorem mG_ls {x : Int32} {df : Int} {ps : Array (Int × Int)} {q : Nat} (hf : mF M pc = some (.lookupswitch df ps, len)) (h : mLsp x df ps pc = some q) : mGd ar d M pc l (.int x :: st) w = mGd ar d M q l st w := by
  refine mG_st (z := (q, l, st, w)) hf ?_
  unfold mLsp at h
  cases h
  rfl
/-- an int is what an int's method gives -/
theorem mGo_ri {n : Nat} {w' : mW} {v : Option Value} (h : mGo ar n d M pc l st w = some (.inl v, w')) : (mRt M = none ∧ v = none) ∨ (∃ y, v = some (.int y) ∧ ∃ ty, mRt M = some ty) := by
  induction n generalizing d M pc l st w w' v with
  | zero => unfold mGo at h; cases h
  | succ n ih =>
    obtain ⟨i, len, hf, h1 | h1 | h1 | h1 | h1⟩ := mGo_cases h
    · obtain ⟨-, x, ty, -, h2, -, h3, -⟩ := h1
      cases h3
      exact Or.inr ⟨x, rfl, ty, h2⟩
    · obtain ⟨-, -, h2, h3, -⟩ := h1
      cases h3
      exact Or.inl ⟨h2, rfl⟩
    · obtain ⟨x, -, -, h2, -⟩ := h1; cases h2
    · obtain ⟨M', k, d', -, -, -, h2 | h2⟩ := h1
      · obtain ⟨u, w1, -, h3⟩ := h2; exact ih h3
      · obtain ⟨x, w1, -, -, h3 | h3⟩ := h2
        · obtain ⟨pc', j, -, -, h4⟩ := h3; exact ih h4
        · obtain ⟨-, h4, -⟩ := h3; cases h4
    · obtain ⟨z, -, h2⟩ := h1; exact ih h2
theorem mG_none {M' k : Nat} (hf : mF M pc = some (i, len)) (hc : mCal i st w = some (M', k)) (hk : mOk k st = true) (hg : mGd ar d M' 0 (mLoc M' (mArgs k st)) [] w = none) : mGd ar (d + 1) M pc l st w = none := by
  cases h : mGd ar (d + 1) M pc l st w with
  | none => rfl
  | some r =>
    obtain ⟨n, hn⟩ := mGd_iff.mp h
    cases n with
    | zero => unfold mGo at hn; cases hn
    | succ n =>
      rw [mI_ca hf hc hk] at hn
      cases hg2 : mGo ar n d M' 0 (mLoc M' (mArgs k st)) [] w with
      | none => rw [hg2] at hn; cases hn
      | some q => rw [mGd_iff.mpr ⟨n, hg2⟩] at hg; cases hg
theorem mC_1 {M' k : Nat} {ty : FieldType} {r : Option (mEnd × mW)} {la : List Value} (hf : mF M pc = some (i, len)) (hc : mCal i st w = some (M', k)) (hk : mOk k st = true) (hR : mRt M' = some ty) (ht : mTk i = true) (hh : ∀ x, mHd M pc x = none) (hl : mLoc M' (mArgs k st) = la) (hr : mGd ar d M' 0 la [] w = r) :
    mGd ar (d + 1) M pc l st w = mB1 r (fun y w1 => mGd ar (d + 1) M (pc + len) l (.int y :: st.drop k) w1) := by
  subst hl
  cases r with
  | none => exact mG_none hf hc hk hr
  | some q =>
    obtain ⟨E, w1⟩ := q
    cases E with
    | inr x => exact mG_out hf hc hk hr ht (hh x)
    | inl v =>
      obtain ⟨n, hn⟩ := mGd_iff.mp hr
      rcases mGo_ri hn with ⟨h1, -⟩ | ⟨y, rfl, -⟩
      · rw [hR] at h1; cases h1
      · exact mG_ok hf hc hk hr
theorem mC_0 {M' k : Nat} {r : Option (mEnd × mW)} {la : List Value} (hf : mF M pc = some (i, len)) (hc : mCal i st w = some (M', k)) (hk : mOk k st = true) (hR : mRt M' = none) (ht : mTk i = true) (hh : ∀ x, mHd M pc x = none) (hl : mLoc M' (mArgs k st) = la) (hr : mGd ar d M' 0 la [] w = r) :
    mGd ar (d + 1) M pc l st w = mB0 r (fun w1 => mGd ar (d + 1) M (pc + len) l (st.drop k) w1) := by
  subst hl
  cases r with
  | none => exact mG_none hf hc hk hr
  | some q =>
    obtain ⟨E, w1⟩ := q
    cases E with
    | inr x => exact mG_out hf hc hk hr ht (hh x)
    | inl v =>
      obtain ⟨n, hn⟩ := mGd_iff.mp hr
      rcases mGo_ri hn with ⟨-, rfl⟩ | ⟨y, rfl, ty, h1⟩
      · exact mG_ok hf hc hk hr
      · rw [hR] at h1; cases h1
end RULES
