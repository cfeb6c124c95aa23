/-! THE PURE PART, 2: the constructors' run, by reckoning: no script, no string is touched in them -/
def mA0 : Nat → Nat × (Nat → Int32) := fun _ => (0, fun _ => 0)
def mStC (i : Instr) (len pc : Nat) (l st : List Value) (w : mW) : Option mNx := match i, st with
  | .iaload, .int _ :: .retAddr _ :: _ => none
  | .baload, .int _ :: .retAddr _ :: _ => none
  | .arraylength, .retAddr _ :: _ => none
  | i, st => mSt mA0 i len pc l st w
theorem mStC_ok {ar : Nat → Nat × (Nat → Int32)} {i : Instr} {len pc : Nat} {l st : List Value} {w : mW} {z : mNx} (h : mStC i len pc l st w = some z) : mSt ar i len pc l st w = some z := by
  unfold mStC at h
  split at h
  · cases h
  · cases h
  · cases h
  · rename_i n1 n2 n3
    cases i <;> first | exact h | skip
    · show mLen ar (pc + len) l w st = some z
      have h : mLen mA0 (pc + len) l w st = some z := h
      unfold mLen at h ⊢
      split at h
      · exact h
      · exact (n3 _ _ rfl rfl).elim
      · cases h
    · show mAld ar 1 (pc + len) l w st = some z
      have h : mAld mA0 1 (pc + len) l w st = some z := h
      unfold mAld at h ⊢
      split at h
      · exact h
      · exact (n2 _ _ _ rfl rfl).elim
      · cases h
    · show mAld ar 0 (pc + len) l w st = some z
      have h : mAld mA0 0 (pc + len) l w st = some z := h
      unfold mAld at h ⊢
      split at h
      · exact h
      · exact (n1 _ _ _ rfl rfl).elim
      · cases h
def mGoC : Nat → Nat → Nat → Nat → List Value → List Value → mW → Option (Option Value × mW)
  | 0, _, _, _, _, _, _ => none
  | n + 1, d, M, pc, l, st, w => match mF M pc with
    | none => none
    | some (i, len) => match i with
      | .return_ => match st with
        | [] => match mRt M with
          | none => some (none, w)
          | some _ => none
        | _ => none
      | .ireturn => none
      | .ret _ => none
      | i => match mCal i st w with
        | some (M', k) => match d with
          | 0 => none
          | d + 1 => if mOk k st = true then match mGoC n d M' 0 (mLoc M' (mArgs k st)) [] w with
            | none => none
            | some (v, w1) => mGoC n (d + 1) M (pc + len) l (v.toList ++ st.drop k) w1
            else none
        | none => match mStC i len pc l st w with
          | none => none
          | some (pc', l', st', w') => mGoC n d M pc' l' st' w'
theorem mGoC_ok {ar : Nat → Nat × (Nat → Int32)} : ∀ {n d M pc : Nat} {l st : List Value} {w w' : mW} {v : Option Value}, mGoC n d M pc l st w = some (v, w') → mGo ar n d M pc l st w = some (.inl v, w') := by
  intro n
  induction n with
  | zero => intro d M pc l st w w' v h; unfold mGoC at h; cases h
  | succ n ih =>
    intro d M pc l st w w' v h
    unfold mGoC at h
    cases hf : mF M pc with
    | none => rw [hf] at h; cases h
    | some q =>
      obtain ⟨i, len⟩ := q
      rw [hf] at h
      dsimp only at h
      split at h
      · split at h
        · cases hr : mRt M with
          | none => rw [hr] at h; cases h; exact mI_rt hf hr
          | some ty => rw [hr] at h; cases h
        · cases h
      · cases h
      · cases h
      · cases hc : mCal i st w with
        | none =>
          rw [hc] at h
          dsimp only at h
          cases hs : mStC i len pc l st w with
          | none => rw [hs] at h; cases h
          | some z =>
            rw [hs] at h
            rw [mI_st hf (mStC_ok hs)]
            exact ih h
        | some q =>
          obtain ⟨M', k⟩ := q
          rw [hc] at h
          dsimp only at h
          cases d with
          | zero => cases h
          | succ d' =>
            dsimp only at h
            by_cases hk : mOk k st = true
            · rw [if_pos hk] at h
              cases hg : mGoC n d' M' 0 (mLoc M' (mArgs k st)) [] w with
              | none => rw [hg] at h; cases h
              | some z =>
                obtain ⟨u, w1⟩ := z
                rw [hg] at h
                rw [mI_ca hf hc hk, ih hg]
                exact ih h
            · rw [if_neg hk] at h; cases h
/-- the law's code up to its loop -/
def mMk1 : mW := (va_up mW0.1 0 (.inr (11, mDf 11)), 1, (mDf 11).length, 0)
def mMk2 : Option (Option Value × mW) := mGoC 3000 12 1 0 (mLoc 1 [.ref 0]) [] mMk1
def mMk3 (w : mW) : mW := (va_up w.1 w.2.1 (.inr (12, mDf 12)), w.2.1 + 1, w.2.2.1 + (mDf 12).length, 0)
def mMk4 (w : mW) : Option (Option Value × mW) := mGoC 3000 12 216 0 (mLoc 216 [.ref w.2.1]) [] (mMk3 w)
def mMk5 (w : mW) : mW := (va_up w.1 w.2.1 (.inl (2, 1, .inr (.inl fun _ => 0))), w.2.1 + 1, w.2.2.1 + 1, 0)
def mMk : Option mW := match mMk2 with
  | some (none, w2) => match mMk4 w2 with
    | some (none, w4) => some (mMk5 w4)
    | _ => none
  | _ => none
theorem mMk_n : (match mMk with | some w => decide (w.2 = (199, 18060, 0)) | none => false) = true := by decide +kernel
theorem mMk_a : (match mMk2 with | some (none, w2) => decide (w2.2.2.2 = 0) && decide (w2.2.1 = 185) && (match mMk4 w2 with | some (none, w4) => decide (w4.2.2.2 = 0) && decide (w4.2.1 = 198) | _ => false) | _ => false) = true := by decide +kernel
