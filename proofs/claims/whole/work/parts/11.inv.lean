/-! THE SMALL MACHINE IS THE MACHINE, 3: one step that is no call and no end -/
theorem mBin_inv {f : Int32 → Int32 → Int32} {pc : Nat} {l st : List Value} {w : mW} {z : mNx} (h : mBin f pc l w st = some z) : ∃ x y st0, st = .int y :: .int x :: st0 ∧ z = (pc, l, .int (f x y) :: st0, w) := by
  unfold mBin at h
  split at h
  · cases h; exact ⟨_, _, _, rfl, rfl⟩
  · cases h
theorem mDiv_inv {f : Int32 → Int32 → Int32} {pc : Nat} {l st : List Value} {w : mW} {z : mNx} (h : mDiv f pc l w st = some z) : ∃ x y st0, st = .int y :: .int x :: st0 ∧ ¬ y = 0 ∧ z = (pc, l, .int (f x y) :: st0, w) := by
  unfold mDiv at h
  split at h
  · rename_i y x st0
    by_cases hy : y = 0
    · rw [if_pos hy] at h; cases h
    · rw [if_neg hy] at h; cases h; exact ⟨_, _, _, rfl, hy, rfl⟩
  · cases h
theorem mUn_inv {f : Int32 → Value} {pc : Nat} {l st : List Value} {w : mW} {z : mNx} (h : mUn f pc l w st = some z) : ∃ x st0, st = .int x :: st0 ∧ z = (pc, l, f x :: st0, w) := by
  unfold mUn at h
  split at h
  · cases h; exact ⟨_, _, rfl, rfl⟩
  · cases h
theorem mIf_inv {k : ClassFile.Cond} {a b : Nat} {l st : List Value} {w : mW} {z : mNx} (h : mIf k a b l w st = some z) : ∃ x st0, st = .int x :: st0 ∧ z = (mBr k x 0 a b, l, st0, w) := by
  unfold mIf at h
  split at h
  · cases h; exact ⟨_, _, rfl, rfl⟩
  · cases h
theorem mIcmp_inv {k : ClassFile.Cond} {a b : Nat} {l st : List Value} {w : mW} {z : mNx} (h : mIcmp k a b l w st = some z) : ∃ x y st0, st = .int y :: .int x :: st0 ∧ z = (mBr k x y a b, l, st0, w) := by
  unfold mIcmp at h
  split at h
  · cases h; exact ⟨_, _, _, rfl, rfl⟩
  · cases h
theorem mLd_inv {k pc : Nat} {l st : List Value} {w : mW} {z : mNx} (h : mLd k pc l w st = some z) : ∃ x, l[k]? = some (.int x) ∧ z = (pc, l, .int x :: st, w) := by
  unfold mLd at h
  split at h
  · rename_i x e; cases h; exact ⟨x, e, rfl⟩
  · cases h
theorem mLda_inv {k pc : Nat} {l st : List Value} {w : mW} {z : mNx} (h : mLda k pc l w st = some z) : ∃ v, l[k]? = some v ∧ z = (pc, l, v :: st, w) ∧ ((∃ a, v = .ref a) ∨ ∃ a, a < 200 ∧ v = .retAddr a) := by
  unfold mLda at h
  split at h
  · rename_i a e; cases h; exact ⟨_, e, rfl, Or.inl ⟨a, rfl⟩⟩
  · rename_i a e
    by_cases ha : a < 200
    · rw [if_pos ha] at h; cases h; exact ⟨_, e, rfl, Or.inr ⟨a, ha, rfl⟩⟩
    · rw [if_neg ha] at h; cases h
  · cases h
theorem mSto_inv {k pc : Nat} {l st : List Value} {w : mW} {z : mNx} (h : mSto k pc l w st = some z) : ∃ x st0, st = .int x :: st0 ∧ k < l.length ∧ z = (pc, l.set k (.int x), st0, w) := by
  unfold mSto at h
  split at h
  · rename_i x st0
    by_cases hk : k < l.length
    · rw [if_pos hk] at h; cases h; exact ⟨_, _, rfl, hk, rfl⟩
    · rw [if_neg hk] at h; cases h
  · cases h
theorem mStoA_inv {k pc : Nat} {l st : List Value} {w : mW} {z : mNx} (h : mStoA k pc l w st = some z) : ∃ x st0, st = .ref x :: st0 ∧ k < l.length ∧ z = (pc, l.set k (.ref x), st0, w) := by
  unfold mStoA at h
  split at h
  · rename_i x st0
    by_cases hk : k < l.length
    · rw [if_pos hk] at h; cases h; exact ⟨_, _, rfl, hk, rfl⟩
    · rw [if_neg hk] at h; cases h
  · cases h
theorem mInc_inv {k pc : Nat} {n : Int} {l st : List Value} {w : mW} {z : mNx} (h : mInc k n pc l w st = some z) : ∃ x, l[k]? = some (.int x) ∧ z = (pc, l.set k (.int (x + Int32.ofInt n)), st, w) := by
  unfold mInc at h
  split at h
  · rename_i x e; cases h; exact ⟨x, e, rfl⟩
  · cases h
theorem mDup_inv {pc : Nat} {l st : List Value} {w : mW} {z : mNx} (h : mDup pc l w st = some z) : ∃ v st0, st = v :: st0 ∧ v.category = 1 ∧ z = (pc, l, v :: v :: st0, w) := by
  unfold mDup at h
  split at h
  · rename_i v st0
    by_cases hk : v.category = 1
    · rw [if_pos hk] at h; cases h; exact ⟨_, _, rfl, hk, rfl⟩
    · rw [if_neg hk] at h; cases h
  · cases h
theorem mDup2_inv {pc : Nat} {l st : List Value} {w : mW} {z : mNx} (h : mDup2 pc l w st = some z) : ∃ v u st0, st = v :: u :: st0 ∧ v.category = 1 ∧ u.category = 1 ∧ z = (pc, l, v :: u :: v :: u :: st0, w) := by
  unfold mDup2 at h
  split at h
  · rename_i v u st0
    by_cases hk : v.category = 1 ∧ u.category = 1
    · rw [if_pos hk] at h; cases h; exact ⟨_, _, _, rfl, hk.1, hk.2, rfl⟩
    · rw [if_neg hk] at h; cases h
  · cases h
theorem mPop_inv {pc : Nat} {l st : List Value} {w : mW} {z : mNx} (h : mPop pc l w st = some z) : ∃ v st0, st = v :: st0 ∧ v.category = 1 ∧ z = (pc, l, st0, w) := by
  unfold mPop at h
  split at h
  · rename_i v st0
    by_cases hk : v.category = 1
    · rw [if_pos hk] at h; cases h; exact ⟨_, _, rfl, hk, rfl⟩
    · rw [if_neg hk] at h; cases h
  · cases h
theorem mNop_inv {pc : Nat} {l st : List Value} {w : mW} {z : mNx} (h : mNop pc l w st = some z) : ∃ a st0, st = .ref a :: st0 ∧ (st0.map fun v => v.category).sum ≤ 8 ∧ z = (pc, l, st0, w) := by
  unfold mNop at h
  split at h
  · rename_i a st0
    by_cases hk : (st0.map fun v => v.category).sum ≤ 8
    · rw [if_pos hk] at h; cases h; exact ⟨_, _, rfl, hk, rfl⟩
    · rw [if_neg hk] at h; cases h
  · cases h
theorem mGet_inv {k pc : Nat} {l st : List Value} {w : mW} {z : mNx} (h : mGet k pc l w st = some z) : ∃ a st0 ci fs v, st = .ref a :: st0 ∧ w.1 a = .inr (ci, fs) ∧ mIs ci (k / 64) = true ∧ fs[k % 64]? = some v ∧ z = (pc, l, v :: st0, w) := by
  unfold mGet at h
  split at h
  · rename_i a st0
    split at h
    · rename_i ci fs e
      by_cases hi : mIs ci (k / 64) = true
      · rw [if_pos hi] at h
        split at h
        · rename_i v ev; cases h; exact ⟨_, _, _, _, _, rfl, e, hi, ev, rfl⟩
        · cases h
      · rw [if_neg hi] at h; cases h
    · cases h
  · cases h
theorem mPut_inv {kd : Nat → Nat → Nat} {k pc : Nat} {l st : List Value} {w : mW} {z : mNx} (h : mPut kd k pc l w st = some z) : ∃ a st0 ci fs v, st = v :: .ref a :: st0 ∧ w.1 a = .inr (ci, fs) ∧ mIs ci (k / 64) = true ∧ mFit (kd ci (k % 64)) v = true ∧ k % 64 < fs.length ∧ z = (pc, l, st0, (va_up w.1 a (.inr (ci, fs.set (k % 64) v)), w.2)) := by
  unfold mPut at h
  split at h
  · rename_i v a st0
    split at h
    · rename_i ci fs e
      by_cases hi : (mIs ci (k / 64) && mFit (kd ci (k % 64)) v) = true ∧ k % 64 < fs.length
      · rw [if_pos hi] at h
        cases h
        have hi1 := hi.1
        simp only [Bool.and_eq_true] at hi1
        exact ⟨_, _, _, _, _, rfl, e, hi1.1, hi1.2, hi.2, rfl⟩
      · rw [if_neg hi] at h; cases h
    · cases h
  · cases h
theorem mStr_inv {k pc : Nat} {l st : List Value} {w : mW} {z : mNx} (h : mStr k pc l w st = some z) : ∃ i st0, st = .retAddr i :: st0 ∧ i < 31 ∧ z = (pc, l, (if k = 0 then .retAddr (64 + i) else .int 0) :: st0, w) := by
  unfold mStr at h
  split at h
  · rename_i i st0
    by_cases hi : i < 31
    · rw [if_pos hi] at h
      by_cases hk : k = 0
      · rw [if_pos hk] at h; cases h; exact ⟨_, _, rfl, hi, by rw [if_pos hk]⟩
      · rw [if_neg hk] at h; cases h; exact ⟨_, _, rfl, hi, by rw [if_neg hk]⟩
    · rw [if_neg hi] at h; cases h
  · cases h
theorem mAld_inv {ar : Nat → Nat × (Nat → Int32)} {t pc : Nat} {l st : List Value} {w : mW} {z : mNx} (h : mAld ar t pc l w st = some z) :
    (∃ a st0 n f i, st = .int i :: .ref a :: st0 ∧ w.1 a = .inl (t, n, .inl f) ∧ vp_in i n ∧ z = (pc, l, .int (f i.toNatClampNeg) :: st0, w)) ∨
    ∃ k st0 i, st = .int i :: .retAddr k :: st0 ∧ mSp t k = true ∧ vp_in i (ar k).1 ∧ z = (pc, l, .int ((ar k).2 i.toNatClampNeg) :: st0, w) := by
  unfold mAld at h
  split at h
  · rename_i i a st0
    split at h
    · rename_i t' n f e
      by_cases hi : t' = t ∧ ¬ (i < 0 ∨ n ≤ i.toNatClampNeg)
      · rw [if_pos hi] at h
        obtain ⟨rfl, hi⟩ := hi
        cases h
        exact Or.inl ⟨_, _, _, _, _, rfl, e, hi, rfl⟩
      · rw [if_neg hi] at h; cases h
    · cases h
  · rename_i i k st0
    by_cases hi : mSp t k = true ∧ ¬ (i < 0 ∨ (ar k).1 ≤ i.toNatClampNeg)
    · rw [if_pos hi] at h
      cases h
      exact Or.inr ⟨_, _, _, rfl, hi.1, hi.2, rfl⟩
    · rw [if_neg hi] at h; cases h
  · cases h
theorem mLald_inv {pc : Nat} {l st : List Value} {w : mW} {z : mNx} (h : mLald pc l w st = some z) : ∃ a st0 n f i, st = .int i :: .ref a :: st0 ∧ w.1 a = .inl (2, n, .inr (.inl f)) ∧ vp_in i n ∧ z = (pc, l, .long (f i.toNatClampNeg) :: st0, w) := by
  unfold mLald at h
  split at h
  · rename_i i a st0
    split at h
    · rename_i t' n f e
      by_cases hi : t' = 2 ∧ ¬ (i < 0 ∨ n ≤ i.toNatClampNeg)
      · rw [if_pos hi] at h
        obtain ⟨rfl, hi⟩ := hi
        cases h
        exact ⟨_, _, _, _, _, rfl, e, hi, rfl⟩
      · rw [if_neg hi] at h; cases h
    · cases h
  · cases h
theorem mAald_inv {pc : Nat} {l st : List Value} {w : mW} {z : mNx} (h : mAald pc l w st = some z) : ∃ a st0 t n f i b, st = .int i :: .ref a :: st0 ∧ w.1 a = .inl (t, n, .inr (.inr (.inr (.inr f)))) ∧ (t = 3 ∨ t = 4) ∧ vp_in i n ∧ f i.toNatClampNeg = some b ∧ z = (pc, l, .ref b :: st0, w) := by
  unfold mAald at h
  split at h
  · rename_i i a st0
    split at h
    · rename_i t' n f e
      by_cases hi : (t' = 3 ∨ t' = 4) ∧ ¬ (i < 0 ∨ n ≤ i.toNatClampNeg)
      · rw [if_pos hi] at h
        split at h
        · rename_i b eb
          cases h
          exact ⟨_, _, _, _, _, _, _, rfl, e, hi.1, hi.2, eb, rfl⟩
        · cases h
      · rw [if_neg hi] at h; cases h
    · cases h
  · cases h
theorem mAst_inv {t pc : Nat} {l st : List Value} {w : mW} {z : mNx} (h : mAst t pc l w st = some z) : ∃ a st0 n f i x, st = .int x :: .int i :: .ref a :: st0 ∧ w.1 a = .inl (t, n, .inl f) ∧ vp_in i n ∧ z = (pc, l, st0, (va_up w.1 a (.inl (t, n, .inl (upd f i.toNatClampNeg (if t = 1 then x.toInt8.toInt32 else x)))), w.2)) := by
  unfold mAst at h
  split at h
  · rename_i x i a st0
    split at h
    · rename_i t' n f e
      by_cases hi : t' = t ∧ ¬ (i < 0 ∨ n ≤ i.toNatClampNeg)
      · rw [if_pos hi] at h
        obtain ⟨rfl, hi⟩ := hi
        cases h
        exact ⟨_, _, _, _, _, _, rfl, e, hi, rfl⟩
      · rw [if_neg hi] at h; cases h
    · cases h
  · cases h
theorem mLast_inv {pc : Nat} {l st : List Value} {w : mW} {z : mNx} (h : mLast pc l w st = some z) : ∃ a st0 n f i x, st = .long x :: .int i :: .ref a :: st0 ∧ w.1 a = .inl (2, n, .inr (.inl f)) ∧ vp_in i n ∧ z = (pc, l, st0, (va_up w.1 a (.inl (2, n, .inr (.inl (vp_updL f i.toNatClampNeg x)))), w.2)) := by
  unfold mLast at h
  split at h
  · rename_i x i a st0
    split at h
    · rename_i t' n f e
      by_cases hi : t' = 2 ∧ ¬ (i < 0 ∨ n ≤ i.toNatClampNeg)
      · rw [if_pos hi] at h
        obtain ⟨rfl, hi⟩ := hi
        cases h
        exact ⟨_, _, _, _, _, _, rfl, e, hi, rfl⟩
      · rw [if_neg hi] at h; cases h
    · cases h
  · cases h
theorem mAast_inv {pc : Nat} {l st : List Value} {w : mW} {z : mNx} (h : mAast pc l w st = some z) : ∃ a st0 n f i v vs, st = .ref v :: .int i :: .ref a :: st0 ∧ w.1 a = .inl (3, n, .inr (.inr (.inr (.inr f)))) ∧ w.1 v = .inr (2, vs) ∧ vp_in i n ∧ z = (pc, l, st0, (va_up w.1 a (.inl (3, n, .inr (.inr (.inr (.inr (va_up f i.toNatClampNeg (some v))))))), w.2)) := by
  unfold mAast at h
  split at h
  · rename_i v i a st0
    split at h
    · rename_i t' n f ci vs e ev
      by_cases hi : t' = 3 ∧ ci = 2 ∧ ¬ (i < 0 ∨ n ≤ i.toNatClampNeg)
      · rw [if_pos hi] at h
        obtain ⟨rfl, rfl, hi⟩ := hi
        cases h
        exact ⟨_, _, _, _, _, _, _, rfl, e, ev, hi, rfl⟩
      · rw [if_neg hi] at h; cases h
    · cases h
  · cases h
theorem mLen_inv {ar : Nat → Nat × (Nat → Int32)} {pc : Nat} {l st : List Value} {w : mW} {z : mNx} (h : mLen ar pc l w st = some z) :
    (∃ a st0 t x, st = .ref a :: st0 ∧ w.1 a = .inl (t, x) ∧ t < 5 ∧ z = (pc, l, .int (Int32.ofNat x.1) :: st0, w)) ∨
    ∃ k st0, st = .retAddr k :: st0 ∧ (mSp 0 k = true ∨ mSp 1 k = true) ∧ z = (pc, l, .int (Int32.ofNat (ar k).1) :: st0, w) := by
  unfold mLen at h
  split at h
  · rename_i a st0
    split at h
    · rename_i t x e
      by_cases ht : t < 5
      · rw [if_pos ht] at h; cases h; exact Or.inl ⟨_, _, _, _, rfl, e, ht, rfl⟩
      · rw [if_neg ht] at h; cases h
    · cases h
  · rename_i k st0
    by_cases hk : (mSp 0 k || mSp 1 k) = true
    · rw [if_pos hk] at h; cases h
      simp only [Bool.or_eq_true] at hk
      exact Or.inr ⟨_, _, rfl, hk, rfl⟩
    · rw [if_neg hk] at h; cases h
  · cases h
theorem mLcmp_inv {pc : Nat} {l st : List Value} {w : mW} {z : mNx} (h : mLcmp pc l w st = some z) : ∃ x y st0, st = .long y :: .long x :: st0 ∧ z = (pc, l, .int (lg_cmp x y) :: st0, w) := by
  unfold mLcmp at h
  split at h
  · cases h; exact ⟨_, _, _, rfl, rfl⟩
  · cases h
theorem mCopy_inv {pc : Nat} {l st : List Value} {w : mW} {z : mNx} (h : mCopy pc l w st = some z) : ∃ n dp a sp a0 st0 n0 f n1 g, st = .int n :: .int dp :: .ref a :: .int sp :: .ref a0 :: st0 ∧ w.1 a0 = .inl (0, n0, .inl f) ∧ w.1 a = .inl (0, n1, .inl g) ∧ (¬ sp < 0 ∧ ¬ dp < 0 ∧ ¬ n < 0) ∧ sp.toNatClampNeg + n.toNatClampNeg ≤ n0 ∧ dp.toNatClampNeg + n.toNatClampNeg ≤ n1 ∧ (st0.map fun v => v.category).sum ≤ 8 ∧
      z = (pc, l, st0, (va_up w.1 a (.inl (0, n1, .inl (va_cpy f g sp.toNatClampNeg dp.toNatClampNeg n.toNatClampNeg))), w.2)) := by
  unfold mCopy at h
  split at h
  · rename_i n dp a sp a0 st0
    split at h
    · rename_i t0 n0 f t1 n1 g e0 e1
      by_cases hc : (t0 = 0 ∧ t1 = 0) ∧ (¬ sp < 0 ∧ ¬ dp < 0 ∧ ¬ n < 0) ∧ sp.toNatClampNeg + n.toNatClampNeg ≤ n0 ∧ dp.toNatClampNeg + n.toNatClampNeg ≤ n1 ∧ (st0.map fun v => v.category).sum ≤ 8
      · rw [if_pos hc] at h
        obtain ⟨⟨rfl, rfl⟩, hc1, hc2, hc3, hc4⟩ := hc
        cases h
        exact ⟨_, _, _, _, _, _, _, _, _, _, rfl, e0, e1, hc1, hc2, hc3, hc4, rfl⟩
      · rw [if_neg hc] at h; cases h
    · cases h
  · cases h
theorem mNew_inv {df : Nat → List Value} {ci pc : Nat} {l st : List Value} {w : mW} {z : mNx} (h : mNew df ci pc l w st = some z) : w.2.2.2 = 0 ∧ z = (pc, l, .ref w.2.1 :: st, (va_up w.1 w.2.1 (.inr (ci, df ci)), w.2.1 + 1, w.2.2.1 + (df ci).length, 0)) := by
  unfold mNew at h
  by_cases hk : w.2.2.2 = 0
  · rw [if_pos hk] at h; cases h; exact ⟨hk, rfl⟩
  · rw [if_neg hk] at h; cases h
theorem mNewa_inv {t : ArrayType} {pc : Nat} {l st : List Value} {w : mW} {z : mNx} (h : mNewa t pc l w st = some z) : ∃ n st0 k x, st = .int n :: st0 ∧ mAty t = some (k, x) ∧ w.2.2.2 = 0 ∧ ¬ n < 0 ∧ n.toNatClampNeg ≤ 60000 ∧ z = (pc, l, .ref w.2.1 :: st0, (va_up w.1 w.2.1 (.inl (k, n.toNatClampNeg, x)), w.2.1 + 1, w.2.2.1 + n.toNatClampNeg, 0)) := by
  unfold mNewa at h
  split at h
  · rename_i n st0
    split at h
    · rename_i k x e
      by_cases hk : w.2.2.2 = 0 ∧ ¬ n < 0 ∧ n.toNatClampNeg ≤ 60000
      · rw [if_pos hk] at h; cases h; exact ⟨_, _, _, _, rfl, e, hk.1, hk.2.1, hk.2.2, rfl⟩
      · rw [if_neg hk] at h; cases h
    · cases h
  · cases h
theorem mNewq_inv {pc : Nat} {l st : List Value} {w : mW} {z : mNx} (h : mNewq pc l w st = some z) : ∃ n st0, st = .int n :: st0 ∧ w.2.2.2 = 0 ∧ ¬ n < 0 ∧ n.toNatClampNeg ≤ 60000 ∧ z = (pc, l, .ref w.2.1 :: st0, (va_up w.1 w.2.1 (.inl (3, n.toNatClampNeg, .inr (.inr (.inr (.inr fun _ => none))))), w.2.1 + 1, w.2.2.1 + n.toNatClampNeg, 0)) := by
  unfold mNewq at h
  split at h
  · rename_i n st0
    by_cases hk : w.2.2.2 = 0 ∧ ¬ n < 0 ∧ n.toNatClampNeg ≤ 60000
    · rw [if_pos hk] at h; cases h; exact ⟨_, _, rfl, hk.1, hk.2.1, hk.2.2, rfl⟩
    · rw [if_neg hk] at h; cases h
  · cases h
theorem mMulti_inv {pc : Nat} {l st : List Value} {w : mW} {z : mNx} (h : mMulti pc l w st = some z) : ∃ k n st0, st = .int k :: .int n :: st0 ∧ w.2.2.2 = 0 ∧ ¬ n < 0 ∧ ¬ k < 0 ∧ n.toNatClampNeg ≤ 60000 ∧ k.toNatClampNeg ≤ 60000 ∧
      z = (pc, l, .ref w.2.1 :: st0, (mRows w.1 w.2.1 n.toNatClampNeg k.toNatClampNeg, w.2.1 + 1 + n.toNatClampNeg, w.2.2.1 + n.toNatClampNeg + n.toNatClampNeg * k.toNatClampNeg, 0)) := by
  unfold mMulti at h
  split at h
  · rename_i k n st0
    by_cases hk : w.2.2.2 = 0 ∧ ¬ n < 0 ∧ ¬ k < 0 ∧ n.toNatClampNeg ≤ 60000 ∧ k.toNatClampNeg ≤ 60000
    · rw [if_pos hk] at h; cases h; exact ⟨_, _, _, rfl, hk.1, hk.2.1, hk.2.2.1, hk.2.2.2.1, hk.2.2.2.2, rfl⟩
    · rw [if_neg hk] at h; cases h
  · cases h
theorem mTsw_inv {d lo hi : Int} {offs : Array Int} {pc : Nat} {l st : List Value} {w : mW} {z : mNx} (h : mTsw d lo hi offs pc l w st = some z) : ∃ x st0, st = .int x :: st0 ∧ (((x.toInt < lo ∨ hi < x.toInt) ∧ z = (((pc : Int) + d).toNat, l, st0, w)) ∨ (¬ (x.toInt < lo ∨ hi < x.toInt) ∧ ∃ off, offs[(x.toInt - lo).toNat]? = some off ∧ z = (((pc : Int) + off).toNat, l, st0, w))) := by
  unfold mTsw at h
  split at h
  · rename_i x st0
    by_cases hk : x.toInt < lo ∨ hi < x.toInt
    · rw [if_pos hk] at h; cases h; exact ⟨_, _, rfl, Or.inl ⟨hk, rfl⟩⟩
    · rw [if_neg hk] at h
      split at h
      · rename_i off e; cases h; exact ⟨_, _, rfl, Or.inr ⟨hk, _, e, rfl⟩⟩
      · cases h
  · cases h
theorem mLsw_inv {d : Int} {ps : Array (Int × Int)} {pc : Nat} {l st : List Value} {w : mW} {z : mNx} (h : mLsw d ps pc l w st = some z) : ∃ x st0, st = .int x :: st0 ∧ z = (((pc : Int) + Op.lookupswitch.offset ps.toList d x.toInt).toNat, l, st0, w) := by
  unfold mLsw at h
  split at h
  · cases h; exact ⟨_, _, rfl, rfl⟩
  · cases h
theorem mJ_inv {pc : Nat} {off : Int} {i j : Instr} (h : mJ pc off i = some j) : j = i ∧ (pc : Int) + off = ((((pc : Int) + off).toNat : Nat) : Int) := by
  unfold mJ at h
  by_cases hk : 0 ≤ (pc : Int) + off
  · rw [if_pos hk] at h; cases h; exact ⟨rfl, (Int.toNat_of_nonneg hk).symm⟩
  · rw [if_neg hk] at h; cases h
