/-! THE SMALL MACHINE IS THE MACHINE, 5: what a run of it is, one step on; which instruction stands behind a call, an end, a throw -/
theorem mGo_cases {ar : Nat → Nat × (Nat → Int32)} {n d M pc : Nat} {l st : List Value} {w w' : mW} {E : mEnd} (h : mGo ar (n + 1) d M pc l st w = some (E, w')) : ∃ i len, mF M pc = some (i, len) ∧
    ((i = .ireturn ∧ ∃ x ty, st = [.int x] ∧ mRt M = some ty ∧ narrow ty (.int x) = .int x ∧ E = .inl (some (.int x)) ∧ w' = w) ∨
     (i = .return_ ∧ st = [] ∧ mRt M = none ∧ E = .inl none ∧ w' = w) ∨
     (∃ x, i = .ret x ∧ (st.map fun v => v.category).sum ≤ 8 ∧ E = .inr x ∧ w' = (w.1, w.2.1, w.2.2.1, w.2.2.2 + 1)) ∨
     (∃ M' k d', mCal i st w = some (M', k) ∧ d = d' + 1 ∧ mOk k st = true ∧
        ((∃ v w1, mGo ar n d' M' 0 (mLoc M' (mArgs k st)) [] w = some (.inl v, w1) ∧ mGo ar n d M (pc + len) l (v.toList ++ st.drop k) w1 = some (E, w')) ∨
         (∃ x w1, mGo ar n d' M' 0 (mLoc M' (mArgs k st)) [] w = some (.inr x, w1) ∧ mTk i = true ∧
            ((∃ pc' j, mHd M pc x = some (pc', j) ∧ j < l.length ∧ mGo ar n d M pc' (l.set j (.double 0)) [] w1 = some (E, w')) ∨ (mHd M pc x = none ∧ E = .inr x ∧ w' = w1))))) ∨
     (∃ z, mSt ar i len pc l st w = some z ∧ mGo ar n d M z.1 z.2.1 z.2.2.1 z.2.2.2 = some (E, w'))) := by
  unfold mGo at h
  cases hf : mF M pc with
  | none => rw [hf] at h; cases h
  | some q =>
    obtain ⟨i, len⟩ := q
    rw [hf] at h
    dsimp only at h
    refine ⟨i, len, rfl, ?_⟩
    split at h
    · left
      split at h
      · rename_i x
        cases hr : mRt M with
        | none => rw [hr] at h; cases h
        | some ty =>
          rw [hr] at h
          dsimp only at h
          by_cases hc : narrow ty (.int x) = .int x
          · rw [if_pos hc] at h; cases h; exact ⟨rfl, x, ty, rfl, rfl, hc, rfl, rfl⟩
          · rw [if_neg hc] at h; cases h
      · cases h
    · right; left
      split at h
      · cases hr : mRt M with
        | none => rw [hr] at h; cases h; exact ⟨rfl, rfl, rfl, rfl, rfl⟩
        | some ty => rw [hr] at h; cases h
      · cases h
    · rename_i x
      right; right; left
      by_cases hc : (st.map fun v => v.category).sum ≤ 8
      · rw [if_pos hc] at h; cases h; exact ⟨x, rfl, hc, rfl, rfl⟩
      · rw [if_neg hc] at h; cases h
    · right; right; right
      cases hc : mCal i st w with
      | none =>
        rw [hc] at h
        dsimp only at h
        right
        cases hs : mSt ar i len pc l st w with
        | none => rw [hs] at h; cases h
        | some z => rw [hs] at h; exact ⟨z, rfl, h⟩
      | some q =>
        obtain ⟨M', k⟩ := q
        rw [hc] at h
        dsimp only at h
        left
        cases d with
        | zero => cases h
        | succ d' =>
          dsimp only at h
          by_cases hk : mOk k st = true
          · rw [if_pos hk] at h
            refine ⟨M', k, d', rfl, rfl, hk, ?_⟩
            cases hg : mGo ar n d' M' 0 (mLoc M' (mArgs k st)) [] w with
            | none => rw [hg] at h; cases h
            | some z =>
              obtain ⟨E1, w1⟩ := z
              rw [hg] at h
              cases E1 with
              | inl v => exact Or.inl ⟨v, w1, rfl, h⟩
              | inr x =>
                right
                dsimp only at h
                by_cases ht : mTk i = true
                · rw [if_pos ht] at h
                  refine ⟨x, w1, rfl, ht, ?_⟩
                  cases hh : mHd M pc x with
                  | none => rw [hh] at h; cases h; exact Or.inr ⟨rfl, rfl, rfl⟩
                  | some q =>
                    obtain ⟨pc', j⟩ := q
                    rw [hh] at h
                    dsimp only at h
                    by_cases hj : j < l.length
                    · rw [if_pos hj] at h; exact Or.inl ⟨pc', j, rfl, hj, h⟩
                    · rw [if_neg hj] at h; cases h
                · rw [if_neg ht] at h; cases h
          · rw [if_neg hk] at h; cases h
theorem mThr_ret {M pc k : Nat} {i : Instr} (h : mThr M pc k = some i) : ∃ E, i = .ret E := by
  unfold mThr at h
  split at h
  · split at h
    · cases h; exact ⟨_, rfl⟩
    · cases h
  · cases h
theorem mN_ir {M pc : Nat} {ir : Instr} (h : mNorm M pc ir = some .ireturn) : ir = .ireturn := by
  cases ir with
  | ireturn => rfl
  | new k =>
    simp only [mNorm] at h
    split at h
    · rename_i j hj; obtain ⟨E, rfl⟩ := mThr_ret hj; cases h
    · split at h <;> cases h
  | _ => first | (cases h; done) | (exfalso; simp only [mNorm, mLdc, mJ] at h; (repeat' split at h) <;> first | (cases h; done) | (simp_all; done))
theorem mN_rt {M pc : Nat} {ir : Instr} (h : mNorm M pc ir = some .return_) : ir = .return_ := by
  cases ir with
  | return_ => rfl
  | new k =>
    simp only [mNorm] at h
    split at h
    · rename_i j hj; obtain ⟨E, rfl⟩ := mThr_ret hj; cases h
    · split at h <;> cases h
  | _ => first | (cases h; done) | (exfalso; simp only [mNorm, mLdc, mJ] at h; (repeat' split at h) <;> first | (cases h; done) | (simp_all; done))
theorem mN_th {M pc E : Nat} {ir : Instr} (h : mNorm M pc ir = some (.ret E)) : ∃ k, ir = .new k ∧ mThr M pc k = some (.ret E) := by
  cases ir with
  | new k =>
    simp only [mNorm] at h
    split at h
    · rename_i j hj; cases h; exact ⟨k, rfl, hj⟩
    · split at h <;> cases h
  | _ => first | (cases h; done) | (exfalso; simp only [mNorm, mLdc, mJ] at h; (repeat' split at h) <;> first | (cases h; done) | (simp_all; done))
theorem mN_st {M pc a : Nat} {ir : Instr} (h : mNorm M pc ir = some (.invokestatic a)) : ∃ k, ir = .invokestatic k ∧ (mOw M, k, a) ∈ mSL := by
  cases ir with
  | invokestatic k =>
    simp only [mNorm] at h
    split at h
    · cases h
    · split at h
      · rename_i b hb; cases h; exact ⟨k, rfl, mLk_mem hb⟩
      · cases h
  | new k =>
    simp only [mNorm] at h
    split at h
    · rename_i j hj; obtain ⟨E, rfl⟩ := mThr_ret hj; cases h
    · split at h <;> cases h
  | _ => first | (cases h; done) | (exfalso; simp only [mNorm, mLdc, mJ] at h; (repeat' split at h) <;> first | (cases h; done) | (simp_all; done))
theorem mN_sp {M pc a : Nat} {ir : Instr} (h : mNorm M pc ir = some (.invokespecial a)) : ∃ k, ir = .invokespecial k ∧ ((mOw M, k, a) ∈ mIL ∨ (mOw M, k, a) ∈ mNL) := by
  cases ir with
  | invokespecial k =>
    simp only [mNorm] at h
    split at h
    · cases h
    · split at h
      · rename_i b hb; cases h; exact ⟨k, rfl, Or.inl (mLk_mem hb)⟩
      · split at h
        · rename_i b hb; cases h; exact ⟨k, rfl, Or.inr (mLk_mem hb)⟩
        · cases h
  | new k =>
    simp only [mNorm] at h
    split at h
    · rename_i j hj; obtain ⟨E, rfl⟩ := mThr_ret hj; cases h
    · split at h <;> cases h
  | _ => first | (cases h; done) | (exfalso; simp only [mNorm, mLdc, mJ] at h; (repeat' split at h) <;> first | (cases h; done) | (simp_all; done))
theorem mN_dy {M pc a : Nat} {ir : Instr} (h : mNorm M pc ir = some (.invokedynamic a)) : ∃ k, ir = .invokevirtual k ∧ (mOw M, k, a) ∈ mTL := by
  cases ir with
  | invokevirtual k =>
    simp only [mNorm] at h
    split at h
    · cases h
    · split at h
      · rename_i b hb; cases h; exact ⟨k, rfl, mLk_mem hb⟩
      · cases h
  | new k =>
    simp only [mNorm] at h
    split at h
    · rename_i j hj; obtain ⟨E, rfl⟩ := mThr_ret hj; cases h
    · split at h <;> cases h
  | _ => first | (cases h; done) | (exfalso; simp only [mNorm, mLdc, mJ] at h; (repeat' split at h) <;> first | (cases h; done) | (simp_all; done))
theorem mN_if {M pc v n : Nat} {ir : Instr} (h : mNorm M pc ir = some (.invokeinterface v n)) : ∃ k, ir = .invokevirtual k ∧ (mOw M, k, v) ∈ mVL ∧ n = mNps.getD v 0 := by
  cases ir with
  | invokevirtual k =>
    simp only [mNorm] at h
    split at h
    · rename_i b hb; cases h; exact ⟨k, rfl, mLk_mem hb, rfl⟩
    · split at h <;> cases h
  | new k =>
    simp only [mNorm] at h
    split at h
    · rename_i j hj; obtain ⟨E, rfl⟩ := mThr_ret hj; cases h
    · split at h <;> cases h
  | _ => first | (cases h; done) | (exfalso; simp only [mNorm, mLdc, mJ] at h; (repeat' split at h) <;> first | (cases h; done) | (simp_all; done))
/-- the counts never fall -/
theorem mSt_mono {ar : Nat → Nat × (Nat → Int32)} {i : Instr} {len pc : Nat} {l st : List Value} {w : mW} {z : mNx} (h : mSt ar i len pc l st w = some z) : mNc w ≤ mNc z.2.2.2 ∧ mNs w ≤ mNs z.2.2.2 := by
  cases i with
  | putfield k => obtain ⟨a, st0, ci, fs, v, -, -, -, -, -, rfl⟩ := mPut_inv h; exact ⟨Nat.le_refl _, Nat.le_refl _⟩
  | getfield k => obtain ⟨a, st0, ci, fs, v, -, -, -, -, rfl⟩ := mGet_inv h; exact ⟨Nat.le_refl _, Nat.le_refl _⟩
  | getstatic k => obtain ⟨a, st0, -, -, rfl⟩ := mStr_inv h; exact ⟨Nat.le_refl _, Nat.le_refl _⟩
  | iaload => rcases mAld_inv h with ⟨_, _, _, _, _, -, -, -, rfl⟩ | ⟨_, _, _, -, -, -, rfl⟩ <;> exact ⟨Nat.le_refl _, Nat.le_refl _⟩
  | baload => rcases mAld_inv h with ⟨_, _, _, _, _, -, -, -, rfl⟩ | ⟨_, _, _, -, -, -, rfl⟩ <;> exact ⟨Nat.le_refl _, Nat.le_refl _⟩
  | laload => obtain ⟨_, _, _, _, _, -, -, -, rfl⟩ := mLald_inv h; exact ⟨Nat.le_refl _, Nat.le_refl _⟩
  | aaload => obtain ⟨_, _, _, _, _, _, _, -, -, -, -, -, rfl⟩ := mAald_inv h; exact ⟨Nat.le_refl _, Nat.le_refl _⟩
  | iastore => obtain ⟨_, _, _, _, _, _, -, -, -, rfl⟩ := mAst_inv h; exact ⟨Nat.le_refl _, Nat.le_refl _⟩
  | bastore => obtain ⟨_, _, _, _, _, _, -, -, -, rfl⟩ := mAst_inv h; exact ⟨Nat.le_refl _, Nat.le_refl _⟩
  | lastore => obtain ⟨_, _, _, _, _, _, -, -, -, rfl⟩ := mLast_inv h; exact ⟨Nat.le_refl _, Nat.le_refl _⟩
  | aastore => obtain ⟨_, _, _, _, _, _, _, -, -, -, -, rfl⟩ := mAast_inv h; exact ⟨Nat.le_refl _, Nat.le_refl _⟩
  | arraylength => rcases mLen_inv h with ⟨_, _, _, _, -, -, -, rfl⟩ | ⟨_, _, -, -, rfl⟩ <;> exact ⟨Nat.le_refl _, Nat.le_refl _⟩
  | monitorenter => obtain ⟨_, _, _, _, _, _, _, _, _, _, -, -, -, -, -, -, -, rfl⟩ := mCopy_inv h; exact ⟨Nat.le_refl _, Nat.le_refl _⟩
  | new ci => obtain ⟨h0, rfl⟩ := mNew_inv h; unfold mNc mNs; dsimp only; omega
  | newarray t => obtain ⟨_, _, _, _, -, -, h0, -, -, rfl⟩ := mNewa_inv h; unfold mNc mNs; dsimp only; omega
  | anewarray k => obtain ⟨_, _, -, h0, -, -, rfl⟩ := mNewq_inv h; unfold mNc mNs; dsimp only; omega
  | multianewarray k q => obtain ⟨_, _, _, -, h0, -, -, -, -, rfl⟩ := mMulti_inv h; unfold mNc mNs; dsimp only; omega
  | iconst v => cases h; exact ⟨Nat.le_refl _, Nat.le_refl _⟩
  | lconst v => cases h; exact ⟨Nat.le_refl _, Nat.le_refl _⟩
  | ldc k => cases h; exact ⟨Nat.le_refl _, Nat.le_refl _⟩
  | goto k => cases h; exact ⟨Nat.le_refl _, Nat.le_refl _⟩
  | iload k => obtain ⟨_, -, rfl⟩ := mLd_inv h; exact ⟨Nat.le_refl _, Nat.le_refl _⟩
  | aload k => obtain ⟨_, -, rfl, -⟩ := mLda_inv h; exact ⟨Nat.le_refl _, Nat.le_refl _⟩
  | istore k => obtain ⟨_, _, -, -, rfl⟩ := mSto_inv h; exact ⟨Nat.le_refl _, Nat.le_refl _⟩
  | astore k => obtain ⟨_, _, -, -, rfl⟩ := mStoA_inv h; exact ⟨Nat.le_refl _, Nat.le_refl _⟩
  | iinc k n => obtain ⟨_, -, rfl⟩ := mInc_inv h; exact ⟨Nat.le_refl _, Nat.le_refl _⟩
  | idiv => obtain ⟨_, _, _, -, -, rfl⟩ := mDiv_inv h; exact ⟨Nat.le_refl _, Nat.le_refl _⟩
  | irem => obtain ⟨_, _, _, -, -, rfl⟩ := mDiv_inv h; exact ⟨Nat.le_refl _, Nat.le_refl _⟩
  | ineg => obtain ⟨_, _, -, rfl⟩ := mUn_inv h; exact ⟨Nat.le_refl _, Nat.le_refl _⟩
  | i2l => obtain ⟨_, _, -, rfl⟩ := mUn_inv h; exact ⟨Nat.le_refl _, Nat.le_refl _⟩
  | i2b => obtain ⟨_, _, -, rfl⟩ := mUn_inv h; exact ⟨Nat.le_refl _, Nat.le_refl _⟩
  | i2c => obtain ⟨_, _, -, rfl⟩ := mUn_inv h; exact ⟨Nat.le_refl _, Nat.le_refl _⟩
  | lcmp => obtain ⟨_, _, _, -, rfl⟩ := mLcmp_inv h; exact ⟨Nat.le_refl _, Nat.le_refl _⟩
  | dup => obtain ⟨_, _, -, -, rfl⟩ := mDup_inv h; exact ⟨Nat.le_refl _, Nat.le_refl _⟩
  | dup2 => obtain ⟨_, _, _, -, -, -, rfl⟩ := mDup2_inv h; exact ⟨Nat.le_refl _, Nat.le_refl _⟩
  | pop => obtain ⟨_, _, -, -, rfl⟩ := mPop_inv h; exact ⟨Nat.le_refl _, Nat.le_refl _⟩
  | nop => obtain ⟨_, _, -, -, rfl⟩ := mNop_inv h; exact ⟨Nat.le_refl _, Nat.le_refl _⟩
  | ifCond k off => obtain ⟨_, _, -, rfl⟩ := mIf_inv h; exact ⟨Nat.le_refl _, Nat.le_refl _⟩
  | if_icmp k off => obtain ⟨_, _, _, -, rfl⟩ := mIcmp_inv h; exact ⟨Nat.le_refl _, Nat.le_refl _⟩
  | tableswitch d lo hi offs => obtain ⟨_, _, -, ⟨-, rfl⟩ | ⟨-, _, -, rfl⟩⟩ := mTsw_inv h <;> exact ⟨Nat.le_refl _, Nat.le_refl _⟩
  | lookupswitch d ps => obtain ⟨_, _, -, rfl⟩ := mLsw_inv h; exact ⟨Nat.le_refl _, Nat.le_refl _⟩
  | iadd => obtain ⟨_, _, _, -, rfl⟩ := mBin_inv h; exact ⟨Nat.le_refl _, Nat.le_refl _⟩
  | isub => obtain ⟨_, _, _, -, rfl⟩ := mBin_inv h; exact ⟨Nat.le_refl _, Nat.le_refl _⟩
  | imul => obtain ⟨_, _, _, -, rfl⟩ := mBin_inv h; exact ⟨Nat.le_refl _, Nat.le_refl _⟩
  | ishl => obtain ⟨_, _, _, -, rfl⟩ := mBin_inv h; exact ⟨Nat.le_refl _, Nat.le_refl _⟩
  | ishr => obtain ⟨_, _, _, -, rfl⟩ := mBin_inv h; exact ⟨Nat.le_refl _, Nat.le_refl _⟩
  | iushr => obtain ⟨_, _, _, -, rfl⟩ := mBin_inv h; exact ⟨Nat.le_refl _, Nat.le_refl _⟩
  | iand => obtain ⟨_, _, _, -, rfl⟩ := mBin_inv h; exact ⟨Nat.le_refl _, Nat.le_refl _⟩
  | ior => obtain ⟨_, _, _, -, rfl⟩ := mBin_inv h; exact ⟨Nat.le_refl _, Nat.le_refl _⟩
  | ixor => obtain ⟨_, _, _, -, rfl⟩ := mBin_inv h; exact ⟨Nat.le_refl _, Nat.le_refl _⟩
  | _ => cases h
theorem mGo_mono {ar : Nat → Nat × (Nat → Int32)} : ∀ {n d M pc : Nat} {l st : List Value} {w w' : mW} {E : mEnd}, mGo ar n d M pc l st w = some (E, w') → mNc w ≤ mNc w' ∧ mNs w ≤ mNs w'
  | 0, _, _, _, _, _, _, _, _, h => by cases h
  | n + 1, d, M, pc, l, st, w, w', E, h => by
    obtain ⟨i, len, -, h⟩ := mGo_cases h
    rcases h with ⟨-, _, _, -, -, -, -, rfl⟩ | ⟨-, -, -, -, rfl⟩ | ⟨_, -, -, -, rfl⟩ | ⟨_, _, _, -, -, -, h⟩ | ⟨z, h1, h2⟩
    · exact ⟨Nat.le_refl _, Nat.le_refl _⟩
    · exact ⟨Nat.le_refl _, Nat.le_refl _⟩
    · unfold mNc mNs; dsimp only; omega
    · rcases h with ⟨v, w1, h1, h2⟩ | ⟨x, w1, h1, -, h2⟩
      · have a1 := mGo_mono h1
        have a2 := mGo_mono h2
        omega
      · have a1 := mGo_mono h1
        rcases h2 with ⟨_, _, -, -, h2⟩ | ⟨-, -, rfl⟩
        · have a2 := mGo_mono h2
          omega
        · exact a1
    · have a1 := mSt_mono h1
      have a2 := mGo_mono h2
      omega
theorem mSt_def {ar : Nat → Nat × (Nat → Int32)} {i : Instr} {len pc : Nat} {l st : List Value} {w : mW} {z : mNx} (h : mSt ar i len pc l st w = some z) (hw : mDef w) : mDef z.2.2.2 ∧ w.2.2.2 ≤ z.2.2.2.2.2.2 := by
  cases i with
  | putfield k =>
    obtain ⟨a, st0, ci, fs, v, -, ha, -, -, hl, rfl⟩ := mPut_inv h
    refine ⟨hw.up ?_ _, Nat.le_refl _⟩
    rcases Nat.lt_or_ge a w.2.1 with q | q
    · exact q
    · rw [hw a q] at ha; cases ha; exact absurd hl (Nat.not_lt_zero _)
  | getfield k => obtain ⟨a, st0, ci, fs, v, -, -, -, -, rfl⟩ := mGet_inv h; exact ⟨hw, Nat.le_refl _⟩
  | getstatic k => obtain ⟨a, st0, -, -, rfl⟩ := mStr_inv h; exact ⟨hw, Nat.le_refl _⟩
  | iaload => rcases mAld_inv h with ⟨_, _, _, _, _, -, -, -, rfl⟩ | ⟨_, _, _, -, -, -, rfl⟩ <;> exact ⟨hw, Nat.le_refl _⟩
  | baload => rcases mAld_inv h with ⟨_, _, _, _, _, -, -, -, rfl⟩ | ⟨_, _, _, -, -, -, rfl⟩ <;> exact ⟨hw, Nat.le_refl _⟩
  | laload => obtain ⟨_, _, _, _, _, -, -, -, rfl⟩ := mLald_inv h; exact ⟨hw, Nat.le_refl _⟩
  | aaload => obtain ⟨_, _, _, _, _, _, _, -, -, -, -, -, rfl⟩ := mAald_inv h; exact ⟨hw, Nat.le_refl _⟩
  | iastore => obtain ⟨_, _, _, _, _, _, -, ha, -, rfl⟩ := mAst_inv h; exact ⟨hw.up (hw.arr ha) _, Nat.le_refl _⟩
  | bastore => obtain ⟨_, _, _, _, _, _, -, ha, -, rfl⟩ := mAst_inv h; exact ⟨hw.up (hw.arr ha) _, Nat.le_refl _⟩
  | lastore => obtain ⟨_, _, _, _, _, _, -, ha, -, rfl⟩ := mLast_inv h; exact ⟨hw.up (hw.arr ha) _, Nat.le_refl _⟩
  | aastore => obtain ⟨_, _, _, _, _, _, _, -, ha, -, -, rfl⟩ := mAast_inv h; exact ⟨hw.up (hw.arr ha) _, Nat.le_refl _⟩
  | arraylength => rcases mLen_inv h with ⟨_, _, _, _, -, -, -, rfl⟩ | ⟨_, _, -, -, rfl⟩ <;> exact ⟨hw, Nat.le_refl _⟩
  | monitorenter => obtain ⟨_, _, _, _, _, _, _, _, _, _, -, -, ha, -, -, -, -, rfl⟩ := mCopy_inv h; exact ⟨hw.up (hw.arr ha) _, Nat.le_refl _⟩
  | new ci => obtain ⟨h0, rfl⟩ := mNew_inv h; exact ⟨hw.push _ _, by show w.2.2.2 ≤ 0; omega⟩
  | newarray t => obtain ⟨_, _, _, _, -, -, h0, -, -, rfl⟩ := mNewa_inv h; exact ⟨hw.push _ _, by show w.2.2.2 ≤ 0; omega⟩
  | anewarray k => obtain ⟨_, _, -, h0, -, -, rfl⟩ := mNewq_inv h; exact ⟨hw.push _ _, by show w.2.2.2 ≤ 0; omega⟩
  | multianewarray k q =>
    obtain ⟨k1, n1, _, -, h0, -, -, -, -, rfl⟩ := mMulti_inv h
    refine ⟨fun a ha => ?_, by show w.2.2.2 ≤ 0; omega⟩
    have ha : w.2.1 + 1 + n1.toNatClampNeg ≤ a := ha
    show mRows w.1 w.2.1 n1.toNatClampNeg k1.toNatClampNeg a = _
    rw [mRows_hi ha]
    exact hw a (by omega)
  | iconst v => cases h; exact ⟨hw, Nat.le_refl _⟩
  | lconst v => cases h; exact ⟨hw, Nat.le_refl _⟩
  | ldc k => cases h; exact ⟨hw, Nat.le_refl _⟩
  | goto k => cases h; exact ⟨hw, Nat.le_refl _⟩
  | iload k => obtain ⟨_, -, rfl⟩ := mLd_inv h; exact ⟨hw, Nat.le_refl _⟩
  | aload k => obtain ⟨_, -, rfl, -⟩ := mLda_inv h; exact ⟨hw, Nat.le_refl _⟩
  | istore k => obtain ⟨_, _, -, -, rfl⟩ := mSto_inv h; exact ⟨hw, Nat.le_refl _⟩
  | astore k => obtain ⟨_, _, -, -, rfl⟩ := mStoA_inv h; exact ⟨hw, Nat.le_refl _⟩
  | iinc k n => obtain ⟨_, -, rfl⟩ := mInc_inv h; exact ⟨hw, Nat.le_refl _⟩
  | idiv => obtain ⟨_, _, _, -, -, rfl⟩ := mDiv_inv h; exact ⟨hw, Nat.le_refl _⟩
  | irem => obtain ⟨_, _, _, -, -, rfl⟩ := mDiv_inv h; exact ⟨hw, Nat.le_refl _⟩
  | ineg => obtain ⟨_, _, -, rfl⟩ := mUn_inv h; exact ⟨hw, Nat.le_refl _⟩
  | i2l => obtain ⟨_, _, -, rfl⟩ := mUn_inv h; exact ⟨hw, Nat.le_refl _⟩
  | i2b => obtain ⟨_, _, -, rfl⟩ := mUn_inv h; exact ⟨hw, Nat.le_refl _⟩
  | i2c => obtain ⟨_, _, -, rfl⟩ := mUn_inv h; exact ⟨hw, Nat.le_refl _⟩
  | lcmp => obtain ⟨_, _, _, -, rfl⟩ := mLcmp_inv h; exact ⟨hw, Nat.le_refl _⟩
  | dup => obtain ⟨_, _, -, -, rfl⟩ := mDup_inv h; exact ⟨hw, Nat.le_refl _⟩
  | dup2 => obtain ⟨_, _, _, -, -, -, rfl⟩ := mDup2_inv h; exact ⟨hw, Nat.le_refl _⟩
  | pop => obtain ⟨_, _, -, -, rfl⟩ := mPop_inv h; exact ⟨hw, Nat.le_refl _⟩
  | nop => obtain ⟨_, _, -, -, rfl⟩ := mNop_inv h; exact ⟨hw, Nat.le_refl _⟩
  | ifCond k off => obtain ⟨_, _, -, rfl⟩ := mIf_inv h; exact ⟨hw, Nat.le_refl _⟩
  | if_icmp k off => obtain ⟨_, _, _, -, rfl⟩ := mIcmp_inv h; exact ⟨hw, Nat.le_refl _⟩
  | tableswitch d lo hi offs => obtain ⟨_, _, -, ⟨-, rfl⟩ | ⟨-, _, -, rfl⟩⟩ := mTsw_inv h <;> exact ⟨hw, Nat.le_refl _⟩
  | lookupswitch d ps => obtain ⟨_, _, -, rfl⟩ := mLsw_inv h; exact ⟨hw, Nat.le_refl _⟩
  | iadd => obtain ⟨_, _, _, -, rfl⟩ := mBin_inv h; exact ⟨hw, Nat.le_refl _⟩
  | isub => obtain ⟨_, _, _, -, rfl⟩ := mBin_inv h; exact ⟨hw, Nat.le_refl _⟩
  | imul => obtain ⟨_, _, _, -, rfl⟩ := mBin_inv h; exact ⟨hw, Nat.le_refl _⟩
  | ishl => obtain ⟨_, _, _, -, rfl⟩ := mBin_inv h; exact ⟨hw, Nat.le_refl _⟩
  | ishr => obtain ⟨_, _, _, -, rfl⟩ := mBin_inv h; exact ⟨hw, Nat.le_refl _⟩
  | iushr => obtain ⟨_, _, _, -, rfl⟩ := mBin_inv h; exact ⟨hw, Nat.le_refl _⟩
  | iand => obtain ⟨_, _, _, -, rfl⟩ := mBin_inv h; exact ⟨hw, Nat.le_refl _⟩
  | ior => obtain ⟨_, _, _, -, rfl⟩ := mBin_inv h; exact ⟨hw, Nat.le_refl _⟩
  | ixor => obtain ⟨_, _, _, -, rfl⟩ := mBin_inv h; exact ⟨hw, Nat.le_refl _⟩
  | _ => cases h
theorem mGo_def {ar : Nat → Nat × (Nat → Int32)} : ∀ {n d M pc : Nat} {l st : List Value} {w w' : mW} {E : mEnd}, mGo ar n d M pc l st w = some (E, w') → mDef w → mDef w' ∧ w.2.2.2 ≤ w'.2.2.2
  | 0, _, _, _, _, _, _, _, _, h, _ => by cases h
  | n + 1, d, M, pc, l, st, w, w', E, h, hw => by
    obtain ⟨i, len, -, h⟩ := mGo_cases h
    rcases h with ⟨-, _, _, -, -, -, -, rfl⟩ | ⟨-, -, -, -, rfl⟩ | ⟨_, -, -, -, rfl⟩ | ⟨_, _, _, -, -, -, h⟩ | ⟨z, h1, h2⟩
    · exact ⟨hw, Nat.le_refl _⟩
    · exact ⟨hw, Nat.le_refl _⟩
    · exact ⟨hw, by show w.2.2.2 ≤ w.2.2.2 + 1; omega⟩
    · rcases h with ⟨v, w1, h1, h2⟩ | ⟨x, w1, h1, -, h2⟩
      · have a1 := mGo_def h1 hw
        have a2 := mGo_def h2 a1.1
        exact ⟨a2.1, Nat.le_trans a1.2 a2.2⟩
      · have a1 := mGo_def h1 hw
        rcases h2 with ⟨_, _, -, -, h2⟩ | ⟨-, -, rfl⟩
        · have a2 := mGo_def h2 a1.1
          exact ⟨a2.1, Nat.le_trans a1.2 a2.2⟩
        · exact a1
    · have a1 := mSt_def h1 hw
      have a2 := mGo_def h2 a1.1
      exact ⟨a2.1, Nat.le_trans a1.2 a2.2⟩
