/-! THE PURE PART, 5: to the law's loop -/
theorem mMade : ∃ w2 w4 : mW, mMk2 = some (none, w2) ∧ w2.2.2.2 = 0 ∧ w2.2.1 = 185 ∧ mMk4 w2 = some (none, w4) ∧ w4.2.2.2 = 0 ∧ w4.2.1 = 198 := by
  have h := mMk_a
  cases h2 : mMk2 with
  | none => rw [h2] at h; cases h
  | some q =>
    obtain ⟨v, w2⟩ := q
    rw [h2] at h
    cases v with
    | some v => cases h
    | none =>
      dsimp only at h
      cases h4 : mMk4 w2 with
      | none => rw [h4] at h; simp at h
      | some q =>
        obtain ⟨v, w4⟩ := q
        rw [h4] at h
        cases v with
        | some v => simp at h
        | none =>
          simp only [Bool.and_eq_true, decide_eq_true_eq] at h
          exact ⟨w2, w4, rfl, h.1.1, h.1.2, h4, h.2.1, h.2.2⟩
theorem mStart : ∃ (K : Nat → Nat → Option Nat) (D0 : Nat → Nat → Int32) (O0 : Nat → Int64), mKok K ∧ (∀ a, a < 198 → ∀ j, j < mSize (mS a) → D0 a j = if j = (mSv a).1 then (mSv a).2 else 0) ∧
    ∀ (ar : Nat → Nat × (Nat → Int32)) (d : Nat), mGd ar (d + 13) 0 0 (mLoc 0 [.retAddr 150]) [] mW0 = mGd ar (d + 13) 0 23 [.retAddr 150, .ref 0, .ref 185, .ref 198, .int 0, .double 0, .double 0] [] (mWd K D0 O0 0) := by
  obtain ⟨w2, w4, h2, z2, n2, h4, z4, n4⟩ := mMade
  have hmk : mMk = some (mMk5 w4) := by
    unfold mMk
    rw [h2]
    dsimp only
    rw [h4]
  have hn := mMk_n
  have hk := mMk_k
  rw [hmk] at hn hk
  simp only [decide_eq_true_eq] at hn
  simp only [Bool.and_eq_true] at hk
  obtain ⟨⟨⟨k1, k2⟩, k3⟩, k4⟩ := hk
  have hd0 : mDef mW0 := fun a _ => rfl
  have hd1 : mDef mMk1 := hd0.push (.inr (11, mDf 11)) ((mDf 11).length, 0)
  have hd2 : mDef w2 := (mGo_def (mGoC_ok (ar := mA0) h2) hd1).1
  have hd3 : mDef (mMk3 w2) := hd2.push (.inr (12, mDf 12)) (w2.2.2.1 + (mDf 12).length, 0)
  have hd4 : mDef w4 := (mGo_def (mGoC_ok (ar := mA0) h4) hd3).1
  have hd5 : mDef (mMk5 w4) := hd4.push (.inl (2, 1, .inr (.inl fun _ => 0))) (w4.2.2.1 + 1, 0)
  have hw : mMk5 w4 = mWd (fun a => mXg ((mMk5 w4).1 a)) (fun a => mXf ((mMk5 w4).1 a)) (mXo ((mMk5 w4).1 198)) 0 := by
    have e1 : (mMk5 w4).1 = fun a => mCe (mXg ((mMk5 w4).1 a)) (mS a) (mXf ((mMk5 w4).1 a)) (mXo ((mMk5 w4).1 198)) := by
      funext a
      by_cases ha : a < 199
      · have h1 := List.all_eq_true.mp k1 a (List.mem_range.mpr ha)
        simp only [Bool.and_eq_true] at h1
        refine mKin_ok h1.1 ?_
        by_cases h198 : a = 198
        · right; rw [h198]
        · left
          intro n hs
          have h3 := List.all_eq_true.mp mS_long a (List.mem_range.mpr (by omega))
          rw [hs] at h3
          cases h3
      · have hsz : (mMk5 w4).2.1 ≤ a := by rw [hn]; show 199 ≤ a; omega
        have hs : mS a = .inr (.inr (999, [])) := by
          unfold mS
          rw [List.getD_eq_getElem?_getD, List.getElem?_eq_none (by show 199 ≤ a; omega)]
          rfl
        rw [hd5 a hsz, hs]
        rfl
    show ((mMk5 w4).1, (mMk5 w4).2) = (_, mCells, mSlots, 0)
    rw [hn]
    exact congrArg (fun f => (f, (199, 18060, 0))) e1
  refine ⟨fun a => mXg ((mMk5 w4).1 a), fun a => mXf ((mMk5 w4).1 a), mXo ((mMk5 w4).1 198), ⟨fun i hi => ?_, fun i hi => ?_⟩, fun a ha j hj => ?_, fun ar d => ?_⟩
  · have h1 := List.all_eq_true.mp k2 i (List.mem_range.mpr hi)
    simpa only [decide_eq_true_eq] using h1
  · have h1 := List.all_eq_true.mp k3 i (List.mem_range.mpr hi)
    simpa only [decide_eq_true_eq] using h1
  · have h1 := List.all_eq_true.mp k1 a (List.mem_range.mpr (by omega))
    simp only [Bool.and_eq_true] at h1
    obtain ⟨h1, h3⟩ := h1
    have h9 := List.all_eq_true.mp mS_long a (List.mem_range.mpr ha)
    show mXf ((mMk5 w4).1 a) j = _
    generalize (mMk5 w4).1 a = e at h1 h3
    generalize mS a = s at h1 hj h9
    generalize mSv a = q at h3
    unfold mKin at h1
    split at h1
    · rename_i t n t' n' f
      simp only [Bool.and_eq_true, decide_eq_true_eq, Nat.beq_eq] at h1
      have hn' : n' = n := h1.1.2
      subst hn'
      have h5 := List.all_eq_true.mp h3 j (List.mem_range.mpr hj)
      exact of_decide_eq_true h5
    · rename_i t n t' n' f
      simp only [Bool.and_eq_true, decide_eq_true_eq, Nat.beq_eq] at h1
      obtain ⟨⟨rfl, -⟩, -⟩ := h1
      cases h9
    · rename_i t rs t' n' f
      exact absurd hj (Nat.not_lt_zero _)
    · rename_i c fs c' vs
      simp only [Bool.and_eq_true, Nat.beq_eq] at h1
      have hlen : vs.length = fs.length := by
        have h6 := mKf_ok (g := mXf (.inr (c', vs))) (j := 0) h1.2 (fun k x hk => by
          show (match vs[0 + k]? with | some (.int x) => x | _ => 0) = x
          rw [Nat.zero_add, hk])
        rw [h6, mFs_len]
      have h5 := List.all_eq_true.mp h3 j (List.mem_range.mpr (by rw [hlen]; exact hj))
      exact of_decide_eq_true h5
    · cases h1
  · have hl : mLoc 0 [.retAddr 150] = [.retAddr 150, .double 0, .double 0, .double 0, .double 0, .double 0, .double 0] := by decide +kernel
    have g2 : mGd ar (d + 12) 1 0 (mLoc 1 [.ref 0]) [] mMk1 = some (.inl none, w2) := by
      rw [Nat.add_comm d 12]
      exact mGd_dup (mGd_iff.mpr ⟨3000, mGoC_ok h2⟩) d
    have g4 : mGd ar (d + 12) 216 0 (mLoc 216 [.ref w2.2.1]) [] (mMk3 w2) = some (.inl none, w4) := by
      rw [Nat.add_comm d 12]
      exact mGd_dup (mGd_iff.mpr ⟨3000, mGoC_ok h4⟩) d
    have s8 : ∀ l st, mSt ar (.new 12) 3 8 l st w2 = some (11, l, .ref w2.2.1 :: st, mMk3 w2) := fun l st => by
      show mNew mDf 12 11 l w2 st = _
      unfold mNew
      rw [if_pos z2]
      rfl
    have s17 : ∀ l st, mSt ar (.newarray .long) 2 17 l (.int 1 :: st) w4 = some (19, l, .ref w4.2.1 :: st, mMk5 w4) := fun l st => by
      show mNewa .long 19 l w4 (.int 1 :: st) = _
      unfold mNewa
      dsimp only [mAty]
      rw [if_pos ⟨z4, by decide, by decide⟩]
      rfl
    rw [hl]
    rw [mG_st (i := .new 11) (len := 3) rfl (z := (3, [.retAddr 150, .double 0, .double 0, .double 0, .double 0, .double 0, .double 0], [.ref 0], mMk1)) rfl]
    dsimp only
    rw [mG_st (i := .dup) (len := 1) rfl (z := (4, [.retAddr 150, .double 0, .double 0, .double 0, .double 0, .double 0, .double 0], [.ref 0, .ref 0], mMk1)) rfl]
    dsimp only
    rw [mG_ok (d := d + 12) (i := .invokespecial 1) (len := 3) (M' := 1) (k := 1) (v := none) (w1 := w2) rfl rfl rfl g2]
    rw [mG_st (i := .astore 1) (len := 1) (M := 0) (pc := 4 + 3) (z := (8, [.retAddr 150, .ref 0, .double 0, .double 0, .double 0, .double 0, .double 0], [], w2)) rfl rfl]
    dsimp only
    rw [mG_st (i := .new 12) (len := 3) rfl (s8 _ _)]
    dsimp only
    rw [mG_st (i := .dup) (len := 1) rfl (z := (12, [.retAddr 150, .ref 0, .double 0, .double 0, .double 0, .double 0, .double 0], [.ref w2.2.1, .ref w2.2.1], mMk3 w2)) rfl]
    dsimp only
    rw [mG_ok (d := d + 12) (i := .invokespecial 216) (len := 3) (M' := 216) (k := 1) (v := none) (w1 := w4) rfl rfl rfl g4]
    rw [mG_st (i := .astore 2) (len := 1) (M := 0) (pc := 12 + 3) (z := (16, [.retAddr 150, .ref 0, .ref w2.2.1, .double 0, .double 0, .double 0, .double 0], [], w4)) rfl rfl]
    dsimp only
    rw [mG_st (i := .iconst 1) (len := 1) rfl (z := (17, [.retAddr 150, .ref 0, .ref w2.2.1, .double 0, .double 0, .double 0, .double 0], [.int 1], w4)) rfl]
    dsimp only
    rw [mG_st (i := .newarray .long) (len := 2) rfl (s17 _ _)]
    dsimp only
    rw [mG_st (i := .astore 3) (len := 1) rfl (z := (20, [.retAddr 150, .ref 0, .ref w2.2.1, .ref w4.2.1, .double 0, .double 0, .double 0], [], mMk5 w4)) rfl]
    dsimp only
    rw [mG_st (i := .iconst 0) (len := 1) rfl (z := (21, [.retAddr 150, .ref 0, .ref w2.2.1, .ref w4.2.1, .double 0, .double 0, .double 0], [.int 0], mMk5 w4)) rfl]
    dsimp only
    rw [mG_st (i := .istore 4) (len := 2) rfl (z := (23, [.retAddr 150, .ref 0, .ref w2.2.1, .ref w4.2.1, .int 0, .double 0, .double 0], [], mMk5 w4)) rfl]
    dsimp only
    rw [n2, n4, ← hw]
