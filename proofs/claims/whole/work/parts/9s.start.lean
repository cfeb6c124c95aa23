/-! THE LAW, 5: the start, and all of it -/
theorem zSt0 {D0 : Nat → Nat → Int32} (h : ∀ a, a < 198 → ∀ j, j < mSize (mS a) → D0 a j = if j = (mSv a).1 then (mSv a).2 else 0) {a n p : Nat} {v : Int32} (ha : a < 198) (hs : mSize (mS a) = n) (hv : mSv a = (p, v)) {j : Int} (hj : 0 ≤ j ∧ j < (n : Int)) : (D0 a j.toNat).toInt = if j = (p : Int) then v.toInt else 0 := by
  rw [h a ha j.toNat (by rw [hs]; omega), hv]
  dsimp only
  by_cases e : j = (p : Int)
  · rw [if_pos e, if_pos (by omega)]
  · rw [if_neg e, if_neg (by omega)]; rfl
theorem zInv0 {D0 : Nat → Nat → Int32} (h : ∀ a, a < 198 → ∀ j, j < mSize (mS a) → D0 a j = if j = (mSv a).1 then (mSv a).2 else 0) : zInv (fun a j => (D0 a j.toNat).toInt) := by
  have e : ∀ (B : Nat → Int → Int), B = (fun a j => (D0 a j.toNat).toInt) → ∀ {a n p : Nat} {v : Int32}, a < 198 → mSize (mS a) = n → mSv a = (p, v) → ∀ {j : Int}, (0 ≤ j ∧ j < (n : Int)) → B a j = if j = (p : Int) then v.toInt else 0 := by
    intro B hB a n p v ha hs hv j hj
    rw [hB]
    exact zSt0 h ha hs hv hj
  generalize hB : (fun (a : Nat) (j : Int) => (D0 a j.toNat).toInt) = B
  have e := fun {a n p : Nat} {v : Int32} => e B hB.symm (a := a) (n := n) (p := p) (v := v)
  have e186 : ∀ j : Int, 0 ≤ j → j < 2121 → j ≠ 6 → B 186 j = 0 := fun j h0 h1 h2 => by
    rw [e (a := 186) (n := 2121) (p := 6) (v := 1) (by decide) (by rfl) (by rfl) ⟨h0, h1⟩, if_neg (show ¬ j = ((_ : Nat) : Int) from h2)]
  have e1866 : B 186 6 = 1 := by
    rw [e (a := 186) (n := 2121) (p := 6) (v := 1) (by decide) (by rfl) (by rfl) (by decide)]; rfl
  have e3 : ∀ j : Int, 0 ≤ j → j < 11 → j ≠ 8 → B 3 j = 0 := fun j h0 h1 h2 => by
    rw [e (a := 3) (n := 11) (p := 8) (v := 1) (by decide) (by rfl) (by rfl) ⟨h0, h1⟩, if_neg (show ¬ j = ((_ : Nat) : Int) from h2)]
  have e38 : B 3 8 = 1 := by
    rw [e (a := 3) (n := 11) (p := 8) (v := 1) (by decide) (by rfl) (by rfl) (by decide)]; rfl
  have ez : ∀ {a n : Nat}, a < 198 → mSize (mS a) = n → mSv a = (0, 0) → ∀ {j : Int}, (0 ≤ j ∧ j < (n : Int)) → B a j = 0 := by
    intro a n ha hs hv j hj
    rw [e ha hs hv hj]
    split <;> rfl
  have e6 : ∀ k : Int, 0 ≤ k → k < 4 → B 6 k = 0 := fun k h0 h1 => ez (n := 4) (by decide) (by rfl) (by rfl) ⟨h0, h1⟩
  have e7 : ∀ k : Int, 0 ≤ k → k < 4 → B 7 k = 0 := fun k h0 h1 => ez (n := 4) (by decide) (by rfl) (by rfl) ⟨h0, h1⟩
  have e8 : ∀ k : Int, 0 ≤ k → k < 5 → B 8 k = 0 := fun k h0 h1 => ez (n := 5) (by decide) (by rfl) (by rfl) ⟨h0, h1⟩
  have e12 : ∀ k : Int, 0 ≤ k → k < 9 → B 12 k = 0 := fun k h0 h1 => ez (n := 9) (by decide) (by rfl) (by rfl) ⟨h0, h1⟩
  have e19 : ∀ k : Int, 0 ≤ k → k < 3 → B 19 k = 0 := fun k h0 h1 => ez (n := 3) (by decide) (by rfl) (by rfl) ⟨h0, h1⟩
  have e176 : ∀ k : Int, 0 ≤ k → k < 9 → B 176 k = 0 := fun k h0 h1 => ez (n := 9) (by decide) (by rfl) (by rfl) ⟨h0, h1⟩
  have e1 : B 1 1 = 0 := by
    rw [e (a := 1) (n := 6) (p := 5) (v := -1) (by decide) (by rfl) (by rfl) (by decide)]; rfl
  have e0 : B 0 14 = 0 := by
    rw [e (a := 0) (n := 16) (p := 15) (v := -1) (by decide) (by rfl) (by rfl) (by decide)]; rfl
  have e0m : B 0 15 = -1 := by
    rw [e (a := 0) (n := 16) (p := 15) (v := -1) (by decide) (by rfl) (by rfl) (by decide)]; rfl
  have e185 : ∀ j : Int, 0 ≤ j → j < 23 → j ≠ 14 → B 185 j = 0 := fun j h0 h1 h2 => by
    rw [e (a := 185) (n := 23) (p := 14) (v := -1) (by decide) (by rfl) (by rfl) ⟨h0, h1⟩, if_neg (show ¬ j = ((_ : Nat) : Int) from h2)]
  have e185m : B 185 14 = -1 := by
    rw [e (a := 185) (n := 23) (p := 14) (v := -1) (by decide) (by rfl) (by rfl) (by decide)]; rfl
  have z0 := e186 0 (by decide) (by decide) (by decide)
  have z1 := e186 1 (by decide) (by decide) (by decide)
  have z2 := e186 2 (by decide) (by decide) (by decide)
  have z3 := e186 3 (by decide) (by decide) (by decide)
  have z4 := e186 4 (by decide) (by decide) (by decide)
  have z5 := e186 5 (by decide) (by decide) (by decide)
  have zz : ∀ k : Int, 0 ≤ k → k < 8 → B 186 (7 + k) = 0 := fun k h0 h1 => e186 _ (by omega) (by omega) (by omega)
  refine ⟨⟨⟨⟨by omega, by omega, by omega, by omega, by omega, fun k k0 k1 => ?_, fun k k0 k1 => ?_, fun p k p0 p1 => ?_, fun p p0 p1 => ?_, fun p p0 p1 => ?_⟩, by omega, fun i i0 i1 => ?_⟩, ⟨?_, ?_, ?_, ?_, ?_, fun k k0 k1 => ?_, fun k k0 k1 => ?_, fun p k p0 p1 => ?_, fun p p0 p1 => ?_, ?_, fun p p0 p1 => ?_⟩, ?_, ?_, fun i i0 i1 => ?_⟩, ⟨[], ⟨?_, ?_, ?_, ?_, ?_⟩, Or.inl ⟨z2, rfl⟩, ?_⟩, ⟨?_, ?_, fun i i0 i1 => ?_⟩, ?_, ⟨Or.inl e0, ?_, fun hx => ?_⟩, ⟨?_, ?_⟩, e176⟩
  · have := zz k k0 (by omega); omega
  · have := zz (4 + k) (by omega) (by omega)
    rw [show (7 : Int) + (4 + k) = 11 + k from by omega] at this
    omega
  · omega
  · omega
  · omega
  · omega
  · rw [e3 0 (by decide) (by decide) (by decide), z0]
  · rw [e3 9 (by decide) (by decide) (by decide), z1]
  · rw [e3 7 (by decide) (by decide) (by decide), z3]
  · rw [e3 6 (by decide) (by decide) (by decide), z4]
  · rw [e38, e1866]
  · rw [e6 k k0 k1, zz k k0 (by omega)]
  · have := zz (4 + k) (by omega) (by omega)
    rw [show (7 : Int) + (4 + k) = 11 + k from by omega] at this
    rw [e7 k k0 k1, this]
  · omega
  · omega
  · rw [e3 3 (by decide) (by decide) (by decide), z0]; decide
  · omega
  · rw [e8 0 (by decide) (by decide), z5]
  · rw [e8 1 (by decide) (by decide)]; decide
  · omega
  · rw [e12 1 (by decide) (by decide)]; rfl
  · decide
  · decide
  · trivial
  · trivial
  · rw [e12 0 (by decide) (by decide), z2]
  · omega
  · rw [e185 9 (by decide) (by decide) (by decide), e1]
  · omega
  · exact zActs_none (e19 0 (by decide) (by decide)) (e185 7 (by decide) (by decide) (by decide)) (by rw [e19 1 (by decide) (by decide)]; decide)
  · rw [e185 6 (by decide) (by decide) (by decide), e0]
  · omega
  · rw [e185m, e0m]
  · omega
theorem mWhole : mWholeP := by
  intro L xs hL
  obtain ⟨K, D0, O0, hK, hD, hs⟩ := mStart
  have h150 : mAr L xs 150 = (L, xs) := by unfold mAr; rw [if_pos rfl]
  have hw : mWd K D0 O0 0 = zW K (fun a j => (D0 a j.toNat).toInt) O0 0 := by
    unfold zW
    congr 1
    funext a j
    show D0 a j = zI ((D0 a ((j : Int).toNat)).toInt)
    rw [Int.toNat_natCast, zI_toInt]
  obtain ⟨A', O', t', h1, h2⟩ := zLoop (ar := mAr L xs) (d := 0) hK mAr_ars (by rw [h150]; exact hL) 512 0 (.double 0) (.double 0) (fun a j => (D0 a j.toNat).toInt) O0 0 (zInv0 hD) (by rw [h150]; show (0 : Int) ≤ 0 ∧ (0 : Int) ≤ (L : Int); omega) (by rw [h150]; show (L : Int) - 0 ≤ _; omega)
  have h3 := hs (mAr L xs) 55
  rw [hw] at h3
  obtain ⟨n, hn⟩ := mGd_iff.mp (h3.trans h2)
  refine ⟨n, 55 + 13, zW K A' O' t', by decide, hn, ?_, ?_⟩
  · show 199 + t' ≤ 601024
    omega
  · show 18060 + 6 * t' ≤ 7293034
    omega
