/-! THE PURE PART, 2: the cells that the constructors make keep their shape: what changes is a flat memory -/
abbrev mSh : Type := (Nat × Nat) ⊕ (Nat × List Nat) ⊕ (Nat × List (Option Nat))
def mShp_0 : List mSh := [.inr (.inr (11, [some 1, some 3, some 12, some 19, some 129, some 138, some 145, some 154, some 163, some 170, some 172, some 173, some 181, some 183, none, none])), .inr (.inr (10, [some 2, none, none, none, none, none])), .inl (0, 400), .inr (.inr (2, [none, some 4, some 5, none, some 6, some 7, none, none, none, none, some 8])), .inl (0, 32), .inl (0, 8), .inl (0, 4), .inl (0, 4), .inr (.inr (7, [none, none, some 9, some 10, some 11])), .inl (0, 60), .inl (0, 60), .inl (0, 60), .inr (.inr (4, [none, none, none, some 13, some 14, some 15, some 16, some 17, some 18])), .inl (0, 12), .inl (0, 12), .inl (0, 12), .inl (0, 400), .inl (0, 8), .inl (0, 32), .inr (.inr (0, [none, none, some 20])), .inr (.inl (3, [21, 30, 39, 48, 57, 66, 75, 84, 93, 102, 111, 120])), .inr (.inr (2, [none, some 22, some 23, none, some 24, some 25, none, none, none, none, some 26])), .inl (0, 32), .inl (0, 8), .inl (0, 4), .inl (0, 4), .inr (.inr (7, [none, none, some 27, some 28, some 29])), .inl (0, 60), .inl (0, 60), .inl (0, 60), .inr (.inr (2, [none, some 31, some 32, none, some 33, some 34, none, none, none, none, some 35])), .inl (0, 32), .inl (0, 8), .inl (0, 4), .inl (0, 4), .inr (.inr (7, [none, none, some 36, some 37, some 38])), .inl (0, 60), .inl (0, 60), .inl (0, 60), .inr (.inr (2, [none, some 40, some 41, none, some 42, some 43, none, none, none, none, some 44])), .inl (0, 32), .inl (0, 8), .inl (0, 4), .inl (0, 4), .inr (.inr (7, [none, none, some 45, some 46, some 47])), .inl (0, 60), .inl (0, 60), .inl (0, 60), .inr (.inr (2, [none, some 49, some 50, none, some 51, some 52, none, none, none, none, some 53])), .inl (0, 32)]
def mShp_1 : List mSh := [.inl (0, 8), .inl (0, 4), .inl (0, 4), .inr (.inr (7, [none, none, some 54, some 55, some 56])), .inl (0, 60), .inl (0, 60), .inl (0, 60), .inr (.inr (2, [none, some 58, some 59, none, some 60, some 61, none, none, none, none, some 62])), .inl (0, 32), .inl (0, 8), .inl (0, 4), .inl (0, 4), .inr (.inr (7, [none, none, some 63, some 64, some 65])), .inl (0, 60), .inl (0, 60), .inl (0, 60), .inr (.inr (2, [none, some 67, some 68, none, some 69, some 70, none, none, none, none, some 71])), .inl (0, 32), .inl (0, 8), .inl (0, 4), .inl (0, 4), .inr (.inr (7, [none, none, some 72, some 73, some 74])), .inl (0, 60), .inl (0, 60), .inl (0, 60), .inr (.inr (2, [none, some 76, some 77, none, some 78, some 79, none, none, none, none, some 80])), .inl (0, 32), .inl (0, 8), .inl (0, 4), .inl (0, 4), .inr (.inr (7, [none, none, some 81, some 82, some 83])), .inl (0, 60), .inl (0, 60), .inl (0, 60), .inr (.inr (2, [none, some 85, some 86, none, some 87, some 88, none, none, none, none, some 89])), .inl (0, 32), .inl (0, 8), .inl (0, 4), .inl (0, 4), .inr (.inr (7, [none, none, some 90, some 91, some 92])), .inl (0, 60), .inl (0, 60), .inl (0, 60), .inr (.inr (2, [none, some 94, some 95, none, some 96, some 97, none, none, none, none, some 98])), .inl (0, 32), .inl (0, 8), .inl (0, 4), .inl (0, 4), .inr (.inr (7, [none, none, some 99, some 100, some 101])), .inl (0, 60)]
def mShp_2 : List mSh := [.inl (0, 60), .inl (0, 60), .inr (.inr (2, [none, some 103, some 104, none, some 105, some 106, none, none, none, none, some 107])), .inl (0, 32), .inl (0, 8), .inl (0, 4), .inl (0, 4), .inr (.inr (7, [none, none, some 108, some 109, some 110])), .inl (0, 60), .inl (0, 60), .inl (0, 60), .inr (.inr (2, [none, some 112, some 113, none, some 114, some 115, none, none, none, none, some 116])), .inl (0, 32), .inl (0, 8), .inl (0, 4), .inl (0, 4), .inr (.inr (7, [none, none, some 117, some 118, some 119])), .inl (0, 60), .inl (0, 60), .inl (0, 60), .inr (.inr (2, [none, some 121, some 122, none, some 123, some 124, none, none, none, none, some 125])), .inl (0, 32), .inl (0, 8), .inl (0, 4), .inl (0, 4), .inr (.inr (7, [none, none, some 126, some 127, some 128])), .inl (0, 60), .inl (0, 60), .inl (0, 60), .inr (.inr (2, [none, some 130, some 131, none, some 132, some 133, none, none, none, none, some 134])), .inl (0, 32), .inl (0, 8), .inl (0, 4), .inl (0, 4), .inr (.inr (7, [none, none, some 135, some 136, some 137])), .inl (0, 60), .inl (0, 60), .inl (0, 60), .inr (.inr (4, [none, none, none, some 139, some 140, some 141, some 142, some 143, some 144])), .inl (0, 12), .inl (0, 12), .inl (0, 12), .inl (0, 400), .inl (0, 8), .inl (0, 32), .inr (.inr (2, [none, some 146, some 147, none, some 148, some 149, none, none, none, none, some 150])), .inl (0, 32), .inl (0, 8), .inl (0, 4), .inl (0, 4)]
def mShp_3 : List mSh := [.inr (.inr (7, [none, none, some 151, some 152, some 153])), .inl (0, 60), .inl (0, 60), .inl (0, 60), .inr (.inr (2, [none, some 155, some 156, none, some 157, some 158, none, none, none, none, some 159])), .inl (0, 32), .inl (0, 8), .inl (0, 4), .inl (0, 4), .inr (.inr (7, [none, none, some 160, some 161, some 162])), .inl (0, 60), .inl (0, 60), .inl (0, 60), .inr (.inr (4, [none, none, none, some 164, some 165, some 166, some 167, some 168, some 169])), .inl (0, 12), .inl (0, 12), .inl (0, 12), .inl (0, 400), .inl (0, 8), .inl (0, 32), .inr (.inr (3, [some 1, none, some 145, some 171])), .inl (0, 4), .inr (.inr (5, [some 1, none, some 163])), .inr (.inr (1, [none, none, none, none, some 174, some 175])), .inl (0, 8), .inr (.inl (4, [176, 177, 178, 179, 180])), .inl (0, 9), .inl (0, 9), .inl (0, 9), .inl (0, 9), .inl (0, 9), .inr (.inr (9, [some 3, some 173, some 182])), .inl (0, 9), .inr (.inr (8, [some 3, some 173, some 184])), .inl (0, 4), .inr (.inr (12, [none, some 186, some 187, some 188, some 189, some 190, none, none, some 191, none, none, none, none, none, none, some 192, none, some 193, some 194, none, some 195, some 196, some 197])), .inl (0, 2121), .inl (0, 1272), .inl (0, 1272), .inl (0, 423), .inl (0, 5076), .inl (1, 400), .inl (0, 5), .inl (0, 8), .inl (0, 8), .inl (0, 400), .inl (0, 1116), .inl (0, 45), .inl (2, 1)]
def mShp : List mSh := mShp_0 ++ (mShp_1 ++ (mShp_2 ++ (mShp_3)))
def mSlots : Nat := 18060
def mCells : Nat := 199
def mS (a : Nat) : mSh := mShp.getD a (.inr (.inr (999, [])))
def mFs (f : Nat → Int32) : Nat → List (Option Nat) → List Value
  | _, [] => []
  | j, none :: r => .int (f j) :: mFs f (j + 1) r
  | j, some b :: r => .ref b :: mFs f (j + 1) r
def mCe (g : Nat → Option Nat) (s : mSh) (f : Nat → Int32) (O : Nat → Int64) : va_E := match s with
  | .inl (t, n) => if t = 2 then .inl (2, n, .inr (.inl O)) else .inl (t, n, .inl f)
  | .inr (.inl (t, rs)) => .inl (t, rs.length, .inr (.inr (.inr (.inr g))))
  | .inr (.inr (c, fs)) => .inr (c, mFs f 0 fs)
/-- the world of a flat memory -/
def mWd (K : Nat → Nat → Option Nat) (D : Nat → Nat → Int32) (O : Nat → Int64) (t : Nat) : mW := (fun a => mCe (K a) (mS a) (D a) O, mCells, mSlots, t)
/-- what the arrays of references hold: never written behind the constructors -/
def mKok (K : Nat → Nat → Option Nat) : Prop := (∀ i, i < 12 → K 20 i = some (21 + 9 * i)) ∧ ∀ i, i < 5 → K 175 i = some (176 + i)
def mU (D : Nat → Nat → Int32) (a j : Nat) (v : Int32) : Nat → Nat → Int32 := fun b i => if b = a ∧ i = j then v else D b i
theorem mU_at {D : Nat → Nat → Int32} {a j : Nat} {v : Int32} : mU D a j v a j = v := by simp [mU]
theorem mU_c {D : Nat → Nat → Int32} {a j b i : Nat} {v : Int32} (h : b ≠ a) : mU D a j v b i = D b i := by simp [mU, h]
theorem mU_s {D : Nat → Nat → Int32} {a j b i : Nat} {v : Int32} (h : i ≠ j) : mU D a j v b i = D b i := by simp [mU, h]
theorem mFs_int {f : Nat → Int32} : ∀ {fs : List (Option Nat)} {j k : Nat}, fs[k]? = some none → (mFs f j fs)[k]? = some (.int (f (j + k)))
  | [], j, k, h => by cases h
  | x :: r, j, 0, h => by cases h; rfl
  | x :: r, j, k + 1, h => by
    have ih := mFs_int (f := f) (fs := r) (j := j + 1) (k := k) h
    rw [show j + (k + 1) = j + 1 + k by omega]
    cases x <;> exact ih
theorem mFs_ref {f : Nat → Int32} {b : Nat} : ∀ {fs : List (Option Nat)} {j k : Nat}, fs[k]? = some (some b) → (mFs f j fs)[k]? = some (.ref b)
  | [], j, k, h => by cases h
  | x :: r, j, 0, h => by cases h; rfl
  | x :: r, j, k + 1, h => by
    have ih := mFs_ref (f := f) (b := b) (fs := r) (j := j + 1) (k := k) h
    cases x <;> exact ih
theorem mFs_len {f : Nat → Int32} : ∀ {fs : List (Option Nat)} {j : Nat}, (mFs f j fs).length = fs.length
  | [], j => rfl
  | x :: r, j => by
    have ih := mFs_len (f := f) (fs := r) (j := j + 1)
    cases x <;> exact congrArg Nat.succ ih
theorem mFs_set {f : Nat → Int32} {v : Int32} : ∀ {fs : List (Option Nat)} {j k : Nat}, fs[k]? = some none → (mFs f j fs).set k (.int v) = mFs (fun i => if i = j + k then v else f i) j fs
  | [], j, k, h => by cases h
  | x :: r, j, 0, h => by
    cases h
    show Value.int v :: mFs f (j + 1) r = Value.int (if j = j + 0 then v else f j) :: mFs (fun i => if i = j + 0 then v else f i) (j + 1) r
    rw [if_pos (by omega)]
    congr 1
    have hh : ∀ (r : List (Option Nat)) (m : Nat), j < m → mFs f m r = mFs (fun i => if i = j + 0 then v else f i) m r := by
      intro r
      induction r with
      | nil => intro m _; rfl
      | cons y r ih =>
        intro m hm
        cases y with
        | none =>
          show Value.int (f m) :: _ = Value.int (if m = j + 0 then v else f m) :: _
          rw [if_neg (by omega), ih (m + 1) (by omega)]
        | some b =>
          show Value.ref b :: _ = Value.ref b :: _
          rw [ih (m + 1) (by omega)]
    exact hh r (j + 1) (by omega)
  | x :: r, j, k + 1, h => by
    have ih := mFs_set (f := f) (v := v) (fs := r) (j := j + 1) (k := k) h
    rw [show j + 1 + k = j + (k + 1) by omega] at ih
    cases x with
    | none =>
      show Value.int (f j) :: (mFs f (j + 1) r).set k (.int v) = Value.int (if j = j + (k + 1) then v else f j) :: _
      rw [if_neg (by omega), ih]
    | some b =>
      show Value.ref b :: (mFs f (j + 1) r).set k (.int v) = Value.ref b :: _
      rw [ih]
section MEM
variable {ar : Nat → Nat × (Nat → Int32)} {d M pc len : Nat} {l st : List Value} {K : Nat → Nat → Option Nat} {D : Nat → Nat → Int32} {O : Nat → Int64} {t a c : Nat} {fs : List (Option Nat)}
theorem mWd_ext {f : Nat → va_E} {D' : Nat → Nat → Int32} {O' : Nat → Int64} (h : ∀ b, f b = mCe (K b) (mS b) (D' b) O') : (f, (mWd K D O t).2) = mWd K D' O' t := by
  show (f, mCells, mSlots, t) = (_, mCells, mSlots, t)
  rw [show f = fun b => mCe (K b) (mS b) (D' b) O' from funext h]
/-- a store of an int into a cell -/
theorem mWd_up {e : va_E} {j : Nat} {v : Int32} (h : e = mCe (K a) (mS a) (fun i => if i = j then v else D a i) O) : (va_up (mWd K D O t).1 a e, (mWd K D O t).2) = mWd K (mU D a j v) O t := by
  refine mWd_ext (fun b => ?_)
  by_cases hb : b = a
  · subst hb
    rw [mUp_at, h]
    congr 1
    funext i
    unfold mU
    by_cases hi : i = j <;> simp [hi]
  · rw [mUp_ne hb]
    show mCe (K b) (mS b) (D b) O = _
    congr 1
    funext i
    rw [mU_c hb]
theorem mM_getI {k : Nat} (hs : mS a = .inr (.inr (c, fs))) (hi : mIs c (k / 64) = true) (hk : fs[k % 64]? = some none) : mGet k pc l (mWd K D O t) (.ref a :: st) = some (pc, l, .int (D a (k % 64)) :: st, mWd K D O t) := by
  have h1 : (mWd K D O t).1 a = .inr (c, mFs (D a) 0 fs) := by show mCe (K a) (mS a) (D a) O = _; rw [hs]; rfl
  unfold mGet
  dsimp only
  rw [h1]
  dsimp only
  rw [if_pos hi, mFs_int hk]
  dsimp only
  rw [Nat.zero_add]
theorem mM_getR {k b : Nat} (hs : mS a = .inr (.inr (c, fs))) (hi : mIs c (k / 64) = true) (hk : fs[k % 64]? = some (some b)) : mGet k pc l (mWd K D O t) (.ref a :: st) = some (pc, l, .ref b :: st, mWd K D O t) := by
  have h1 : (mWd K D O t).1 a = .inr (c, mFs (D a) 0 fs) := by show mCe (K a) (mS a) (D a) O = _; rw [hs]; rfl
  unfold mGet
  dsimp only
  rw [h1]
  dsimp only
  rw [if_pos hi, mFs_ref hk]
theorem mM_put {k : Nat} {v : Int32} (hs : mS a = .inr (.inr (c, fs))) (hi : mIs c (k / 64) = true) (hk : fs[k % 64]? = some none) (hv : mFit (mKd c (k % 64)) (.int v) = true) : mPut mKd k pc l (mWd K D O t) (.int v :: .ref a :: st) = some (pc, l, st, mWd K (mU D a (k % 64) v) O t) := by
  have h1 : (mWd K D O t).1 a = .inr (c, mFs (D a) 0 fs) := by show mCe (K a) (mS a) (D a) O = _; rw [hs]; rfl
  unfold mPut
  dsimp only
  rw [h1]
  dsimp only
  rw [if_pos ⟨by rw [hi, hv]; rfl, by rw [mFs_len]; exact (List.getElem?_eq_some_iff.mp hk).1⟩]
  rw [mWd_up (j := k % 64) (v := v)]
  rw [hs, mFs_set hk]
  show _ = Sum.inr (c, mFs _ 0 fs)
  simp only [Nat.zero_add]
theorem mM_ald {ty N : Nat} {i : Int32} (hs : mS a = .inl (ty, N)) (ht : ty ≠ 2) (hi : ¬ (i < 0 ∨ N ≤ i.toNatClampNeg)) : mAld ar ty pc l (mWd K D O t) (.int i :: .ref a :: st) = some (pc, l, .int (D a i.toNatClampNeg) :: st, mWd K D O t) := by
  have h1 : (mWd K D O t).1 a = .inl (ty, N, .inl (D a)) := by show mCe (K a) (mS a) (D a) O = _; rw [hs]; exact if_neg ht
  unfold mAld
  dsimp only
  rw [h1]
  dsimp only
  rw [if_pos ⟨rfl, hi⟩]
theorem mM_ast {ty N : Nat} {i v : Int32} (hs : mS a = .inl (ty, N)) (ht : ty ≠ 2) (hi : ¬ (i < 0 ∨ N ≤ i.toNatClampNeg)) : mAst ty pc l (mWd K D O t) (.int v :: .int i :: .ref a :: st) = some (pc, l, st, mWd K (mU D a i.toNatClampNeg (if ty = 1 then v.toInt8.toInt32 else v)) O t) := by
  have h1 : (mWd K D O t).1 a = .inl (ty, N, .inl (D a)) := by show mCe (K a) (mS a) (D a) O = _; rw [hs]; exact if_neg ht
  unfold mAst
  dsimp only
  rw [h1]
  dsimp only
  rw [if_pos ⟨rfl, hi⟩]
  rw [mWd_up (j := i.toNatClampNeg) (v := if ty = 1 then v.toInt8.toInt32 else v)]
  rw [hs]
  show _ = if ty = 2 then _ else _
  rw [if_neg ht]
  rfl
theorem mM_aald {ty b : Nat} {i : Int32} {rs : List Nat} (hs : mS a = .inr (.inl (ty, rs))) (ht : ty = 3 ∨ ty = 4) (hi : ¬ (i < 0 ∨ rs.length ≤ i.toNatClampNeg)) (hb : K a i.toNatClampNeg = some b) : mAald pc l (mWd K D O t) (.int i :: .ref a :: st) = some (pc, l, .ref b :: st, mWd K D O t) := by
  have h1 : (mWd K D O t).1 a = .inl (ty, rs.length, .inr (.inr (.inr (.inr (K a))))) := by show mCe (K a) (mS a) (D a) O = _; rw [hs]; rfl
  unfold mAald
  dsimp only
  rw [h1]
  dsimp only
  rw [if_pos ⟨ht, hi⟩, hb]
theorem mM_len {ty N : Nat} (hs : mS a = .inl (ty, N)) (ht : ty < 2) : mLen ar pc l (mWd K D O t) (.ref a :: st) = some (pc, l, .int (Int32.ofNat N) :: st, mWd K D O t) := by
  have h1 : (mWd K D O t).1 a = .inl (ty, N, .inl (D a)) := by show mCe (K a) (mS a) (D a) O = _; rw [hs]; exact if_neg (by omega)
  unfold mLen
  dsimp only
  rw [h1]
  dsimp only
  rw [if_pos (show ty < 5 by omega)]
theorem mM_lald {i : Int32} {N : Nat} (hs : mS a = .inl (2, N)) (hi : ¬ (i < 0 ∨ N ≤ i.toNatClampNeg)) : mLald pc l (mWd K D O t) (.int i :: .ref a :: st) = some (pc, l, .long (O i.toNatClampNeg) :: st, mWd K D O t) := by
  have h1 : (mWd K D O t).1 a = .inl (2, N, .inr (.inl O)) := by show mCe (K a) (mS a) (D a) O = _; rw [hs]; rfl
  unfold mLald
  dsimp only
  rw [h1]
  dsimp only
  rw [if_pos ⟨rfl, hi⟩]
/-- a block of ints from one cell into another -/
def mCp (D : Nat → Nat → Int32) (b a sp dp n : Nat) : Nat → Nat → Int32 := fun x i => if x = a then va_cpy (D b) (D a) sp dp n i else D x i
theorem mM_copy {b N0 N1 : Nat} {n dp sp : Int32} (hs0 : mS b = .inl (0, N0)) (hs : mS a = .inl (0, N1)) (h1 : ¬ sp < 0 ∧ ¬ dp < 0 ∧ ¬ n < 0) (h2 : sp.toNatClampNeg + n.toNatClampNeg ≤ N0) (h3 : dp.toNatClampNeg + n.toNatClampNeg ≤ N1) (h8 : (st.map fun v => v.category).sum ≤ 8) :
    mCopy pc l (mWd K D O t) (.int n :: .int dp :: .ref a :: .int sp :: .ref b :: st) = some (pc, l, st, mWd K (mCp D b a sp.toNatClampNeg dp.toNatClampNeg n.toNatClampNeg) O t) := by
  have e0 : (mWd K D O t).1 b = .inl (0, N0, .inl (D b)) := by show mCe (K b) (mS b) (D b) O = _; rw [hs0]; rfl
  have e1 : (mWd K D O t).1 a = .inl (0, N1, .inl (D a)) := by show mCe (K a) (mS a) (D a) O = _; rw [hs]; rfl
  unfold mCopy
  dsimp only
  rw [e0, e1]
  dsimp only
  rw [if_pos ⟨⟨rfl, rfl⟩, h1, h2, h3, h8⟩]
  rw [mWd_ext (D' := mCp D b a sp.toNatClampNeg dp.toNatClampNeg n.toNatClampNeg) (O' := O)]
  intro x
  by_cases hx : x = a
  · subst hx
    rw [mUp_at, hs]
    show _ = Sum.inl (0, N1, Sum.inl _)
    congr 3
    apply congrArg Sum.inl
    funext i
    unfold mCp
    rw [if_pos rfl]
  · rw [mUp_ne hx]
    show mCe (K x) (mS x) (D x) O = _
    congr 1
    funext i
    unfold mCp
    rw [if_neg hx]
end MEM
