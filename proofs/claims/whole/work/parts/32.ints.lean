/-! THE PURE PART, 8: ints for 32-bit words: memory A : cell → place → Int; every word is zI of an int -/
def zI (x : Int) : Int32 := Int32.ofInt x
theorem zI_toInt (x : Int32) : zI x.toInt = x := Int32.ofInt_toInt x
theorem toInt_zI {x : Int} (h : -2147483648 ≤ x ∧ x < 2147483648) : (zI x).toInt = x := Int32.toInt_ofInt_of_le (by omega) (by omega)
theorem zI_add {x y : Int} : zI x + zI y = zI (x + y) := (Int32.ofInt_add x y).symm
theorem zI_sub {x y : Int} : zI x - zI y = zI (x - y) := (Int32.ofInt_sub x y).symm
theorem zI_mul {x y : Int} : zI x * zI y = zI (x * y) := (Int32.ofInt_mul x y).symm
theorem zI_neg {x : Int} : -zI x = zI (-x) := (Int32.ofInt_neg x).symm
theorem zI_max : Int32.maxValue.toInt = 2147483647 := by decide
theorem zI_min : Int32.minValue.toInt = -2147483648 := by decide
theorem zI_div {x y : Int} (hx : -2147483648 ≤ x ∧ x < 2147483648) (hy : -2147483648 ≤ y ∧ y < 2147483648) : zI x / zI y = zI (Int.tdiv x y) :=
  (Int32.ofInt_tdiv (by rw [zI_min]; omega) (by rw [zI_max]; omega) (by rw [zI_min]; omega) (by rw [zI_max]; omega)).symm
theorem zI_lt {x y : Int} (hx : -2147483648 ≤ x ∧ x < 2147483648) (hy : -2147483648 ≤ y ∧ y < 2147483648) : zI x < zI y ↔ x < y := by
  rw [Int32.lt_iff_toInt_lt, toInt_zI hx, toInt_zI hy]
theorem zI_le {x y : Int} (hx : -2147483648 ≤ x ∧ x < 2147483648) (hy : -2147483648 ≤ y ∧ y < 2147483648) : zI x ≤ zI y ↔ x ≤ y := by
  rw [Int32.le_iff_toInt_le, toInt_zI hx, toInt_zI hy]
theorem zI_eq {x y : Int} (hx : -2147483648 ≤ x ∧ x < 2147483648) (hy : -2147483648 ≤ y ∧ y < 2147483648) : zI x = zI y ↔ x = y := by
  rw [← Int32.toInt_inj, toInt_zI hx, toInt_zI hy]
def zAnd (x y : Int) : Int := (zI x &&& zI y).toInt
def zOr (x y : Int) : Int := (zI x ||| zI y).toInt
def zXor (x y : Int) : Int := (zI x ^^^ zI y).toInt
def zShl (x y : Int) : Int := (zI x <<< (zI y &&& 31)).toInt
def zShr (x y : Int) : Int := (zI x >>> (zI y &&& 31)).toInt
def zUshr (x y : Int) : Int := (((zI x).toUInt32 >>> ((zI y).toUInt32 &&& Int32.toUInt32 31)).toInt32).toInt
def zByte (x : Int) : Int := (zI x).toInt8.toInt32.toInt
def zChr (x : Int) : Int := (((zI x).toUInt32 % 65536).toInt32).toInt
/-- the world of a memory of ints -/
def zW (K : Nat → Nat → Option Nat) (A : Nat → Int → Int) (O : Nat → Int64) (t : Nat) : mW := mWd K (fun a j => zI (A a (j : Int))) O t
def zU (A : Nat → Int → Int) (a : Nat) (i v : Int) : Nat → Int → Int := fun b j => if b = a ∧ j = i then v else A b j
def zC (A : Nat → Int → Int) (b a : Nat) (sp dp n : Int) : Nat → Int → Int := fun x j => if x = a ∧ dp ≤ j ∧ j < dp + n then A b (sp + (j - dp)) else A x j
section INTS
variable {ar : Nat → Nat × (Nat → Int32)} {d M pc len : Nat} {l st : List Value} {w : mW} {x y : Int} {K : Nat → Nat → Option Nat} {A : Nat → Int → Int} {O : Nat → Int64} {t a : Nat}
theorem zU_at {i v : Int} : zU A a i v a i = v := by simp [zU]
theorem zU_c {i v j : Int} {b : Nat} (h : b ≠ a) : zU A a i v b j = A b j := by simp [zU, h]
theorem zU_s {i v j : Int} {b : Nat} (h : j ≠ i) : zU A a i v b j = A b j := by simp [zU, h]
theorem zU_r {i v : Int} {b : Nat} (h : b ≠ a) : zU A a i v b = A b := by funext j; simp [zU, h]
theorem zC_r {sp dp n : Int} {b c : Nat} (h : c ≠ a) : zC A b a sp dp n c = A c := by funext j; simp [zC, h]
theorem zC_in {sp dp n j : Int} {b : Nat} (h : dp ≤ j ∧ j < dp + n) : zC A b a sp dp n a j = A b (sp + (j - dp)) := by simp [zC, h]
theorem zC_out {sp dp n j : Int} {b c : Nat} (h : ¬ (dp ≤ j ∧ j < dp + n)) : zC A b a sp dp n c j = A c j := by
  unfold zC
  rw [if_neg (fun h2 => h h2.2)]
theorem zs_add : mSt ar .iadd len pc l (.int (zI y) :: .int (zI x) :: st) w = some (pc + len, l, .int (zI (x + y)) :: st, w) := by
  rw [← zI_add]; rfl
theorem zs_sub : mSt ar .isub len pc l (.int (zI y) :: .int (zI x) :: st) w = some (pc + len, l, .int (zI (x - y)) :: st, w) := by
  rw [← zI_sub]; rfl
theorem zs_mul : mSt ar .imul len pc l (.int (zI y) :: .int (zI x) :: st) w = some (pc + len, l, .int (zI (x * y)) :: st, w) := by
  rw [← zI_mul]; rfl
theorem zs_neg : mSt ar .ineg len pc l (.int (zI x) :: st) w = some (pc + len, l, .int (zI (-x)) :: st, w) := by
  rw [← zI_neg]; rfl
theorem zI_ne0 (hy : -2147483648 ≤ y ∧ y < 2147483648) (h0 : 0 < y) : zI y ≠ 0 := by
  intro h
  have h2 : y = 0 := (zI_eq hy (by decide)).mp h
  omega
theorem zs_div (hx : -2147483648 ≤ x ∧ x < 2147483648) (hy : -2147483648 ≤ y ∧ y < 2147483648) (h0 : 0 < y) : mSt ar .idiv len pc l (.int (zI y) :: .int (zI x) :: st) w = some (pc + len, l, .int (zI (Int.tdiv x y)) :: st, w) := by
  rw [← zI_div hx hy]
  exact if_neg (zI_ne0 hy h0)
theorem zs_rem (hx : -2147483648 ≤ x ∧ x < 2147483648) (hy : -2147483648 ≤ y ∧ y < 2147483648) (h0 : 0 < y) : mSt ar .irem len pc l (.int (zI y) :: .int (zI x) :: st) w = some (pc + len, l, .int (zI (Int.tmod x y)) :: st, w) := by
  rw [Int.tmod_def, Int.mul_comm, ← zI_sub, ← zI_mul, ← zI_div hx hy]
  exact if_neg (zI_ne0 hy h0)
theorem zs_shl : mSt ar .ishl len pc l (.int (zI y) :: .int (zI x) :: st) w = some (pc + len, l, .int (zI (zShl x y)) :: st, w) := by
  unfold zShl; rw [zI_toInt]; rfl
theorem zs_shr : mSt ar .ishr len pc l (.int (zI y) :: .int (zI x) :: st) w = some (pc + len, l, .int (zI (zShr x y)) :: st, w) := by
  unfold zShr; rw [zI_toInt]; rfl
theorem zs_ushr : mSt ar .iushr len pc l (.int (zI y) :: .int (zI x) :: st) w = some (pc + len, l, .int (zI (zUshr x y)) :: st, w) := by
  unfold zUshr; rw [zI_toInt]; rfl
theorem zs_and : mSt ar .iand len pc l (.int (zI y) :: .int (zI x) :: st) w = some (pc + len, l, .int (zI (zAnd x y)) :: st, w) := by
  unfold zAnd; rw [zI_toInt]; rfl
theorem zs_or : mSt ar .ior len pc l (.int (zI y) :: .int (zI x) :: st) w = some (pc + len, l, .int (zI (zOr x y)) :: st, w) := by
  unfold zOr; rw [zI_toInt]; rfl
theorem zs_xor : mSt ar .ixor len pc l (.int (zI y) :: .int (zI x) :: st) w = some (pc + len, l, .int (zI (zXor x y)) :: st, w) := by
  unfold zXor; rw [zI_toInt]; rfl
theorem zs_i2b : mSt ar .i2b len pc l (.int (zI x) :: st) w = some (pc + len, l, .int (zI (zByte x)) :: st, w) := by
  unfold zByte; rw [zI_toInt]; rfl
theorem zs_i2c : mSt ar .i2c len pc l (.int (zI x) :: st) w = some (pc + len, l, .int (zI (zChr x)) :: st, w) := by
  unfold zChr; rw [zI_toInt]; rfl
theorem zs_inc {k : Nat} {n : Int} (h : l[k]? = some (.int (zI x))) : mSt ar (.iinc k n) len pc l st w = some (pc + len, l.set k (.int (zI (x + n))), st, w) := by
  rw [← zI_add]
  show mInc k n (pc + len) l w st = _
  unfold mInc
  rw [h]
  rfl
theorem zs_if_eq {off : Int} (hx : -2147483648 ≤ x ∧ x < 2147483648) : mSt ar (.ifCond .eq off) len pc l (.int (zI x) :: st) w = some (if x = 0 then ((pc : Int) + off).toNat else pc + len, l, st, w) := by
  have h := zI_eq hx (show -2147483648 ≤ (0 : Int) ∧ (0 : Int) < 2147483648 by decide)
  rw [show (if x = 0 then ((pc : Int) + off).toNat else pc + len) = (if zI x = zI 0 then ((pc : Int) + off).toNat else pc + len) from by simp only [h]]
  rfl
theorem zs_if_ne {off : Int} (hx : -2147483648 ≤ x ∧ x < 2147483648) : mSt ar (.ifCond .ne off) len pc l (.int (zI x) :: st) w = some (if x = 0 then pc + len else ((pc : Int) + off).toNat, l, st, w) := by
  have h := zI_eq hx (show -2147483648 ≤ (0 : Int) ∧ (0 : Int) < 2147483648 by decide)
  rw [show (if x = 0 then pc + len else ((pc : Int) + off).toNat) = (if zI x = zI 0 then pc + len else ((pc : Int) + off).toNat) from by simp only [h]]
  rfl
theorem zs_if_lt {off : Int} (hx : -2147483648 ≤ x ∧ x < 2147483648) : mSt ar (.ifCond .lt off) len pc l (.int (zI x) :: st) w = some (if x < 0 then ((pc : Int) + off).toNat else pc + len, l, st, w) := by
  have h := zI_lt hx (show -2147483648 ≤ (0 : Int) ∧ (0 : Int) < 2147483648 by decide)
  rw [show (if x < 0 then ((pc : Int) + off).toNat else pc + len) = (if zI x < zI 0 then ((pc : Int) + off).toNat else pc + len) from by simp only [h]]
  rfl
theorem zs_if_ge {off : Int} (hx : -2147483648 ≤ x ∧ x < 2147483648) : mSt ar (.ifCond .ge off) len pc l (.int (zI x) :: st) w = some (if 0 ≤ x then ((pc : Int) + off).toNat else pc + len, l, st, w) := by
  have h := zI_le (show -2147483648 ≤ (0 : Int) ∧ (0 : Int) < 2147483648 by decide) hx
  rw [show (if 0 ≤ x then ((pc : Int) + off).toNat else pc + len) = (if zI 0 ≤ zI x then ((pc : Int) + off).toNat else pc + len) from by simp only [h]]
  rfl
theorem zs_if_gt {off : Int} (hx : -2147483648 ≤ x ∧ x < 2147483648) : mSt ar (.ifCond .gt off) len pc l (.int (zI x) :: st) w = some (if 0 < x then ((pc : Int) + off).toNat else pc + len, l, st, w) := by
  have h := zI_lt (show -2147483648 ≤ (0 : Int) ∧ (0 : Int) < 2147483648 by decide) hx
  rw [show (if 0 < x then ((pc : Int) + off).toNat else pc + len) = (if zI 0 < zI x then ((pc : Int) + off).toNat else pc + len) from by simp only [h]]
  rfl
theorem zs_if_le {off : Int} (hx : -2147483648 ≤ x ∧ x < 2147483648) : mSt ar (.ifCond .le off) len pc l (.int (zI x) :: st) w = some (if x ≤ 0 then ((pc : Int) + off).toNat else pc + len, l, st, w) := by
  have h := zI_le hx (show -2147483648 ≤ (0 : Int) ∧ (0 : Int) < 2147483648 by decide)
  rw [show (if x ≤ 0 then ((pc : Int) + off).toNat else pc + len) = (if zI x ≤ zI 0 then ((pc : Int) + off).toNat else pc + len) from by simp only [h]]
  rfl
theorem zs_ic_eq {off : Int} (hx : -2147483648 ≤ x ∧ x < 2147483648) (hy : -2147483648 ≤ y ∧ y < 2147483648) : mSt ar (.if_icmp .eq off) len pc l (.int (zI y) :: .int (zI x) :: st) w = some (if x = y then ((pc : Int) + off).toNat else pc + len, l, st, w) := by
  rw [show (if x = y then ((pc : Int) + off).toNat else pc + len) = (if zI x = zI y then ((pc : Int) + off).toNat else pc + len) from by simp only [zI_eq hx hy]]
  rfl
theorem zs_ic_ne {off : Int} (hx : -2147483648 ≤ x ∧ x < 2147483648) (hy : -2147483648 ≤ y ∧ y < 2147483648) : mSt ar (.if_icmp .ne off) len pc l (.int (zI y) :: .int (zI x) :: st) w = some (if x = y then pc + len else ((pc : Int) + off).toNat, l, st, w) := by
  rw [show (if x = y then pc + len else ((pc : Int) + off).toNat) = (if zI x = zI y then pc + len else ((pc : Int) + off).toNat) from by simp only [zI_eq hx hy]]
  rfl
theorem zs_ic_lt {off : Int} (hx : -2147483648 ≤ x ∧ x < 2147483648) (hy : -2147483648 ≤ y ∧ y < 2147483648) : mSt ar (.if_icmp .lt off) len pc l (.int (zI y) :: .int (zI x) :: st) w = some (if x < y then ((pc : Int) + off).toNat else pc + len, l, st, w) := by
  rw [show (if x < y then ((pc : Int) + off).toNat else pc + len) = (if zI x < zI y then ((pc : Int) + off).toNat else pc + len) from by simp only [zI_lt hx hy]]
  rfl
theorem zs_ic_ge {off : Int} (hx : -2147483648 ≤ x ∧ x < 2147483648) (hy : -2147483648 ≤ y ∧ y < 2147483648) : mSt ar (.if_icmp .ge off) len pc l (.int (zI y) :: .int (zI x) :: st) w = some (if y ≤ x then ((pc : Int) + off).toNat else pc + len, l, st, w) := by
  rw [show (if y ≤ x then ((pc : Int) + off).toNat else pc + len) = (if zI y ≤ zI x then ((pc : Int) + off).toNat else pc + len) from by simp only [zI_le hy hx]]
  rfl
theorem zs_ic_gt {off : Int} (hx : -2147483648 ≤ x ∧ x < 2147483648) (hy : -2147483648 ≤ y ∧ y < 2147483648) : mSt ar (.if_icmp .gt off) len pc l (.int (zI y) :: .int (zI x) :: st) w = some (if y < x then ((pc : Int) + off).toNat else pc + len, l, st, w) := by
  rw [show (if y < x then ((pc : Int) + off).toNat else pc + len) = (if zI y < zI x then ((pc : Int) + off).toNat else pc + len) from by simp only [zI_lt hy hx]]
  rfl
theorem zs_ic_le {off : Int} (hx : -2147483648 ≤ x ∧ x < 2147483648) (hy : -2147483648 ≤ y ∧ y < 2147483648) : mSt ar (.if_icmp .le off) len pc l (.int (zI y) :: .int (zI x) :: st) w = some (if x ≤ y then ((pc : Int) + off).toNat else pc + len, l, st, w) := by
  rw [show (if x ≤ y then ((pc : Int) + off).toNat else pc + len) = (if zI x ≤ zI y then ((pc : Int) + off).toNat else pc + len) from by simp only [zI_le hx hy]]
  rfl
theorem zn_bool (h : x = 0 ∨ x = 1) : narrow .boolean (.int (zI x)) = .int (zI x) := by
  rcases h with h | h <;> rw [h] <;> decide
theorem zn_fit (h : x = 0 ∨ x = 1) : mFit 1 (.int (zI x)) = true := by
  rcases h with h | h <;> rw [h] <;> decide
theorem zClamp (h : 0 ≤ x ∧ x < 2147483648) : (zI x).toNatClampNeg = x.toNat := Int32.toNatClampNeg_ofInt_of_le (by omega) (by omega)
theorem zIdx {N : Nat} (hN : N < 2147483648) (h : 0 ≤ x ∧ x < (N : Int)) : ¬ (zI x < 0 ∨ N ≤ (zI x).toNatClampNeg) := by
  rw [zClamp (by omega), show (zI x < 0) = (zI x < zI 0) from rfl, zI_lt (by omega) (by decide)]
  omega
theorem zW_U {i v : Int} (h : 0 ≤ i) : mWd K (mU (fun b j => zI (A b (j : Int))) a i.toNat (zI v)) O t = zW K (zU A a i v) O t := by
  unfold zW
  congr 1
  funext b j
  unfold mU zU
  by_cases hb : b = a ∧ j = i.toNat
  · rw [if_pos hb, if_pos ⟨hb.1, by omega⟩]
  · rw [if_neg hb, if_neg (fun h2 => hb ⟨h2.1, by omega⟩)]
theorem zM_get {k : Nat} {j : Int} {c : Nat} {fs : List (Option Nat)} (hs : mS a = .inr (.inr (c, fs))) (hi : mIs c (k / 64) = true) (hk : fs[k % 64]? = some none) (hj : ((k % 64 : Nat) : Int) = j) : mSt ar (.getfield k) len pc l (.ref a :: st) (zW K A O t) = some (pc + len, l, .int (zI (A a j)) :: st, zW K A O t) := by
  subst hj
  exact mM_getI hs hi hk
theorem zM_getR {k b : Nat} {c : Nat} {fs : List (Option Nat)} (hs : mS a = .inr (.inr (c, fs))) (hi : mIs c (k / 64) = true) (hk : fs[k % 64]? = some (some b)) : mSt ar (.getfield k) len pc l (.ref a :: st) (zW K A O t) = some (pc + len, l, .ref b :: st, zW K A O t) :=
  mM_getR hs hi hk
theorem zM_put {k : Nat} {v j : Int} {c : Nat} {fs : List (Option Nat)} (hs : mS a = .inr (.inr (c, fs))) (hi : mIs c (k / 64) = true) (hk : fs[k % 64]? = some none) (hv : mFit (mKd c (k % 64)) (.int (zI v)) = true) (hj : ((k % 64 : Nat) : Int) = j) : mSt ar (.putfield k) len pc l (.int (zI v) :: .ref a :: st) (zW K A O t) = some (pc + len, l, st, zW K (zU A a j v) O t) := by
  subst hj
  rw [← zW_U (Int.natCast_nonneg _), Int.toNat_natCast]
  exact mM_put hs hi hk hv
theorem zM_len {ty N : Nat} {v : Int} (hs : mS a = .inl (ty, N)) (ht : ty < 2) (hv : Int32.ofNat N = zI v) : mLen ar pc l (zW K A O t) (.ref a :: st) = some (pc, l, .int (zI v) :: st, zW K A O t) := by
  rw [← hv]
  exact mM_len hs ht
theorem zM_ald {ty N : Nat} {i : Int} (hs : mS a = .inl (ty, N)) (ht : ty ≠ 2 ∧ N < 2147483648) (hi : 0 ≤ i ∧ i < (N : Int)) : mAld ar ty pc l (zW K A O t) (.int (zI i) :: .ref a :: st) = some (pc, l, .int (zI (A a i)) :: st, zW K A O t) := by
  have h := mM_ald (ar := ar) (pc := pc) (l := l) (st := st) (K := K) (D := fun a j => zI (A a (j : Int))) (O := O) (t := t) hs ht.1 (zIdx ht.2 hi)
  rw [zClamp (by omega), Int.toNat_of_nonneg hi.1] at h
  exact h
theorem zM_ast {N : Nat} {i v : Int} (hs : mS a = .inl (0, N)) (hN : N < 2147483648) (hi : 0 ≤ i ∧ i < (N : Int)) : mAst 0 pc l (zW K A O t) (.int (zI v) :: .int (zI i) :: .ref a :: st) = some (pc, l, st, zW K (zU A a i v) O t) := by
  have h := mM_ast (pc := pc) (l := l) (st := st) (K := K) (D := fun a j => zI (A a (j : Int))) (O := O) (t := t) (v := zI v) hs (by decide) (zIdx hN hi)
  rw [zClamp (by omega)] at h
  rw [← zW_U hi.1]
  exact h
theorem zM_bst {N : Nat} {i v : Int} (hs : mS a = .inl (1, N)) (hN : N < 2147483648) (hi : 0 ≤ i ∧ i < (N : Int)) : mAst 1 pc l (zW K A O t) (.int (zI v) :: .int (zI i) :: .ref a :: st) = some (pc, l, st, zW K (zU A a i (zByte v)) O t) := by
  have h := mM_ast (pc := pc) (l := l) (st := st) (K := K) (D := fun a j => zI (A a (j : Int))) (O := O) (t := t) (v := zI v) hs (by decide) (zIdx hN hi)
  rw [zClamp (by omega)] at h
  rw [← zW_U hi.1]
  unfold zByte
  rw [zI_toInt]
  exact h
theorem zM_aald {ty b : Nat} {i : Int} {rs : List Nat} (hs : mS a = .inr (.inl (ty, rs))) (ht : (ty = 3 ∨ ty = 4) ∧ rs.length < 2147483648) (hi : 0 ≤ i ∧ i < (rs.length : Int)) (hb : K a i.toNat = some b) : mAald pc l (zW K A O t) (.int (zI i) :: .ref a :: st) = some (pc, l, .ref b :: st, zW K A O t) :=
  mM_aald hs ht.1 (zIdx ht.2 hi) (by rw [zClamp (by omega)]; exact hb)
theorem zM_copy {b N0 N1 : Nat} {n dp sp : Int} (hs0 : mS b = .inl (0, N0)) (hs : mS a = .inl (0, N1)) (h1 : 0 ≤ sp ∧ sp + n ≤ (N0 : Int)) (h2 : 0 ≤ dp ∧ dp + n ≤ (N1 : Int)) (hn : 0 ≤ n) (hN0 : N0 < 2147483648) (hN1 : N1 < 2147483648) (h8 : (st.map fun v => v.category).sum ≤ 8) :
    mCopy pc l (zW K A O t) (.int (zI n) :: .int (zI dp) :: .ref a :: .int (zI sp) :: .ref b :: st) = some (pc, l, st, zW K (zC A b a sp dp n) O t) := by
  have c1 := zClamp (x := n) (by omega)
  have c2 := zClamp (x := dp) (by omega)
  have c3 := zClamp (x := sp) (by omega)
  have n0 : ∀ z : Int, 0 ≤ z → z < 2147483648 → ¬ zI z < 0 := fun z hz hz2 => by
    rw [show (zI z < 0) = (zI z < zI 0) from rfl, zI_lt (by omega) (by decide)]; omega
  have h := mM_copy (pc := pc) (l := l) (st := st) (K := K) (D := fun a j => zI (A a (j : Int))) (O := O) (t := t) (n := zI n) (dp := zI dp) (sp := zI sp) hs0 hs ⟨n0 _ h1.1 (by omega), n0 _ h2.1 (by omega), n0 _ hn (by omega)⟩ (by rw [c1, c3]; omega) (by rw [c1, c2]; omega) h8
  rw [c1, c2, c3] at h
  refine h.trans ?_
  congr 1
  congr 1
  congr 1
  congr 1
  unfold zW
  congr 1
  funext x j
  unfold mCp zC
  by_cases hx : x = a
  · rw [if_pos hx]
    unfold va_cpy
    by_cases hj : dp.toNat ≤ j ∧ j < dp.toNat + n.toNat
    · rw [if_pos hj, if_pos ⟨hx, by omega, by omega⟩]
      show zI (A b _) = zI (A b _)
      rw [show ((sp.toNat + (j - dp.toNat) : Nat) : Int) = sp + ((j : Int) - dp) from by omega]
    · rw [if_neg hj, if_neg (fun h => hj (by omega)), hx]
  · rw [if_neg hx, if_neg (fun h => hx h.1)]
theorem zt_out {df lo hi : Int} {offs : Array Int} (hx : -2147483648 ≤ x ∧ x < 2147483648) (h : x < lo ∨ hi < x) : mTsp (zI x) df lo hi offs pc = some ((pc : Int) + df).toNat := by
  unfold mTsp
  rw [toInt_zI hx, if_pos h]
theorem zt_lk {df : Int} {ps : Array (Int × Int)} (hx : -2147483648 ≤ x ∧ x < 2147483648) (h : ∀ q ∈ ps.toList, q.1 ≠ x) : mLsp (zI x) df ps pc = some ((pc : Int) + df).toNat := by
  unfold mLsp
  rw [toInt_zI hx]
  generalize ps.toList = r at h
  congr 2
  congr 1
  induction r with
  | nil => rfl
  | cons q r ih =>
    obtain ⟨a, o⟩ := q
    rw [Op.lookupswitch.offset_cons, if_neg (h (a, o) List.mem_cons_self)]
    exact ih (fun q hq => h q (List.mem_cons_of_mem _ hq))
theorem mB1n_i {y : Int32} {w1 : mW} {k : Int32 → mW → Option (mEnd × mW)} : mB1n (some (.inl (some (.int y)), w1)) k = k y w1 := rfl
theorem mB0n_i {w1 : mW} {k : mW → Option (mEnd × mW)} : mB0n (some (.inl none, w1)) k = k w1 := rfl
theorem mB1_i {y : Int32} {w1 : mW} {k : Int32 → mW → Option (mEnd × mW)} : mB1 (some (.inl (some (.int y)), w1)) k = k y w1 := rfl
theorem mB1_x {y : Nat} {w1 : mW} {k : Int32 → mW → Option (mEnd × mW)} : mB1 (some (.inr y, w1)) k = some (.inr y, w1) := rfl
theorem mB0_i {w1 : mW} {k : mW → Option (mEnd × mW)} : mB0 (some (.inl none, w1)) k = k w1 := rfl
theorem mB0_x {y : Nat} {w1 : mW} {k : mW → Option (mEnd × mW)} : mB0 (some (.inr y, w1)) k = some (.inr y, w1) := rfl
end INTS
