/-! THE LAW, 1: what its own code needs -/
def zScr (ar : Nat → Nat × (Nat → Int32)) (j : Int) : Int := ((ar 150).2 j.toNat).toInt
theorem zScr_r {ar : Nat → Nat × (Nat → Int32)} {j : Int} : -2147483648 ≤ zScr ar j ∧ zScr ar j < 2147483648 := ⟨Int32.le_toInt _, Int32.toInt_lt _⟩
section HELP
variable {ar : Nat → Nat × (Nat → Int32)} {d t len pc M : Nat} {K : Nat → Nat → Option Nat} {A : Nat → Int → Int} {O : Nat → Int64} {l st : List Value} {w : mW}
theorem zM_scr {j : Int} (hj : 0 ≤ j ∧ j < ((ar 150).1 : Int)) (hL : (ar 150).1 ≤ 3072) : mSt ar .iaload len pc l (.int (zI j) :: .retAddr 150 :: st) w = some (pc + len, l, .int (zI (zScr ar j)) :: st, w) := by
  show (if mSp 0 150 = true ∧ ¬ (zI j < 0 ∨ (ar 150).1 ≤ (zI j).toNatClampNeg) then some (pc + len, l, .int ((ar 150).2 (zI j).toNatClampNeg) :: st, w) else none) = _
  rw [if_pos ⟨rfl, zIdx (by omega) hj⟩, zClamp (by omega)]
  unfold zScr
  rw [zI_toInt]
theorem zM_sln (hL : (ar 150).1 ≤ 3072) : mSt ar .arraylength len pc l (.retAddr 150 :: st) w = some (pc + len, l, .int (zI ((ar 150).1 : Int)) :: st, w) := by
  show (if (mSp 0 150 || mSp 1 150) = true then some (pc + len, l, Value.int (Int32.ofNat (ar 150).1) :: st, w) else none) = _
  have e : Int32.ofNat (ar 150).1 = zI ((ar 150).1 : Int) := by
    unfold zI
    exact Int32.ofInt_eq_ofNat.symm
  rw [if_pos (show (mSp 0 150 || mSp 1 150) = true from rfl), e]
theorem zM_lald : mSt ar .laload len pc l (.int (zI 0) :: .ref 198 :: st) (zW K A O t) = some (pc + len, l, .long (O 0) :: st, zW K A O t) := by
  have hc : (zW K A O t).1 198 = .inl (2, 1, .inr (.inl O)) := rfl
  show mLald (pc + len) l (zW K A O t) (.int (zI 0) :: .ref 198 :: st) = _
  unfold mLald
  dsimp only
  rw [hc]
  dsimp only
  rw [if_pos ⟨rfl, by decide⟩]
  rfl
theorem zM_last {x : Int64} : mSt ar .lastore len pc l (.long x :: .int (zI 0) :: .ref 198 :: st) (zW K A O t) = some (pc + len, l, st, zW K A (vp_updL O 0 x) t) := by
  have hc : (zW K A O t).1 198 = .inl (2, 1, .inr (.inl O)) := rfl
  show mLast (pc + len) l (zW K A O t) (.long x :: .int (zI 0) :: .ref 198 :: st) = _
  unfold mLast
  dsimp only
  rw [hc]
  dsimp only
  rw [if_pos ⟨rfl, by decide⟩]
  have hw : va_up (zW K A O t).1 198 (.inl (2, 1, .inr (.inl (vp_updL O (zI 0).toNatClampNeg x)))) = (zW K A (vp_updL O 0 x) t).1 := by
    funext a
    unfold va_up
    by_cases ha : a = 198
    · rw [if_pos ha, ha]; rfl
    · rw [if_neg ha]
      show mCe (K a) (mS a) _ O = mCe (K a) (mS a) _ (vp_updL O 0 x)
      by_cases hl : a < 198
      · have h3 := List.all_eq_true.mp mS_long a (List.mem_range.mpr hl)
        unfold mCe
        split
        · next t n hs =>
          rw [hs] at h3
          have : t ≠ 2 := by simpa using h3
          rw [if_neg this, if_neg this]
        · rfl
        · rfl
      · have hs : mS a = .inr (.inr (999, [])) := by
          unfold mS
          rw [List.getD_eq_getElem?_getD, List.getElem?_eq_none (by show 199 ≤ a; omega)]
          rfl
        rw [hs]; rfl
  rw [hw]
  rfl
/-- a number as a truth -/
theorem mG_bool {x : Int} (h1 : mF M pc = some (.ifCond .eq 7, 3)) (h2 : mF M (pc + 3) = some (.iconst 1, 1)) (h3 : mF M (pc + 4) = some (.goto 4, 3)) (h4 : mF M (pc + 7) = some (.iconst 0, 1)) (hx : -2147483648 ≤ x ∧ x < 2147483648) : mGd ar d M pc l (.int (zI x) :: st) w = mGd ar d M (pc + 8) l (.int (zI (if x = 0 then 0 else 1)) :: st) w := by
  refine Eq.trans (mG_st (z := (if x = 0 then pc + 7 else pc + 3, l, st, w)) h1 ?_) ?_
  · have := zs_if_eq (ar := ar) (off := 7) (len := 3) (pc := pc) (l := l) (st := st) (w := w) hx
    rw [this]
    congr 2
  · dsimp only
    by_cases h : x = 0
    · rw [if_pos h, if_pos h]
      exact mG_st (z := (pc + 8, l, .int (zI 0) :: st, w)) h4 rfl
    · rw [if_neg h, if_neg h]
      refine Eq.trans (mG_st (z := (pc + 4, l, .int (zI 1) :: st, w)) h2 rfl) ?_
      refine mG_st (z := (pc + 8, l, .int (zI 1) :: st, w)) h3 ?_
      show some (((((pc + 4 : Nat) : Int) + 4).toNat), l, _, w) = _
      rw [show (((pc + 4 : Nat) : Int) + 4).toNat = pc + 8 by omega]
def zTlg (x : Int) : Int64 := if x = 0 then Int64.ofNat 0 else Int64.ofNat 1
theorem mG_lb {x : Int} (h1 : mF M pc = some (.ifCond .eq 7, 3)) (h2 : mF M (pc + 3) = some (.lconst 1, 1)) (h3 : mF M (pc + 4) = some (.goto 4, 3)) (h4 : mF M (pc + 7) = some (.lconst 0, 1)) (hx : -2147483648 ≤ x ∧ x < 2147483648) : mGd ar d M pc l (.int (zI x) :: st) w = mGd ar d M (pc + 8) l (.long (zTlg x) :: st) w := by
  refine Eq.trans (mG_st (z := (if x = 0 then pc + 7 else pc + 3, l, st, w)) h1 ?_) ?_
  · have := zs_if_eq (ar := ar) (off := 7) (len := 3) (pc := pc) (l := l) (st := st) (w := w) hx
    rw [this]
    congr 2
  · dsimp only
    unfold zTlg
    by_cases h : x = 0
    · rw [if_pos h, if_pos h]
      exact mG_st (z := (pc + 8, l, .long (Int64.ofNat 0) :: st, w)) h4 rfl
    · rw [if_neg h, if_neg h]
      refine Eq.trans (mG_st (z := (pc + 4, l, .long (Int64.ofNat 1) :: st, w)) h2 rfl) ?_
      refine mG_st (z := (pc + 8, l, .long (Int64.ofNat 1) :: st, w)) h3 ?_
      show some (((((pc + 4 : Nat) : Int) + 4).toNat), l, _, w) = _
      rw [show (((pc + 4 : Nat) : Int) + 4).toNat = pc + 8 by omega]
theorem lg_same {x : Int64} : lg_cmp x x = 0 := by
  unfold lg_cmp
  rw [if_neg (by simp), if_pos rfl]
/-- the law's code in its pieces -/
theorem mFind_l {pc : Nat} {a b : List (Nat × Nat × Instr)} {q : Instr × Nat} : mFind pc a = some q → mFind pc (a ++ b) = some q := by
  induction a with
  | nil => intro h; cases h
  | cons e a ih =>
    obtain ⟨x, n, i⟩ := e
    intro h
    rw [List.cons_append]
    unfold mFind at h ⊢
    by_cases hx : x = pc
    · rw [if_pos hx] at h ⊢; exact h
    · rw [if_neg hx] at h ⊢; exact ih h
theorem mFind_r {pc lo : Nat} {a b : List (Nat × Nat × Instr)} (ha : (a.all fun e => Nat.blt e.1 lo) = true) (h : lo ≤ pc) : mFind pc (a ++ b) = mFind pc b := by
  induction a with
  | nil => rfl
  | cons e a ih =>
    obtain ⟨x, n, i⟩ := e
    rw [List.all_cons, Bool.and_eq_true] at ha
    rw [List.cons_append]
    conv => lhs; unfold mFind
    have : x < lo := Nat.blt_eq.mp ha.1
    rw [if_neg (by omega)]
    exact ih ha.2
theorem lo0 : (mc_0_0.all fun e => Nat.blt e.1 516) = true := by decide +kernel
theorem lo1 : (mc_0_1.all fun e => Nat.blt e.1 816) = true := by decide +kernel
theorem lo2 : (mc_0_2.all fun e => Nat.blt e.1 1134) = true := by decide +kernel
theorem lo3 : (mc_0_3.all fun e => Nat.blt e.1 1435) = true := by decide +kernel
theorem lo4 : (mc_0_4.all fun e => Nat.blt e.1 1750) = true := by decide +kernel
theorem lo5 : (mc_0_5.all fun e => Nat.blt e.1 2053) = true := by decide +kernel
theorem lo6 : (mc_0_6.all fun e => Nat.blt e.1 2355) = true := by decide +kernel
theorem lo7 : (mc_0_7.all fun e => Nat.blt e.1 2663) = true := by decide +kernel
theorem lo8 : (mc_0_8.all fun e => Nat.blt e.1 2973) = true := by decide +kernel
theorem f0_0 {q : Instr × Nat} (hf : mFind pc mc_0_0 = some q) : mF 0 pc = some q := mF_m tb_0 (mFind_l hf)
theorem f0_1 {q : Instr × Nat} (h : 516 ≤ pc) (hf : mFind pc mc_0_1 = some q) : mF 0 pc = some q := mF_m tb_0 (by unfold mc_0; rw [mFind_r lo0 h]; exact mFind_l hf)
theorem f0_2 {q : Instr × Nat} (h : 816 ≤ pc) (hf : mFind pc mc_0_2 = some q) : mF 0 pc = some q := mF_m tb_0 (by unfold mc_0; rw [mFind_r lo0 (by omega), mFind_r lo1 (by omega)]; exact mFind_l hf)
theorem f0_3 {q : Instr × Nat} (h : 1134 ≤ pc) (hf : mFind pc mc_0_3 = some q) : mF 0 pc = some q := mF_m tb_0 (by unfold mc_0; rw [mFind_r lo0 (by omega), mFind_r lo1 (by omega), mFind_r lo2 (by omega)]; exact mFind_l hf)
theorem f0_4 {q : Instr × Nat} (h : 1435 ≤ pc) (hf : mFind pc mc_0_4 = some q) : mF 0 pc = some q := mF_m tb_0 (by unfold mc_0; rw [mFind_r lo0 (by omega), mFind_r lo1 (by omega), mFind_r lo2 (by omega), mFind_r lo3 (by omega)]; exact mFind_l hf)
theorem f0_5 {q : Instr × Nat} (h : 1750 ≤ pc) (hf : mFind pc mc_0_5 = some q) : mF 0 pc = some q := mF_m tb_0 (by unfold mc_0; rw [mFind_r lo0 (by omega), mFind_r lo1 (by omega), mFind_r lo2 (by omega), mFind_r lo3 (by omega), mFind_r lo4 (by omega)]; exact mFind_l hf)
theorem f0_6 {q : Instr × Nat} (h : 2053 ≤ pc) (hf : mFind pc mc_0_6 = some q) : mF 0 pc = some q := mF_m tb_0 (by unfold mc_0; rw [mFind_r lo0 (by omega), mFind_r lo1 (by omega), mFind_r lo2 (by omega), mFind_r lo3 (by omega), mFind_r lo4 (by omega), mFind_r lo5 (by omega)]; exact mFind_l hf)
theorem f0_7 {q : Instr × Nat} (h : 2355 ≤ pc) (hf : mFind pc mc_0_7 = some q) : mF 0 pc = some q := mF_m tb_0 (by unfold mc_0; rw [mFind_r lo0 (by omega), mFind_r lo1 (by omega), mFind_r lo2 (by omega), mFind_r lo3 (by omega), mFind_r lo4 (by omega), mFind_r lo5 (by omega), mFind_r lo6 (by omega)]; exact mFind_l hf)
theorem f0_8 {q : Instr × Nat} (h : 2663 ≤ pc) (hf : mFind pc mc_0_8 = some q) : mF 0 pc = some q := mF_m tb_0 (by unfold mc_0; rw [mFind_r lo0 (by omega), mFind_r lo1 (by omega), mFind_r lo2 (by omega), mFind_r lo3 (by omega), mFind_r lo4 (by omega), mFind_r lo5 (by omega), mFind_r lo6 (by omega), mFind_r lo7 (by omega)]; exact mFind_l hf)
theorem f0_9 {q : Instr × Nat} (h : 2973 ≤ pc) (hf : mFind pc mc_0_9 = some q) : mF 0 pc = some q := mF_m tb_0 (by unfold mc_0; rw [mFind_r lo0 (by omega), mFind_r lo1 (by omega), mFind_r lo2 (by omega), mFind_r lo3 (by omega), mFind_r lo4 (by omega), mFind_r lo5 (by omega), mFind_r lo6 (by omega), mFind_r lo7 (by omega), mFind_r lo8 (by omega)]; exact hf)
/-- more depth does no harm -/
theorem zQ_dp {D D' M1 M2 : Nat} {l1 l2 : List Value} {code : Nat → Int} (h : zQ ar K O t D M1 l1 M2 l2 code A) (hd : D ≤ D') : zQ ar K O t D' M1 l1 M2 l2 code A := by
  obtain ⟨A1, ⟨b, h1, h2, h3⟩ | ⟨E, h1, h2, h3⟩⟩ := h
  · exact ⟨A1, Or.inl ⟨b, mGd_dp h1 hd, h2, fun O' t' => by
      obtain ⟨A2, x1, x2⟩ := h3 O' t'
      exact ⟨A2, mGd_dp x1 hd, x2⟩⟩⟩
  · exact ⟨A1, Or.inr ⟨E, mGd_dp h1 hd, h2, fun O' t' => by
      obtain ⟨b, A2, x1, x2⟩ := h3 O' t'
      exact ⟨b, A2, mGd_dp x1 hd, x2⟩⟩⟩
end HELP
/-- a call through its wrapper, and the reference's -/
def zWr (ar : Nat → Nat × (Nat → Int32)) (K : Nat → Nat → Option Nat) (O : Nat → Int64) (t D W : Nat) (lw : List Value) (M2 : Nat) (l2 : List Value) (Z : Int → Int64) (A : Nat → Int → Int) : Prop :=
  ∃ (k : Int) (A1 : Nat → Int → Int) (O1 : Nat → Int64) (t1 : Nat), mGd ar D W 0 lw [] (zW K A O t) = some (.inl (some (.int (zI k))), zW K A1 O1 t1) ∧ t1 ≤ t + 1 ∧ (0 ≤ k ∧ k ≤ 3) ∧ ∃ (b : Int) (A2 : Nat → Int → Int), mGd ar D M2 0 l2 [] (zW K A1 O1 t1) = some (.inl (some (.int (zI b))), zW K A2 O1 t1) ∧ A2 185 0 = k ∧ zInv A2 ∧ (k = 0 → O1 0 = Z b ∧ -2147483648 ≤ b ∧ b < 2147483648)
