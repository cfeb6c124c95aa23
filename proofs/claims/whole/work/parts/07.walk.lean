def mSwl : List (Nat × Nat × Nat × Instr) := [(0, 17, 2, .newarray .long), (0, 40, 212, .tableswitch 2997 0 48 #[212, 285, 310, 354, 398, 411, 479, 547, 603, 671, 739, 819, 887, 978, 1034, 1090, 1170, 1183, 1196, 1264, 1332, 1428, 1496, 1552, 1608, 1671, 1755, 1863, 1931, 2011, 2079, 2159, 2267, 2280, 2336, 2349, 2405, 2473, 2541, 2597, 2665, 2761, 2829, 2842, 2910, 2935, 2948, 2959, 2972]), (2, 8, 2, .newarray .int), (3, 12, 2, .newarray .int), (3, 20, 2, .newarray .int), (3, 32, 2, .newarray .int), (3, 39, 2, .newarray .int), (4, 17, 2, .newarray .int), (4, 25, 2, .newarray .int), (4, 33, 2, .newarray .int), (5, 22, 2, .newarray .int), (5, 30, 2, .newarray .int), (5, 38, 2, .newarray .int), (5, 47, 2, .newarray .int), (5, 55, 2, .newarray .int), (5, 63, 2, .newarray .int), (7, 7, 2, .newarray .int), (10, 27, 2, .newarray .int), (10, 36, 4, .multianewarray 4 2), (11, 7, 2, .newarray .int), (12, 6, 2, .newarray .int), (29, 17, 35, .tableswitch 88 0 4 #[35, 45, 59, 71, 83]), (38, 1, 31, .tableswitch 61 1009 1012 #[31, 35, 46, 57]), (62, 1, 67, .tableswitch 168 0 12 #[67, 75, 83, 105, 113, 121, 121, 121, 121, 133, 141, 149, 160]), (70, 41, 35, .tableswitch 60 0 4 #[35, 40, 45, 50, 55]), (109, 6, 26, .tableswitch 62 0 2 #[26, 36, 53]), (139, 38, 34, .lookupswitch 102 #[(0, 34), (3, 58), (5, 66)]), (216, 8, 2, .newarray .int), (216, 17, 2, .newarray .int), (216, 26, 2, .newarray .int), (216, 35, 2, .newarray .int), (216, 44, 2, .newarray .int), (216, 53, 2, .newarray .byte), (216, 65, 2, .newarray .int), (216, 73, 2, .newarray .int), (216, 81, 2, .newarray .int), (216, 90, 2, .newarray .int), (216, 99, 2, .newarray .int), (216, 107, 2, .newarray .int), (265, 40, 28, .tableswitch 75 1 3 #[28, 42, 54]), (275, 22, 46, .tableswitch 99 0 7 #[46, 48, 51, 54, 57, 66, 73, 86]), (299, 58, 38, .tableswitch 75 0 5 #[38, 75, 75, 58, 66, 48]), (344, 6, 66, .tableswitch 141 0 12 #[66, 71, 78, 101, 108, 141, 141, 141, 141, 115, 120, 129, 136])]
def mIn2 (a b c : Nat) (i : Instr) : List (Nat × Nat × Nat × Instr) → Bool
  | [] => false
  | (x, y, z, j) :: r => (Nat.beq x a && Nat.beq y b && Nat.beq z c && decide (j = i)) || mIn2 a b c i r
def mWalk (M : Nat) : Nat → List UInt8 → List (Nat × Nat × Instr) → Bool
  | _, _, [] => true
  | pc, L, (q, len, i) :: r => Nat.beq q pc && (decide (i = .monitorexit) || mIn2 M pc len i mSwl || (match mDec L with
    | some (ir, n) => Nat.beq n len && Nat.beq (mIl ir n) n && decide (mNorm M pc ir = some i)
    | none => false)) && mWalk M (pc + len) (L.drop len) r
theorem mIn2_mem {a b c : Nat} {i : Instr} : ∀ {t : List (Nat × Nat × Nat × Instr)}, mIn2 a b c i t = true → (a, b, c, i) ∈ t
  | [], h => by cases h
  | (x, y, z, j) :: r, h => by
    unfold mIn2 at h
    simp only [Bool.or_eq_true, Bool.and_eq_true, Nat.beq_eq, decide_eq_true_eq] at h
    rcases h with ⟨⟨⟨rfl, rfl⟩, rfl⟩, rfl⟩ | h
    · exact List.mem_cons_self
    · exact List.mem_cons_of_mem _ (mIn2_mem h)
/-- what stands at a place of a method's bytes -/
def mStands (M pc len : Nat) (i : Instr) : Prop := ∃ ir, decode (mB M) pc = .ok (ir, len) ∧ mIl ir len = len ∧ mNorm M pc ir = some i
theorem mWalk_ok {M : Nat} : ∀ {t : List (Nat × Nat × Instr)} {pc : Nat} {L : List UInt8}, mWalk M pc L t = true → (mB M).data.toList.drop pc = L → ∀ e ∈ t, e.2.2 = .monitorexit ∨ (M, e.1, e.2.1, e.2.2) ∈ mSwl ∨ mStands M e.1 e.2.1 e.2.2
  | [], _, _, _, _ => fun _ h => by cases h
  | (q, len, i) :: r, pc, L, h, hL => by
    unfold mWalk at h
    simp only [Bool.and_eq_true, Bool.or_eq_true, Nat.beq_eq, decide_eq_true_eq] at h
    obtain ⟨⟨rfl, h1⟩, h2⟩ := h
    intro e he
    rcases List.mem_cons.mp he with rfl | he
    · rcases h1 with (h1 | h1) | h1
      · exact Or.inl h1
      · exact Or.inr (Or.inl (mIn2_mem h1))
      · cases hd : mDec L with
        | none => rw [hd] at h1; cases h1
        | some z =>
          obtain ⟨ir, n⟩ := z
          rw [hd] at h1
          simp only [Bool.and_eq_true, Nat.beq_eq, decide_eq_true_eq] at h1
          obtain ⟨⟨rfl, h3⟩, h4⟩ := h1
          exact Or.inr (Or.inr ⟨ir, mDec_ok hL hd, h3, h4⟩)
    · exact mWalk_ok h2 (by rw [← hL, List.drop_drop]) e he
theorem wk0_0 : mWalk 0 0 ((mB 0).data.toList.drop 0) mc_0_0 = true := by decide +kernel
theorem wk0_1 : mWalk 0 516 ((mB 0).data.toList.drop 516) mc_0_1 = true := by decide +kernel
theorem wk0_2 : mWalk 0 816 ((mB 0).data.toList.drop 816) mc_0_2 = true := by decide +kernel
theorem wk0_3 : mWalk 0 1134 ((mB 0).data.toList.drop 1134) mc_0_3 = true := by decide +kernel
theorem wk0_4 : mWalk 0 1435 ((mB 0).data.toList.drop 1435) mc_0_4 = true := by decide +kernel
theorem wk0_5 : mWalk 0 1750 ((mB 0).data.toList.drop 1750) mc_0_5 = true := by decide +kernel
theorem wk0_6 : mWalk 0 2053 ((mB 0).data.toList.drop 2053) mc_0_6 = true := by decide +kernel
theorem wk0_7 : mWalk 0 2355 ((mB 0).data.toList.drop 2355) mc_0_7 = true := by decide +kernel
theorem wk0_8 : mWalk 0 2663 ((mB 0).data.toList.drop 2663) mc_0_8 = true := by decide +kernel
theorem wk0_9 : mWalk 0 2973 ((mB 0).data.toList.drop 2973) mc_0_9 = true := by decide +kernel
theorem wkr_1 : (List.range 23).all (fun j => mWalk (1 + j) 0 (mB (1 + j)).data.toList (mTab.getD (1 + j) [])) = true := by decide +kernel
theorem wkr_24 : (List.range 23).all (fun j => mWalk (24 + j) 0 (mB (24 + j)).data.toList (mTab.getD (24 + j) [])) = true := by decide +kernel
theorem wkr_47 : (List.range 23).all (fun j => mWalk (47 + j) 0 (mB (47 + j)).data.toList (mTab.getD (47 + j) [])) = true := by decide +kernel
theorem wkr_70 : (List.range 23).all (fun j => mWalk (70 + j) 0 (mB (70 + j)).data.toList (mTab.getD (70 + j) [])) = true := by decide +kernel
theorem wkr_93 : (List.range 23).all (fun j => mWalk (93 + j) 0 (mB (93 + j)).data.toList (mTab.getD (93 + j) [])) = true := by decide +kernel
theorem wkr_116 : (List.range 23).all (fun j => mWalk (116 + j) 0 (mB (116 + j)).data.toList (mTab.getD (116 + j) [])) = true := by decide +kernel
theorem wkr_139 : (List.range 23).all (fun j => mWalk (139 + j) 0 (mB (139 + j)).data.toList (mTab.getD (139 + j) [])) = true := by decide +kernel
theorem wkr_162 : (List.range 23).all (fun j => mWalk (162 + j) 0 (mB (162 + j)).data.toList (mTab.getD (162 + j) [])) = true := by decide +kernel
theorem wkr_185 : (List.range 23).all (fun j => mWalk (185 + j) 0 (mB (185 + j)).data.toList (mTab.getD (185 + j) [])) = true := by decide +kernel
theorem wkr_208 : (List.range 23).all (fun j => mWalk (208 + j) 0 (mB (208 + j)).data.toList (mTab.getD (208 + j) [])) = true := by decide +kernel
theorem wkr_231 : (List.range 23).all (fun j => mWalk (231 + j) 0 (mB (231 + j)).data.toList (mTab.getD (231 + j) [])) = true := by decide +kernel
theorem wkr_254 : (List.range 23).all (fun j => mWalk (254 + j) 0 (mB (254 + j)).data.toList (mTab.getD (254 + j) [])) = true := by decide +kernel
theorem wkr_277 : (List.range 23).all (fun j => mWalk (277 + j) 0 (mB (277 + j)).data.toList (mTab.getD (277 + j) [])) = true := by decide +kernel
theorem wkr_300 : (List.range 23).all (fun j => mWalk (300 + j) 0 (mB (300 + j)).data.toList (mTab.getD (300 + j) [])) = true := by decide +kernel
theorem wkr_323 : (List.range 23).all (fun j => mWalk (323 + j) 0 (mB (323 + j)).data.toList (mTab.getD (323 + j) [])) = true := by decide +kernel
theorem wks_0 : ((mSwl.drop 0).take 8).all (fun e => mChk e.1 (e.2.1, e.2.2.1, e.2.2.2)) = true := by decide +kernel
theorem wks_1 : ((mSwl.drop 8).take 8).all (fun e => mChk e.1 (e.2.1, e.2.2.1, e.2.2.2)) = true := by decide +kernel
theorem wks_2 : ((mSwl.drop 16).take 8).all (fun e => mChk e.1 (e.2.1, e.2.2.1, e.2.2.2)) = true := by decide +kernel
theorem wks_3 : ((mSwl.drop 24).take 8).all (fun e => mChk e.1 (e.2.1, e.2.2.1, e.2.2.2)) = true := by decide +kernel
theorem wks_4 : ((mSwl.drop 32).take 8).all (fun e => mChk e.1 (e.2.1, e.2.2.1, e.2.2.2)) = true := by decide +kernel
theorem wks_5 : ((mSwl.drop 40).take 8).all (fun e => mChk e.1 (e.2.1, e.2.2.1, e.2.2.2)) = true := by decide +kernel
theorem mSwl_ok {M pc len : Nat} {i : Instr} (h : (M, pc, len, i) ∈ mSwl) : i = .monitorexit ∨ mStands M pc len i := by
  have key : ∀ e ∈ mSwl, mChk e.1 (e.2.1, e.2.2.1, e.2.2.2) = true := by
    intro e he
    have hs : mSwl = (mSwl.drop 0).take 8 ++ ((mSwl.drop 8).take 8 ++ ((mSwl.drop 16).take 8 ++ ((mSwl.drop 24).take 8 ++ ((mSwl.drop 32).take 8 ++ ((mSwl.drop 40).take 8))))) := by decide +kernel
    rw [hs] at he
    simp only [List.mem_append] at he
    rcases he with he | he | he | he | he | he
    · exact List.all_eq_true.mp wks_0 e he
    · exact List.all_eq_true.mp wks_1 e he
    · exact List.all_eq_true.mp wks_2 e he
    · exact List.all_eq_true.mp wks_3 e he
    · exact List.all_eq_true.mp wks_4 e he
    · exact List.all_eq_true.mp wks_5 e he
  have h1 := key _ h
  unfold mChk at h1
  simp only [Bool.or_eq_true, decide_eq_true_eq] at h1
  rcases h1 with h1 | h1
  · exact Or.inl h1
  · cases hd : decode (mB M) pc with
    | error z => rw [hd] at h1; cases h1
    | ok z =>
      obtain ⟨ir, n⟩ := z
      rw [hd] at h1
      simp only [Bool.and_eq_true, decide_eq_true_eq] at h1
      obtain ⟨⟨rfl, h2⟩, h3⟩ := h1
      exact Or.inr ⟨ir, hd, h2, h3⟩
theorem mWalk_all {M : Nat} {t : List (Nat × Nat × Instr)} {pc : Nat} (h : mWalk M pc ((mB M).data.toList.drop pc) t = true) : ∀ e ∈ t, e.2.2 = .monitorexit ∨ mStands M e.1 e.2.1 e.2.2 := by
  intro e he
  rcases mWalk_ok h rfl e he with h1 | h1 | h1
  · exact Or.inl h1
  · exact mSwl_ok h1
  · exact Or.inr h1
theorem mTab_all (M : Nat) : ∀ e ∈ mTab.getD M [], e.2.2 = .monitorexit ∨ mStands M e.1 e.2.1 e.2.2 := by
  rcases Nat.lt_or_ge M 346 with hM | hM
  · rcases Nat.eq_zero_or_pos M with rfl | h0
    · intro e he
      have hc : mTab.getD 0 [] = mc_0 := rfl
      rw [hc, mc_0] at he
      simp only [List.mem_append] at he
      rcases he with he | he | he | he | he | he | he | he | he | he
      · exact mWalk_all wk0_0 e he
      · exact mWalk_all wk0_1 e he
      · exact mWalk_all wk0_2 e he
      · exact mWalk_all wk0_3 e he
      · exact mWalk_all wk0_4 e he
      · exact mWalk_all wk0_5 e he
      · exact mWalk_all wk0_6 e he
      · exact mWalk_all wk0_7 e he
      · exact mWalk_all wk0_8 e he
      · exact mWalk_all wk0_9 e he
    · have fin : ∀ (lo n : Nat), (List.range n).all (fun j => mWalk (lo + j) 0 (mB (lo + j)).data.toList (mTab.getD (lo + j) [])) = true → lo ≤ M → M < lo + n → ∀ e ∈ mTab.getD M [], e.2.2 = .monitorexit ∨ mStands M e.1 e.2.1 e.2.2 := by
        intro lo n h h1 h2
        obtain ⟨j, rfl⟩ : ∃ j, M = lo + j := ⟨M - lo, by omega⟩
        exact mWalk_all (pc := 0) (List.all_eq_true.mp h j (List.mem_range.mpr (by omega)))
      rcases Nat.lt_or_ge M 24 with h | h
      · exact fin 1 23 wkr_1 (by omega) (by omega)
      rcases Nat.lt_or_ge M 47 with h | h
      · exact fin 24 23 wkr_24 (by omega) (by omega)
      rcases Nat.lt_or_ge M 70 with h | h
      · exact fin 47 23 wkr_47 (by omega) (by omega)
      rcases Nat.lt_or_ge M 93 with h | h
      · exact fin 70 23 wkr_70 (by omega) (by omega)
      rcases Nat.lt_or_ge M 116 with h | h
      · exact fin 93 23 wkr_93 (by omega) (by omega)
      rcases Nat.lt_or_ge M 139 with h | h
      · exact fin 116 23 wkr_116 (by omega) (by omega)
      rcases Nat.lt_or_ge M 162 with h | h
      · exact fin 139 23 wkr_139 (by omega) (by omega)
      rcases Nat.lt_or_ge M 185 with h | h
      · exact fin 162 23 wkr_162 (by omega) (by omega)
      rcases Nat.lt_or_ge M 208 with h | h
      · exact fin 185 23 wkr_185 (by omega) (by omega)
      rcases Nat.lt_or_ge M 231 with h | h
      · exact fin 208 23 wkr_208 (by omega) (by omega)
      rcases Nat.lt_or_ge M 254 with h | h
      · exact fin 231 23 wkr_231 (by omega) (by omega)
      rcases Nat.lt_or_ge M 277 with h | h
      · exact fin 254 23 wkr_254 (by omega) (by omega)
      rcases Nat.lt_or_ge M 300 with h | h
      · exact fin 277 23 wkr_277 (by omega) (by omega)
      rcases Nat.lt_or_ge M 323 with h | h
      · exact fin 300 23 wkr_300 (by omega) (by omega)
      rcases Nat.lt_or_ge M 346 with h | h
      · exact fin 323 23 wkr_323 (by omega) (by omega)
      omega
  · intro e he
    have hl : mTab.length = 346 := by decide +kernel
    rw [List.getD_eq_getElem?_getD, List.getElem?_eq_none (by omega)] at he
    cases he
theorem mFind_mem {pc len : Nat} {i : Instr} : ∀ {t : List (Nat × Nat × Instr)}, mFind pc t = some (i, len) → (pc, len, i) ∈ t
  | [], h => by cases h
  | (q, n, j) :: r, h => by
    unfold mFind at h
    by_cases hq : q = pc
    · rw [if_pos hq] at h
      cases h
      subst hq
      exact List.mem_cons_self
    · rw [if_neg hq] at h
      exact List.mem_cons_of_mem _ (mFind_mem h)
/-- what the small machine reads stands in the bytes -/
theorem mF_ok {M pc len : Nat} {i : Instr} (h : mF M pc = some (i, len)) : i = .monitorexit ∨ mStands M pc len i := mTab_all M _ (mFind_mem h)
