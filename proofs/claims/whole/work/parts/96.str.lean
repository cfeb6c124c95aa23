/-! TEXTS, 1: the strings of the law and the class -/
def zArs (ar : Nat → Nat × (Nat → Int32)) : Prop := ∀ s, s < 31 → ar (64 + s) = ((mBy s).length, fun j => (mBy s).getD j 0)
def zSs (s : Nat) : List Int := (mBy s).map fun x => x.toInt
theorem mAr_ars {L : Nat} {xs : Nat → Int32} : zArs (mAr L xs) := fun s hs => by
  unfold mAr
  rw [if_neg (by omega), show 64 + s - 64 = s by omega]
theorem zSs_len {s : Nat} : (zSs s).length = (mBy s).length := List.length_map ..
theorem zSs_tab : ∀ s : Fin 31, (mBy s.val).length ≤ 40 ∧ Int32.ofNat (mBy s.val).length = zI ((mBy s.val).length : Int) ∧ ∀ i : Fin 40, ((((mBy s.val).getD i.val 0) &&& zI 255).toUInt32 % 65536).toInt32 = zI ((zSs s.val).getD i.val 0) ∧ 0 ≤ (zSs s.val).getD i.val 0 ∧ (zSs s.val).getD i.val 0 < 128 := by decide +kernel
section STR
variable {ar : Nat → Nat × (Nat → Int32)} {d t : Nat} {K : Nat → Nat → Option Nat} {A : Nat → Int → Int} {O : Nat → Int64} {w : mW}
theorem i73_0 {s : Nat} (h : s < 31) : mGd ar d 73 0 [.retAddr s] [] w = some (.inl (some (.int (zI 0))), w) :=
  Eq.trans (mG_st (i := .iconst 1) (len := 3) (z := (3, [.retAddr s], [.int (zI 1)], w)) (mF_m tb_73 rfl) rfl)
  (Eq.trans (mG_st (i := .ifCond .eq 10) (len := 3) (z := (6, [.retAddr s], [], w)) (mF_m tb_73 rfl) rfl)
  (Eq.trans (mG_st (i := .aload 0) (len := 1) (z := (7, [.retAddr s], [.retAddr s], w)) (mF_m tb_73 rfl) (if_pos (by omega)))
  (Eq.trans (mG_st (i := .getstatic 1) (len := 3) (z := (10, [.retAddr s], [.int (zI 0)], w)) (mF_m tb_73 rfl) (if_pos h))
  (Eq.trans (mG_st (i := .goto 4) (len := 3) (z := (14, [.retAddr s], [.int (zI 0)], w)) (mF_m tb_73 rfl) rfl)
  (mG_ir (len := 1) (mF_m tb_73 rfl) rfl rfl)))))
theorem i75_0 {s : Nat} (h : s < 31) : mGd ar d 75 0 [.retAddr s] [] w = some (.inl (some (.int (zI 1))), w) :=
  Eq.trans (mG_st (i := .iconst 1) (len := 3) (z := (3, [.retAddr s], [.int (zI 1)], w)) (mF_m tb_75 rfl) rfl)
  (Eq.trans (mG_st (i := .ifCond .eq 14) (len := 3) (z := (6, [.retAddr s], [], w)) (mF_m tb_75 rfl) rfl)
  (Eq.trans (mG_st (i := .aload 0) (len := 1) (z := (7, [.retAddr s], [.retAddr s], w)) (mF_m tb_75 rfl) (if_pos (by omega)))
  (Eq.trans (mG_st (i := .getstatic 1) (len := 3) (z := (10, [.retAddr s], [.int (zI 0)], w)) (mF_m tb_75 rfl) (if_pos h))
  (Eq.trans (mG_st (i := .ifCond .ne 7) (len := 3) (z := (13, [.retAddr s], [], w)) (mF_m tb_75 rfl) rfl)
  (Eq.trans (mG_st (i := .iconst 1) (len := 1) (z := (14, [.retAddr s], [.int (zI 1)], w)) (mF_m tb_75 rfl) rfl)
  (Eq.trans (mG_st (i := .goto 4) (len := 3) (z := (18, [.retAddr s], [.int (zI 1)], w)) (mF_m tb_75 rfl) rfl)
  (mG_ir (len := 1) (mF_m tb_75 rfl) rfl rfl)))))))
theorem mSp_in {s : Nat} (h : s < 31) : mSp 1 (64 + s) = true := by
  have : ∀ s : Fin 31, mSp 1 (64 + s.val) = true := by decide
  exact this ⟨s, h⟩
theorem i72_0 (hS : zArs ar) {s : Nat} (h : s < 31) : mGd ar (d + 1) 72 0 [.retAddr s] [] w = some (.inl (some (.int (zI ((zSs s).length : Int)))), w) := by
  have hl := (zSs_tab ⟨s, h⟩).2.1
  have e : (ar (64 + s)).1 = (mBy s).length := by rw [hS s h]
  have hc : mGd ar d 73 0 [.retAddr s] [] w = some (.inl (some (.int (zI 0))), w) := i73_0 h
  refine Eq.trans (mG_st (i := .aload 0) (len := 1) (z := (1, [.retAddr s], [.retAddr s], w)) (mF_m tb_72 rfl) (if_pos (by omega))) ?_
  refine Eq.trans (mG_st (i := .getstatic 0) (len := 3) (z := (4, [.retAddr s], [.retAddr (64 + s)], w)) (mF_m tb_72 rfl) (if_pos h)) ?_
  refine Eq.trans (mG_st (i := .arraylength) (len := 1) (z := (5, [.retAddr s], [.int (zI ((zSs s).length : Int))], w)) (mF_m tb_72 rfl) ?_) ?_
  · show (if (mSp 0 (64 + s) || mSp 1 (64 + s)) = true then some (5, [Value.retAddr s], [Value.int (Int32.ofNat (ar (64 + s)).1)], w) else none) = _
    rw [mSp_in h, Bool.or_true, if_pos rfl, e, hl, zSs_len]
  refine Eq.trans (mG_st (i := .aload 0) (len := 1) (z := (6, [.retAddr s], [.retAddr s, .int (zI ((zSs s).length : Int))], w)) (mF_m tb_72 rfl) (if_pos (by omega))) ?_
  refine Eq.trans (mC_1n (i := .invokedynamic 73) (len := 3) (M' := 73) (k := 1) (mF_m tb_72 rfl) (if_pos h) rfl rfl rfl rfl hc) ?_
  refine Eq.trans (mG_st (i := .ishr) (len := 1) (z := (10, [.retAddr s], [.int (zI ((zSs s).length : Int))], w)) (mF_m tb_72 rfl) ?_) ?_
  · show some (10, [Value.retAddr s], [Value.int (zI ((zSs s).length : Int) >>> (zI 0 &&& 31))], w) = _
    rw [show (zI 0 &&& 31 : Int32) = 0 from by decide, Int32.shiftRight_zero]
  exact mG_ir (len := 1) (mF_m tb_72 rfl) rfl rfl
theorem i78_0 {x y : Int} (hx : 0 ≤ x ∧ x < y) (hy : y < 2147483648) {v : Value} : mGd ar d 78 0 [.int (zI x), .int (zI y), v] [] w = some (.inl (some (.int (zI x))), w) := by
  refine Eq.trans (mG_st (i := .iload 0) (len := 1) (z := (1, [.int (zI x), .int (zI y), v], [.int (zI x)], w)) (mF_m tb_78 rfl) rfl) ?_
  refine Eq.trans (mG_st (i := .ifCond .lt 8) (len := 3) (z := (if x < 0 then 9 else 4, [.int (zI x), .int (zI y), v], [], w)) (mF_m tb_78 rfl) (zs_if_lt (by omega))) ?_
  rw [if_neg (by omega)]
  refine Eq.trans (mG_st (i := .iload 0) (len := 1) (z := (5, [.int (zI x), .int (zI y), v], [.int (zI x)], w)) (mF_m tb_78 rfl) rfl) ?_
  refine Eq.trans (mG_st (i := .iload 1) (len := 1) (z := (6, [.int (zI x), .int (zI y), v], [.int (zI y), .int (zI x)], w)) (mF_m tb_78 rfl) rfl) ?_
  refine Eq.trans (mG_st (i := .if_icmp .lt 10) (len := 3) (z := (if x < y then 16 else 9, [.int (zI x), .int (zI y), v], [], w)) (mF_m tb_78 rfl) (zs_ic_lt (by omega) (by omega))) ?_
  rw [if_pos hx.2]
  refine Eq.trans (mG_st (i := .iload 0) (len := 1) (z := (17, [.int (zI x), .int (zI y), v], [.int (zI x)], w)) (mF_m tb_78 rfl) rfl) ?_
  exact mG_ir (len := 1) (mF_m tb_78 rfl) rfl rfl
theorem c_check {x y : Int} (hx : 0 ≤ x ∧ x < y) (hy : y < 2147483648) : mGd ar (d + 1) 77 0 [.int (zI x), .int (zI y)] [] (zW K A O t) = some (.inl none, zW K A O t) := by
  rw [i77_0, i78_0 hx hy, mB1_i, i77_8]
theorem i76_0 (hS : zArs ar) {s : Nat} (h : s < 31) {i : Int} (hi : 0 ≤ i ∧ i < ((zSs s).length : Int)) : mGd ar (d + 2) 76 0 [.retAddr (64 + s), .int (zI i)] [] (zW K A O t) = some (.inl (some (.int (zI ((zSs s).getD i.toNat 0)))), zW K A O t) := by
  have ht := zSs_tab ⟨s, h⟩
  have hl := ht.2.1
  have h40 := ht.1
  have hlen : (zSs s).length = (mBy s).length := zSs_len
  have hch := (ht.2.2 ⟨i.toNat, by show i.toNat < 40; have : (mBy s).length ≤ 40 := h40; omega⟩).1
  have e : ar (64 + s) = ((mBy s).length, fun j => (mBy s).getD j 0) := hS s h
  have e1 : (ar (64 + s)).1 = (mBy s).length := by rw [e]
  have e2 : ∀ j, (ar (64 + s)).2 j = (mBy s).getD j 0 := fun j => by rw [e]
  have h40' : (mBy s).length ≤ 40 := h40
  have hc : mGd ar (d + 1) 77 0 [.int (zI i), .int (zI ((zSs s).length : Int))] [] (zW K A O t) = some (.inl none, zW K A O t) := c_check hi (by omega)
  refine Eq.trans (mG_st (i := .iload 1) (len := 1) (z := (1, [.retAddr (64 + s), .int (zI i)], [.int (zI i)], zW K A O t)) (mF_m tb_76 rfl) rfl) ?_
  refine Eq.trans (mG_st (i := .aload 0) (len := 1) (z := (2, [.retAddr (64 + s), .int (zI i)], [.retAddr (64 + s), .int (zI i)], zW K A O t)) (mF_m tb_76 rfl) (if_pos (by omega))) ?_
  refine Eq.trans (mG_st (i := .arraylength) (len := 1) (z := (3, [.retAddr (64 + s), .int (zI i)], [.int (zI ((zSs s).length : Int)), .int (zI i)], zW K A O t)) (mF_m tb_76 rfl) ?_) ?_
  · show (if (mSp 0 (64 + s) || mSp 1 (64 + s)) = true then some (3, [Value.retAddr (64 + s), .int (zI i)], [Value.int (Int32.ofNat (ar (64 + s)).1), .int (zI i)], zW K A O t) else none) = _
    rw [mSp_in h, Bool.or_true, if_pos rfl, e1, hl, zSs_len]
  refine Eq.trans (mC_0 (i := .invokestatic 77) (len := 3) (M' := 77) (k := 2) (mF_m tb_76 rfl) rfl rfl rfl rfl (hh_76 _) rfl hc) ?_
  refine Eq.trans (mG_st (i := .aload 0) (len := 1) (z := (7, [.retAddr (64 + s), .int (zI i)], [.retAddr (64 + s)], zW K A O t)) (mF_m tb_76 rfl) (if_pos (by omega))) ?_
  refine Eq.trans (mG_st (i := .iload 1) (len := 1) (z := (8, [.retAddr (64 + s), .int (zI i)], [.int (zI i), .retAddr (64 + s)], zW K A O t)) (mF_m tb_76 rfl) rfl) ?_
  refine Eq.trans (mG_st (i := .baload) (len := 1) (z := (9, [.retAddr (64 + s), .int (zI i)], [.int ((mBy s).getD i.toNat 0)], zW K A O t)) (mF_m tb_76 rfl) ?_) ?_
  · show (if mSp 1 (64 + s) = true ∧ ¬ (zI i < 0 ∨ (ar (64 + s)).1 ≤ (zI i).toNatClampNeg) then some (9, [Value.retAddr (64 + s), .int (zI i)], [Value.int ((ar (64 + s)).2 (zI i).toNatClampNeg)], zW K A O t) else none) = _
    rw [if_pos ⟨mSp_in h, by rw [e1]; exact zIdx (by omega) (by omega)⟩, e2, zClamp (by omega)]
  refine Eq.trans (mG_st (i := .iconst 255) (len := 3) (z := (12, [.retAddr (64 + s), .int (zI i)], [.int (zI 255), .int ((mBy s).getD i.toNat 0)], zW K A O t)) (mF_m tb_76 rfl) rfl) ?_
  refine Eq.trans (mG_st (i := .iand) (len := 1) (z := (13, [.retAddr (64 + s), .int (zI i)], [.int ((mBy s).getD i.toNat 0 &&& zI 255)], zW K A O t)) (mF_m tb_76 rfl) rfl) ?_
  refine Eq.trans (mG_st (i := .i2c) (len := 1) (z := (14, [.retAddr (64 + s), .int (zI i)], [.int (zI ((zSs s).getD i.toNat 0))], zW K A O t)) (mF_m tb_76 rfl) ?_) ?_
  · show some (14, [Value.retAddr (64 + s), .int (zI i)], [Value.int ((((mBy s).getD i.toNat 0) &&& zI 255).toUInt32 % 65536).toInt32], zW K A O t) = _
    rw [hch]
  have hr := (ht.2.2 ⟨i.toNat, by show i.toNat < 40; omega⟩).2
  refine mG_ir (len := 1) (mF_m tb_76 rfl) rfl ?_
  have hn : ∀ c : Fin 128, narrow .char (.int (zI (c.val : Int))) = .int (zI (c.val : Int)) := by decide +kernel
  have := hn ⟨((zSs s).getD i.toNat 0).toNat, by show ((zSs s).getD i.toNat 0).toNat < 128; have : (zSs s).getD i.toNat 0 < 128 := hr.2; omega⟩
  simp only [Int.toNat_of_nonneg (show 0 ≤ (zSs s).getD i.toNat 0 from hr.1)] at this
  exact this
theorem i74_0 (hS : zArs ar) {s : Nat} (h : s < 31) {i : Int} (hi : 0 ≤ i ∧ i < ((zSs s).length : Int)) : mGd ar (d + 3) 74 0 [.retAddr s, .int (zI i)] [] (zW K A O t) = some (.inl (some (.int (zI ((zSs s).getD i.toNat 0)))), zW K A O t) := by
  have hc : mGd ar (d + 2) 75 0 [.retAddr s] [] (zW K A O t) = some (.inl (some (.int (zI 1))), zW K A O t) := i75_0 h
  have hc2 := i76_0 (d := d) (K := K) (O := O) (t := t) (A := A) hS h hi
  refine Eq.trans (mG_st (i := .aload 0) (len := 1) (z := (1, [.retAddr s, .int (zI i)], [.retAddr s], zW K A O t)) (mF_m tb_74 rfl) (if_pos (by omega))) ?_
  refine Eq.trans (mC_1n (i := .invokedynamic 75) (len := 3) (M' := 75) (k := 1) (mF_m tb_74 rfl) (if_pos h) rfl rfl rfl rfl hc) ?_
  refine Eq.trans (mG_st (i := .ifCond .eq 12) (len := 3) (z := (7, [.retAddr s, .int (zI i)], [], zW K A O t)) (mF_m tb_74 rfl) rfl) ?_
  refine Eq.trans (mG_st (i := .aload 0) (len := 1) (z := (8, [.retAddr s, .int (zI i)], [.retAddr s], zW K A O t)) (mF_m tb_74 rfl) (if_pos (by omega))) ?_
  refine Eq.trans (mG_st (i := .getstatic 0) (len := 3) (z := (11, [.retAddr s, .int (zI i)], [.retAddr (64 + s)], zW K A O t)) (mF_m tb_74 rfl) (if_pos h)) ?_
  refine Eq.trans (mG_st (i := .iload 1) (len := 1) (z := (12, [.retAddr s, .int (zI i)], [.int (zI i), .retAddr (64 + s)], zW K A O t)) (mF_m tb_74 rfl) rfl) ?_
  refine Eq.trans (mC_1 (i := .invokestatic 76) (len := 3) (M' := 76) (k := 2) (mF_m tb_74 rfl) rfl rfl rfl rfl (hh_74 _) rfl hc2) ?_
  have hr := ((zSs_tab ⟨s, h⟩).2.2 ⟨i.toNat, by show i.toNat < 40; have h1 := (zSs_tab ⟨s, h⟩).1; have h2 := zSs_len (s := s); have h1 : (mBy s).length ≤ 40 := h1; omega⟩).2
  refine mG_ir (len := 1) (mF_m tb_74 rfl) rfl ?_
  have hn : ∀ c : Fin 128, narrow .char (.int (zI (c.val : Int))) = .int (zI (c.val : Int)) := by decide +kernel
  have := hn ⟨((zSs s).getD i.toNat 0).toNat, by show ((zSs s).getD i.toNat 0).toNat < 128; have : (zSs s).getD i.toNat 0 < 128 := hr.2; omega⟩
  simp only [Int.toNat_of_nonneg (show 0 ≤ (zSs s).getD i.toNat 0 from hr.1)] at this
  exact this
end STR
