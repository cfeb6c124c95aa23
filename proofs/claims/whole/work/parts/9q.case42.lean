/-! THE LAW, 3: the cases of its switch (by program: wip/gen/gen30.py) -/
section CASE42
variable {ar : Nat → Nat × (Nat → Int32)} {d D t : Nat} {K : Nat → Nat → Option Nat} {A : Nat → Int → Int} {O : Nat → Int64}

set_option maxRecDepth 20000 in
theorem cs_steady {i : Int} {u5 u6 : Value} (hL : (ar 150).1 ≤ 3072) (hi : 0 ≤ i ∧ i + 6 ≤ ((ar 150).1 : Int)) (hq : zQ ar K O t (D + 1) 51 [.ref 0] 340 [.ref 185, .double 0] (fun _ => 0) A) : zNext ar K D i u5 u6 A O t 2869 := by
  obtain ⟨A1, ⟨b, h1, h2, h3⟩ | ⟨E, -, h2, -⟩⟩ := hq
  case inr => exact absurd h2.1 (by simp)
  obtain ⟨A2, h4, -, h6⟩ := h3 O t
  refine ⟨A2, O, t, u5, u6, by omega, h6, ?_⟩
  refine Eq.trans (mG_st (i := (.aload 1)) (len := 1) (z := (2870, [.retAddr 150, .ref 0, .ref 185, .ref 198, .int (zI i), u5, u6], [.ref 0], zW K A O t)) (f0_8 (show 2663 ≤ 2869 by decide) rfl) rfl) ?_
  refine Eq.trans (mG_ok (i := (.invokeinterface 50 0)) (len := 3) (M' := 51) (k := 1) (v := some (.int (zI b))) (w1 := zW K A1 O t) (f0_8 (show 2663 ≤ 2870 by decide) rfl) (mC_if sh_0 rfl rfl rfl) rfl h1) ?_
  show mGd ar (D + 2) 0 2873 [.retAddr 150, .ref 0, .ref 185, .ref 198, .int (zI i), u5, u6] [.int (zI b)] (zW K A1 O t) = _
  refine Eq.trans (mG_st (i := (.aload 2)) (len := 1) (z := (2874, [.retAddr 150, .ref 0, .ref 185, .ref 198, .int (zI i), u5, u6], [.ref 185, .int (zI b)], zW K A1 O t)) (f0_8 (show 2663 ≤ 2873 by decide) rfl) rfl) ?_
  refine Eq.trans (mG_ok (i := (.invokeinterface 51 0)) (len := 3) (M' := 340) (k := 1) (v := some (.int (zI b))) (w1 := zW K A2 O t) (f0_8 (show 2663 ≤ 2874 by decide) rfl) (mC_if sh_185 rfl rfl rfl) rfl h4) ?_
  show mGd ar (D + 2) 0 2877 [.retAddr 150, .ref 0, .ref 185, .ref 198, .int (zI i), u5, u6] [.int (zI b), .int (zI b)] (zW K A2 O t) = _
  refine Eq.trans (mG_st (i := (.if_icmp .eq 160)) (len := 3) (z := (if b = b then 3037 else 2880, [.retAddr 150, .ref 0, .ref 185, .ref 198, .int (zI i), u5, u6], [], zW K A2 O t)) (f0_8 (show 2663 ≤ 2877 by decide) rfl) (zs_ic_eq h2 h2)) ?_
  rw [if_pos rfl]
set_option maxRecDepth 20000 in
theorem cs_log {i : Int} {u5 u6 : Value} (hL : (ar 150).1 ≤ 3072) (hi : 0 ≤ i ∧ i + 6 ≤ ((ar 150).1 : Int)) (hq : zWr ar K O t (D + 1) 212 [.ref 0, .int (zI (zScr ar (i + 1))), .int (zI (zScr ar (i + 2))), .ref 198, .double 0] 342 [.ref 185, .int (zI (zScr ar (i + 1))), .int (zI (zScr ar (i + 2)))] (fun b => (zI b).toInt64) A) : zNext ar K D i u5 u6 A O t 2882 := by
  obtain ⟨k, A1, O1, t1, h1, h2, h3, b, A2, h4, h5, h6, h7⟩ := hq
  refine ⟨A2, O1, t1, .int (zI k), .int (zI b), h2, h6, ?_⟩
  refine Eq.trans (mG_st (i := (.aload 1)) (len := 1) (z := (2883, [.retAddr 150, .ref 0, .ref 185, .ref 198, .int (zI i), u5, u6], [.ref 0], zW K A O t)) (f0_8 (show 2663 ≤ 2882 by decide) rfl) rfl) ?_
  refine Eq.trans (mG_st (i := (.aload 0)) (len := 1) (z := (2884, [.retAddr 150, .ref 0, .ref 185, .ref 198, .int (zI i), u5, u6], [.retAddr 150, .ref 0], zW K A O t)) (f0_8 (show 2663 ≤ 2883 by decide) rfl) rfl) ?_
  refine Eq.trans (mG_st (i := (.iload 4)) (len := 2) (z := (2886, [.retAddr 150, .ref 0, .ref 185, .ref 198, .int (zI i), u5, u6], [.int (zI i), .retAddr 150, .ref 0], zW K A O t)) (f0_8 (show 2663 ≤ 2884 by decide) rfl) rfl) ?_
  refine Eq.trans (mG_st (i := (.iconst 1)) (len := 1) (z := (2887, [.retAddr 150, .ref 0, .ref 185, .ref 198, .int (zI i), u5, u6], [.int (zI 1), .int (zI i), .retAddr 150, .ref 0], zW K A O t)) (f0_8 (show 2663 ≤ 2886 by decide) rfl) rfl) ?_
  refine Eq.trans (mG_st (i := .iadd) (len := 1) (z := (2888, [.retAddr 150, .ref 0, .ref 185, .ref 198, .int (zI i), u5, u6], [.int (zI (i + 1)), .retAddr 150, .ref 0], zW K A O t)) (f0_8 (show 2663 ≤ 2887 by decide) rfl) zs_add) ?_
  refine Eq.trans (mG_st (i := .iaload) (len := 1) (z := (2889, [.retAddr 150, .ref 0, .ref 185, .ref 198, .int (zI i), u5, u6], [.int (zI (zScr ar (i + 1))), .ref 0], zW K A O t)) (f0_8 (show 2663 ≤ 2888 by decide) rfl) (zM_scr (by omega) hL)) ?_
  refine Eq.trans (mG_st (i := (.aload 0)) (len := 1) (z := (2890, [.retAddr 150, .ref 0, .ref 185, .ref 198, .int (zI i), u5, u6], [.retAddr 150, .int (zI (zScr ar (i + 1))), .ref 0], zW K A O t)) (f0_8 (show 2663 ≤ 2889 by decide) rfl) rfl) ?_
  refine Eq.trans (mG_st (i := (.iload 4)) (len := 2) (z := (2892, [.retAddr 150, .ref 0, .ref 185, .ref 198, .int (zI i), u5, u6], [.int (zI i), .retAddr 150, .int (zI (zScr ar (i + 1))), .ref 0], zW K A O t)) (f0_8 (show 2663 ≤ 2890 by decide) rfl) rfl) ?_
  refine Eq.trans (mG_st (i := (.iconst 2)) (len := 1) (z := (2893, [.retAddr 150, .ref 0, .ref 185, .ref 198, .int (zI i), u5, u6], [.int (zI 2), .int (zI i), .retAddr 150, .int (zI (zScr ar (i + 1))), .ref 0], zW K A O t)) (f0_8 (show 2663 ≤ 2892 by decide) rfl) rfl) ?_
  refine Eq.trans (mG_st (i := .iadd) (len := 1) (z := (2894, [.retAddr 150, .ref 0, .ref 185, .ref 198, .int (zI i), u5, u6], [.int (zI (i + 2)), .retAddr 150, .int (zI (zScr ar (i + 1))), .ref 0], zW K A O t)) (f0_8 (show 2663 ≤ 2893 by decide) rfl) zs_add) ?_
  refine Eq.trans (mG_st (i := .iaload) (len := 1) (z := (2895, [.retAddr 150, .ref 0, .ref 185, .ref 198, .int (zI i), u5, u6], [.int (zI (zScr ar (i + 2))), .int (zI (zScr ar (i + 1))), .ref 0], zW K A O t)) (f0_8 (show 2663 ≤ 2894 by decide) rfl) (zM_scr (by omega) hL)) ?_
  refine Eq.trans (mG_st (i := (.aload 3)) (len := 1) (z := (2896, [.retAddr 150, .ref 0, .ref 185, .ref 198, .int (zI i), u5, u6], [.ref 198, .int (zI (zScr ar (i + 2))), .int (zI (zScr ar (i + 1))), .ref 0], zW K A O t)) (f0_8 (show 2663 ≤ 2895 by decide) rfl) rfl) ?_
  refine Eq.trans (mG_ok (i := (.invokestatic 212)) (len := 3) (M' := 212) (k := 4) (v := some (.int (zI k))) (w1 := zW K A1 O1 t1) (f0_8 (show 2663 ≤ 2896 by decide) rfl) rfl rfl h1) ?_
  show mGd ar (D + 2) 0 2899 [.retAddr 150, .ref 0, .ref 185, .ref 198, .int (zI i), u5, u6] [.int (zI k)] (zW K A1 O1 t1) = _
  refine Eq.trans (mG_st (i := (.istore 5)) (len := 2) (z := (2901, [.retAddr 150, .ref 0, .ref 185, .ref 198, .int (zI i), .int (zI k), u6], [], zW K A1 O1 t1)) (f0_8 (show 2663 ≤ 2899 by decide) rfl) rfl) ?_
  refine Eq.trans (mG_st (i := (.aload 2)) (len := 1) (z := (2902, [.retAddr 150, .ref 0, .ref 185, .ref 198, .int (zI i), .int (zI k), u6], [.ref 185], zW K A1 O1 t1)) (f0_8 (show 2663 ≤ 2901 by decide) rfl) rfl) ?_
  refine Eq.trans (mG_st (i := (.aload 0)) (len := 1) (z := (2903, [.retAddr 150, .ref 0, .ref 185, .ref 198, .int (zI i), .int (zI k), u6], [.retAddr 150, .ref 185], zW K A1 O1 t1)) (f0_8 (show 2663 ≤ 2902 by decide) rfl) rfl) ?_
  refine Eq.trans (mG_st (i := (.iload 4)) (len := 2) (z := (2905, [.retAddr 150, .ref 0, .ref 185, .ref 198, .int (zI i), .int (zI k), u6], [.int (zI i), .retAddr 150, .ref 185], zW K A1 O1 t1)) (f0_8 (show 2663 ≤ 2903 by decide) rfl) rfl) ?_
  refine Eq.trans (mG_st (i := (.iconst 1)) (len := 1) (z := (2906, [.retAddr 150, .ref 0, .ref 185, .ref 198, .int (zI i), .int (zI k), u6], [.int (zI 1), .int (zI i), .retAddr 150, .ref 185], zW K A1 O1 t1)) (f0_8 (show 2663 ≤ 2905 by decide) rfl) rfl) ?_
  refine Eq.trans (mG_st (i := .iadd) (len := 1) (z := (2907, [.retAddr 150, .ref 0, .ref 185, .ref 198, .int (zI i), .int (zI k), u6], [.int (zI (i + 1)), .retAddr 150, .ref 185], zW K A1 O1 t1)) (f0_8 (show 2663 ≤ 2906 by decide) rfl) zs_add) ?_
  refine Eq.trans (mG_st (i := .iaload) (len := 1) (z := (2908, [.retAddr 150, .ref 0, .ref 185, .ref 198, .int (zI i), .int (zI k), u6], [.int (zI (zScr ar (i + 1))), .ref 185], zW K A1 O1 t1)) (f0_8 (show 2663 ≤ 2907 by decide) rfl) (zM_scr (by omega) hL)) ?_
  refine Eq.trans (mG_st (i := (.aload 0)) (len := 1) (z := (2909, [.retAddr 150, .ref 0, .ref 185, .ref 198, .int (zI i), .int (zI k), u6], [.retAddr 150, .int (zI (zScr ar (i + 1))), .ref 185], zW K A1 O1 t1)) (f0_8 (show 2663 ≤ 2908 by decide) rfl) rfl) ?_
  refine Eq.trans (mG_st (i := (.iload 4)) (len := 2) (z := (2911, [.retAddr 150, .ref 0, .ref 185, .ref 198, .int (zI i), .int (zI k), u6], [.int (zI i), .retAddr 150, .int (zI (zScr ar (i + 1))), .ref 185], zW K A1 O1 t1)) (f0_8 (show 2663 ≤ 2909 by decide) rfl) rfl) ?_
  refine Eq.trans (mG_st (i := (.iconst 2)) (len := 1) (z := (2912, [.retAddr 150, .ref 0, .ref 185, .ref 198, .int (zI i), .int (zI k), u6], [.int (zI 2), .int (zI i), .retAddr 150, .int (zI (zScr ar (i + 1))), .ref 185], zW K A1 O1 t1)) (f0_8 (show 2663 ≤ 2911 by decide) rfl) rfl) ?_
  refine Eq.trans (mG_st (i := .iadd) (len := 1) (z := (2913, [.retAddr 150, .ref 0, .ref 185, .ref 198, .int (zI i), .int (zI k), u6], [.int (zI (i + 2)), .retAddr 150, .int (zI (zScr ar (i + 1))), .ref 185], zW K A1 O1 t1)) (f0_8 (show 2663 ≤ 2912 by decide) rfl) zs_add) ?_
  refine Eq.trans (mG_st (i := .iaload) (len := 1) (z := (2914, [.retAddr 150, .ref 0, .ref 185, .ref 198, .int (zI i), .int (zI k), u6], [.int (zI (zScr ar (i + 2))), .int (zI (zScr ar (i + 1))), .ref 185], zW K A1 O1 t1)) (f0_8 (show 2663 ≤ 2913 by decide) rfl) (zM_scr (by omega) hL)) ?_
  refine Eq.trans (mG_ok (i := (.invokeinterface 52 2)) (len := 3) (M' := 342) (k := 3) (v := some (.int (zI b))) (w1 := zW K A2 O1 t1) (f0_8 (show 2663 ≤ 2914 by decide) rfl) (mC_if sh_185 rfl rfl rfl) rfl h4) ?_
  show mGd ar (D + 2) 0 2917 [.retAddr 150, .ref 0, .ref 185, .ref 198, .int (zI i), .int (zI k), u6] [.int (zI b)] (zW K A2 O1 t1) = _
  refine Eq.trans (mG_st (i := (.istore 6)) (len := 2) (z := (2919, [.retAddr 150, .ref 0, .ref 185, .ref 198, .int (zI i), .int (zI k), .int (zI b)], [], zW K A2 O1 t1)) (f0_8 (show 2663 ≤ 2917 by decide) rfl) rfl) ?_
  refine Eq.trans (mG_st (i := (.aload 2)) (len := 1) (z := (2920, [.retAddr 150, .ref 0, .ref 185, .ref 198, .int (zI i), .int (zI k), .int (zI b)], [.ref 185], zW K A2 O1 t1)) (f0_8 (show 2663 ≤ 2919 by decide) rfl) rfl) ?_
  refine Eq.trans (mG_ok (i := (.invokeinterface 5 0)) (len := 3) (M' := 215) (k := 1) (v := some (.int (zI (A2 185 0)))) (w1 := zW K A2 O1 t1) (f0_8 (show 2663 ≤ 2920 by decide) rfl) (mC_if sh_185 rfl rfl rfl) rfl i215_0) ?_
  rw [h5]
  show mGd ar (D + 2) 0 2923 [.retAddr 150, .ref 0, .ref 185, .ref 198, .int (zI i), .int (zI k), .int (zI b)] [.int (zI k)] (zW K A2 O1 t1) = _
  refine Eq.trans (mG_st (i := (.iload 5)) (len := 2) (z := (2925, [.retAddr 150, .ref 0, .ref 185, .ref 198, .int (zI i), .int (zI k), .int (zI b)], [.int (zI k), .int (zI k)], zW K A2 O1 t1)) (f0_8 (show 2663 ≤ 2923 by decide) rfl) rfl) ?_
  refine Eq.trans (mG_st (i := (.if_icmp .eq 5)) (len := 3) (z := (if k = k then 2930 else 2928, [.retAddr 150, .ref 0, .ref 185, .ref 198, .int (zI i), .int (zI k), .int (zI b)], [], zW K A2 O1 t1)) (f0_8 (show 2663 ≤ 2925 by decide) rfl) (zs_ic_eq (by omega) (by omega))) ?_
  rw [if_pos rfl]
  show mGd ar (D + 2) 0 2930 [.retAddr 150, .ref 0, .ref 185, .ref 198, .int (zI i), .int (zI k), .int (zI b)] [] (zW K A2 O1 t1) = _
  refine Eq.trans (mG_st (i := (.iload 5)) (len := 2) (z := (2932, [.retAddr 150, .ref 0, .ref 185, .ref 198, .int (zI i), .int (zI k), .int (zI b)], [.int (zI k)], zW K A2 O1 t1)) (f0_8 (show 2663 ≤ 2930 by decide) rfl) rfl) ?_
  refine Eq.trans (mG_st (i := (.ifCond .ne 15)) (len := 3) (z := (if k = 0 then 2935 else 2947, [.retAddr 150, .ref 0, .ref 185, .ref 198, .int (zI i), .int (zI k), .int (zI b)], [], zW K A2 O1 t1)) (f0_8 (show 2663 ≤ 2932 by decide) rfl) (zs_if_ne (by omega))) ?_
  have fin : mGd ar (D + 2) 0 2947 [.retAddr 150, .ref 0, .ref 185, .ref 198, .int (zI i), .int (zI k), .int (zI b)] [] (zW K A2 O1 t1) = mGd ar (D + 2) 0 3037 [.retAddr 150, .ref 0, .ref 185, .ref 198, .int (zI i), .int (zI k), .int (zI b)] [] (zW K A2 O1 t1) :=
    mG_st (i := (.goto 90)) (len := 3) (z := (3037, [.retAddr 150, .ref 0, .ref 185, .ref 198, .int (zI i), .int (zI k), .int (zI b)], [], zW K A2 O1 t1)) (f0_8 (show 2663 ≤ 2947 by decide) rfl) rfl
  by_cases k0 : k = 0
  · rw [if_pos k0]
    obtain ⟨h8, h9⟩ := h7 k0
    show mGd ar (D + 2) 0 2935 [.retAddr 150, .ref 0, .ref 185, .ref 198, .int (zI i), .int (zI k), .int (zI b)] [] (zW K A2 O1 t1) = _
    refine Eq.trans (mG_st (i := (.aload 3)) (len := 1) (z := (2936, [.retAddr 150, .ref 0, .ref 185, .ref 198, .int (zI i), .int (zI k), .int (zI b)], [.ref 198], zW K A2 O1 t1)) (f0_8 (show 2663 ≤ 2935 by decide) rfl) rfl) ?_
    refine Eq.trans (mG_st (i := (.iconst 0)) (len := 1) (z := (2937, [.retAddr 150, .ref 0, .ref 185, .ref 198, .int (zI i), .int (zI k), .int (zI b)], [.int (zI 0), .ref 198], zW K A2 O1 t1)) (f0_8 (show 2663 ≤ 2936 by decide) rfl) rfl) ?_
    refine Eq.trans (mG_st (i := .laload) (len := 1) (z := (2938, [.retAddr 150, .ref 0, .ref 185, .ref 198, .int (zI i), .int (zI k), .int (zI b)], [.long (O1 0)], zW K A2 O1 t1)) (f0_8 (show 2663 ≤ 2937 by decide) rfl) zM_lald) ?_
    refine Eq.trans (mG_st (i := (.iload 6)) (len := 2) (z := (2940, [.retAddr 150, .ref 0, .ref 185, .ref 198, .int (zI i), .int (zI k), .int (zI b)], [.int (zI b), .long (O1 0)], zW K A2 O1 t1)) (f0_8 (show 2663 ≤ 2938 by decide) rfl) rfl) ?_
    refine Eq.trans (mG_st (i := .i2l) (len := 1) (z := (2941, [.retAddr 150, .ref 0, .ref 185, .ref 198, .int (zI i), .int (zI k), .int (zI b)], [.long ((zI b).toInt64), .long (O1 0)], zW K A2 O1 t1)) (f0_8 (show 2663 ≤ 2940 by decide) rfl) rfl) ?_
    show mGd ar (D + 2) 0 2941 [.retAddr 150, .ref 0, .ref 185, .ref 198, .int (zI i), .int (zI k), .int (zI b)] [.long ((zI b).toInt64), .long (O1 0)] (zW K A2 O1 t1) = _
    refine Eq.trans (mG_st (i := .lcmp) (len := 1) (z := (2942, [.retAddr 150, .ref 0, .ref 185, .ref 198, .int (zI i), .int (zI k), .int (zI b)], [.int (lg_cmp (O1 0) ((zI b).toInt64))], zW K A2 O1 t1)) (f0_8 (show 2663 ≤ 2941 by decide) rfl) rfl) ?_
    rw [show O1 0 = (zI b).toInt64 from h8, lg_same]
    exact Eq.trans (mG_st (i := (.ifCond .eq 5)) (len := 3) (z := (2947, [.retAddr 150, .ref 0, .ref 185, .ref 198, .int (zI i), .int (zI k), .int (zI b)], [], zW K A2 O1 t1)) (f0_8 (show 2663 ≤ 2942 by decide) rfl) rfl) fin
  · rw [if_neg k0]; exact fin
set_option maxRecDepth 20000 in
theorem cs_seed {i : Int} {u5 u6 : Value} (hL : (ar 150).1 ≤ 3072) (hi : 0 ≤ i ∧ i + 6 ≤ ((ar 150).1 : Int)) (hq : zQ ar K O t (D + 1) 55 [.ref 0, .int (zI (zScr ar (i + 1))), .double 0] 343 [.ref 185, .int (zI (zScr ar (i + 1))), .double 0] (fun _ => 0) A) : zNext ar K D i u5 u6 A O t 2950 := by
  obtain ⟨A1, ⟨b, h1, h2, h3⟩ | ⟨E, -, h2, -⟩⟩ := hq
  case inr => exact absurd h2.1 (by simp)
  obtain ⟨A2, h4, -, h6⟩ := h3 O t
  refine ⟨A2, O, t, u5, u6, by omega, h6, ?_⟩
  refine Eq.trans (mG_st (i := (.aload 1)) (len := 1) (z := (2951, [.retAddr 150, .ref 0, .ref 185, .ref 198, .int (zI i), u5, u6], [.ref 0], zW K A O t)) (f0_8 (show 2663 ≤ 2950 by decide) rfl) rfl) ?_
  refine Eq.trans (mG_st (i := (.aload 0)) (len := 1) (z := (2952, [.retAddr 150, .ref 0, .ref 185, .ref 198, .int (zI i), u5, u6], [.retAddr 150, .ref 0], zW K A O t)) (f0_8 (show 2663 ≤ 2951 by decide) rfl) rfl) ?_
  refine Eq.trans (mG_st (i := (.iload 4)) (len := 2) (z := (2954, [.retAddr 150, .ref 0, .ref 185, .ref 198, .int (zI i), u5, u6], [.int (zI i), .retAddr 150, .ref 0], zW K A O t)) (f0_8 (show 2663 ≤ 2952 by decide) rfl) rfl) ?_
  refine Eq.trans (mG_st (i := (.iconst 1)) (len := 1) (z := (2955, [.retAddr 150, .ref 0, .ref 185, .ref 198, .int (zI i), u5, u6], [.int (zI 1), .int (zI i), .retAddr 150, .ref 0], zW K A O t)) (f0_8 (show 2663 ≤ 2954 by decide) rfl) rfl) ?_
  refine Eq.trans (mG_st (i := .iadd) (len := 1) (z := (2956, [.retAddr 150, .ref 0, .ref 185, .ref 198, .int (zI i), u5, u6], [.int (zI (i + 1)), .retAddr 150, .ref 0], zW K A O t)) (f0_8 (show 2663 ≤ 2955 by decide) rfl) zs_add) ?_
  refine Eq.trans (mG_st (i := .iaload) (len := 1) (z := (2957, [.retAddr 150, .ref 0, .ref 185, .ref 198, .int (zI i), u5, u6], [.int (zI (zScr ar (i + 1))), .ref 0], zW K A O t)) (f0_8 (show 2663 ≤ 2956 by decide) rfl) (zM_scr (by omega) hL)) ?_
  refine Eq.trans (mG_ok (i := (.invokeinterface 53 1)) (len := 3) (M' := 55) (k := 2) (v := some (.int (zI b))) (w1 := zW K A1 O t) (f0_8 (show 2663 ≤ 2957 by decide) rfl) (mC_if sh_0 rfl rfl rfl) rfl h1) ?_
  show mGd ar (D + 2) 0 2960 [.retAddr 150, .ref 0, .ref 185, .ref 198, .int (zI i), u5, u6] [.int (zI b)] (zW K A1 O t) = _
  refine Eq.trans (mG_st (i := (.aload 2)) (len := 1) (z := (2961, [.retAddr 150, .ref 0, .ref 185, .ref 198, .int (zI i), u5, u6], [.ref 185, .int (zI b)], zW K A1 O t)) (f0_8 (show 2663 ≤ 2960 by decide) rfl) rfl) ?_
  refine Eq.trans (mG_st (i := (.aload 0)) (len := 1) (z := (2962, [.retAddr 150, .ref 0, .ref 185, .ref 198, .int (zI i), u5, u6], [.retAddr 150, .ref 185, .int (zI b)], zW K A1 O t)) (f0_8 (show 2663 ≤ 2961 by decide) rfl) rfl) ?_
  refine Eq.trans (mG_st (i := (.iload 4)) (len := 2) (z := (2964, [.retAddr 150, .ref 0, .ref 185, .ref 198, .int (zI i), u5, u6], [.int (zI i), .retAddr 150, .ref 185, .int (zI b)], zW K A1 O t)) (f0_8 (show 2663 ≤ 2962 by decide) rfl) rfl) ?_
  refine Eq.trans (mG_st (i := (.iconst 1)) (len := 1) (z := (2965, [.retAddr 150, .ref 0, .ref 185, .ref 198, .int (zI i), u5, u6], [.int (zI 1), .int (zI i), .retAddr 150, .ref 185, .int (zI b)], zW K A1 O t)) (f0_8 (show 2663 ≤ 2964 by decide) rfl) rfl) ?_
  refine Eq.trans (mG_st (i := .iadd) (len := 1) (z := (2966, [.retAddr 150, .ref 0, .ref 185, .ref 198, .int (zI i), u5, u6], [.int (zI (i + 1)), .retAddr 150, .ref 185, .int (zI b)], zW K A1 O t)) (f0_8 (show 2663 ≤ 2965 by decide) rfl) zs_add) ?_
  refine Eq.trans (mG_st (i := .iaload) (len := 1) (z := (2967, [.retAddr 150, .ref 0, .ref 185, .ref 198, .int (zI i), u5, u6], [.int (zI (zScr ar (i + 1))), .ref 185, .int (zI b)], zW K A1 O t)) (f0_8 (show 2663 ≤ 2966 by decide) rfl) (zM_scr (by omega) hL)) ?_
  refine Eq.trans (mG_ok (i := (.invokeinterface 54 1)) (len := 3) (M' := 343) (k := 2) (v := some (.int (zI b))) (w1 := zW K A2 O t) (f0_8 (show 2663 ≤ 2967 by decide) rfl) (mC_if sh_185 rfl rfl rfl) rfl h4) ?_
  show mGd ar (D + 2) 0 2970 [.retAddr 150, .ref 0, .ref 185, .ref 198, .int (zI i), u5, u6] [.int (zI b), .int (zI b)] (zW K A2 O t) = _
  refine Eq.trans (mG_st (i := (.if_icmp .eq 67)) (len := 3) (z := (if b = b then 3037 else 2973, [.retAddr 150, .ref 0, .ref 185, .ref 198, .int (zI i), u5, u6], [], zW K A2 O t)) (f0_8 (show 2663 ≤ 2970 by decide) rfl) (zs_ic_eq h2 h2)) ?_
  rw [if_pos rfl]
set_option maxRecDepth 20000 in
theorem cs_undo {i : Int} {u5 u6 : Value} (hL : (ar 150).1 ≤ 3072) (hi : 0 ≤ i ∧ i + 6 ≤ ((ar 150).1 : Int)) (hq : zQ ar K O t (D + 1) 56 [.ref 0] 219 [.ref 185, .double 0] (fun _ => 0) A) : zNext ar K D i u5 u6 A O t 2975 := by
  obtain ⟨A1, ⟨b, h1, h2, h3⟩ | ⟨E, -, h2, -⟩⟩ := hq
  case inr => exact absurd h2.1 (by simp)
  obtain ⟨A2, h4, -, h6⟩ := h3 O t
  refine ⟨A2, O, t, u5, u6, by omega, h6, ?_⟩
  refine Eq.trans (mG_st (i := (.aload 1)) (len := 1) (z := (2976, [.retAddr 150, .ref 0, .ref 185, .ref 198, .int (zI i), u5, u6], [.ref 0], zW K A O t)) (f0_9 (show 2973 ≤ 2975 by decide) rfl) rfl) ?_
  refine Eq.trans (mG_ok (i := (.invokeinterface 55 0)) (len := 3) (M' := 56) (k := 1) (v := some (.int (zI b))) (w1 := zW K A1 O t) (f0_9 (show 2973 ≤ 2976 by decide) rfl) (mC_if sh_0 rfl rfl rfl) rfl h1) ?_
  show mGd ar (D + 2) 0 2979 [.retAddr 150, .ref 0, .ref 185, .ref 198, .int (zI i), u5, u6] [.int (zI b)] (zW K A1 O t) = _
  refine Eq.trans (mG_st (i := (.aload 2)) (len := 1) (z := (2980, [.retAddr 150, .ref 0, .ref 185, .ref 198, .int (zI i), u5, u6], [.ref 185, .int (zI b)], zW K A1 O t)) (f0_9 (show 2973 ≤ 2979 by decide) rfl) rfl) ?_
  refine Eq.trans (mG_ok (i := (.invokeinterface 56 0)) (len := 3) (M' := 219) (k := 1) (v := some (.int (zI b))) (w1 := zW K A2 O t) (f0_9 (show 2973 ≤ 2980 by decide) rfl) (mC_if sh_185 rfl rfl rfl) rfl h4) ?_
  show mGd ar (D + 2) 0 2983 [.retAddr 150, .ref 0, .ref 185, .ref 198, .int (zI i), u5, u6] [.int (zI b), .int (zI b)] (zW K A2 O t) = _
  refine Eq.trans (mG_st (i := (.if_icmp .eq 54)) (len := 3) (z := (if b = b then 3037 else 2986, [.retAddr 150, .ref 0, .ref 185, .ref 198, .int (zI i), u5, u6], [], zW K A2 O t)) (f0_9 (show 2973 ≤ 2983 by decide) rfl) (zs_ic_eq h2 h2)) ?_
  rw [if_pos rfl]
set_option maxRecDepth 20000 in
theorem cs_image {i : Int} {u5 u6 : Value} (hL : (ar 150).1 ≤ 3072) (hi : 0 ≤ i ∧ i + 6 ≤ ((ar 150).1 : Int)) (hq : ∃ A1, mGd ar (D + 1) 58 0 [.ref 0] [] (zW K A O t) = some (.inl none, zW K A1 O t) ∧ ∀ O' t', ∃ A2, mGd ar (D + 1) 217 0 [.ref 185, .double 0] [] (zW K A1 O' t') = some (.inl none, zW K A2 O' t') ∧ A2 185 0 = 0 ∧ zInv A2) : zNext ar K D i u5 u6 A O t 2988 := by
  obtain ⟨A1, h1, h2⟩ := hq
  obtain ⟨A2, h3, -, h4⟩ := h2 O t
  refine ⟨A2, O, t, u5, u6, by omega, h4, ?_⟩
  refine Eq.trans (mG_st (i := (.aload 1)) (len := 1) (z := (2989, [.retAddr 150, .ref 0, .ref 185, .ref 198, .int (zI i), u5, u6], [.ref 0], zW K A O t)) (f0_9 (show 2973 ≤ 2988 by decide) rfl) rfl) ?_
  refine Eq.trans (mG_ok (i := (.invokeinterface 57 0)) (len := 3) (M' := 58) (k := 1) (v := none) (w1 := zW K A1 O t) (f0_9 (show 2973 ≤ 2989 by decide) rfl) (mC_if sh_0 rfl rfl rfl) rfl h1) ?_
  show mGd ar (D + 2) 0 2992 [.retAddr 150, .ref 0, .ref 185, .ref 198, .int (zI i), u5, u6] [] (zW K A1 O t) = _
  refine Eq.trans (mG_st (i := (.aload 2)) (len := 1) (z := (2993, [.retAddr 150, .ref 0, .ref 185, .ref 198, .int (zI i), u5, u6], [.ref 185], zW K A1 O t)) (f0_9 (show 2973 ≤ 2992 by decide) rfl) rfl) ?_
  refine Eq.trans (mG_ok (i := (.invokeinterface 58 0)) (len := 3) (M' := 217) (k := 1) (v := none) (w1 := zW K A2 O t) (f0_9 (show 2973 ≤ 2993 by decide) rfl) (mC_if sh_185 rfl rfl rfl) rfl h3) ?_
  show mGd ar (D + 2) 0 2996 [.retAddr 150, .ref 0, .ref 185, .ref 198, .int (zI i), u5, u6] [] (zW K A2 O t) = _
  exact mG_st (i := (.goto 41)) (len := 3) (z := (3037, [.retAddr 150, .ref 0, .ref 185, .ref 198, .int (zI i), u5, u6], [], zW K A2 O t)) (f0_9 (show 2973 ≤ 2996 by decide) rfl) rfl
set_option maxRecDepth 20000 in
theorem cs_back {i : Int} {u5 u6 : Value} (hL : (ar 150).1 ≤ 3072) (hi : 0 ≤ i ∧ i + 6 ≤ ((ar 150).1 : Int)) (hq : zQ ar K O t (D + 1) 60 [.ref 0] 218 [.ref 185, .double 0] (fun _ => 0) A) : zNext ar K D i u5 u6 A O t 2999 := by
  obtain ⟨A1, ⟨b, h1, h2, h3⟩ | ⟨E, -, h2, -⟩⟩ := hq
  case inr => exact absurd h2.1 (by simp)
  obtain ⟨A2, h4, -, h6⟩ := h3 O t
  refine ⟨A2, O, t, u5, u6, by omega, h6, ?_⟩
  refine Eq.trans (mG_st (i := (.aload 1)) (len := 1) (z := (3000, [.retAddr 150, .ref 0, .ref 185, .ref 198, .int (zI i), u5, u6], [.ref 0], zW K A O t)) (f0_9 (show 2973 ≤ 2999 by decide) rfl) rfl) ?_
  refine Eq.trans (mG_ok (i := (.invokeinterface 59 0)) (len := 3) (M' := 60) (k := 1) (v := some (.int (zI b))) (w1 := zW K A1 O t) (f0_9 (show 2973 ≤ 3000 by decide) rfl) (mC_if sh_0 rfl rfl rfl) rfl h1) ?_
  show mGd ar (D + 2) 0 3003 [.retAddr 150, .ref 0, .ref 185, .ref 198, .int (zI i), u5, u6] [.int (zI b)] (zW K A1 O t) = _
  refine Eq.trans (mG_st (i := (.aload 2)) (len := 1) (z := (3004, [.retAddr 150, .ref 0, .ref 185, .ref 198, .int (zI i), u5, u6], [.ref 185, .int (zI b)], zW K A1 O t)) (f0_9 (show 2973 ≤ 3003 by decide) rfl) rfl) ?_
  refine Eq.trans (mG_ok (i := (.invokeinterface 60 0)) (len := 3) (M' := 218) (k := 1) (v := some (.int (zI b))) (w1 := zW K A2 O t) (f0_9 (show 2973 ≤ 3004 by decide) rfl) (mC_if sh_185 rfl rfl rfl) rfl h4) ?_
  show mGd ar (D + 2) 0 3007 [.retAddr 150, .ref 0, .ref 185, .ref 198, .int (zI i), u5, u6] [.int (zI b), .int (zI b)] (zW K A2 O t) = _
  refine Eq.trans (mG_st (i := (.if_icmp .eq 30)) (len := 3) (z := (if b = b then 3037 else 3010, [.retAddr 150, .ref 0, .ref 185, .ref 198, .int (zI i), u5, u6], [], zW K A2 O t)) (f0_9 (show 2973 ≤ 3007 by decide) rfl) (zs_ic_eq h2 h2)) ?_
  rw [if_pos rfl]
set_option maxRecDepth 20000 in
theorem cs_count {i : Int} {u5 u6 : Value} (hL : (ar 150).1 ≤ 3072) (hi : 0 ≤ i ∧ i + 6 ≤ ((ar 150).1 : Int)) (hq : zQ ar K O t (D + 1) 62 [.ref 0, .int (zI (zScr ar (i + 1)))] 344 [.ref 185, .int (zI (zScr ar (i + 1)))] (fun _ => 0) A) : zNext ar K D i u5 u6 A O t 3012 := by
  obtain ⟨A1, ⟨b, h1, h2, h3⟩ | ⟨E, -, h2, -⟩⟩ := hq
  case inr => exact absurd h2.1 (by simp)
  obtain ⟨A2, h4, -, h6⟩ := h3 O t
  refine ⟨A2, O, t, u5, u6, by omega, h6, ?_⟩
  refine Eq.trans (mG_st (i := (.aload 1)) (len := 1) (z := (3013, [.retAddr 150, .ref 0, .ref 185, .ref 198, .int (zI i), u5, u6], [.ref 0], zW K A O t)) (f0_9 (show 2973 ≤ 3012 by decide) rfl) rfl) ?_
  refine Eq.trans (mG_st (i := (.aload 0)) (len := 1) (z := (3014, [.retAddr 150, .ref 0, .ref 185, .ref 198, .int (zI i), u5, u6], [.retAddr 150, .ref 0], zW K A O t)) (f0_9 (show 2973 ≤ 3013 by decide) rfl) rfl) ?_
  refine Eq.trans (mG_st (i := (.iload 4)) (len := 2) (z := (3016, [.retAddr 150, .ref 0, .ref 185, .ref 198, .int (zI i), u5, u6], [.int (zI i), .retAddr 150, .ref 0], zW K A O t)) (f0_9 (show 2973 ≤ 3014 by decide) rfl) rfl) ?_
  refine Eq.trans (mG_st (i := (.iconst 1)) (len := 1) (z := (3017, [.retAddr 150, .ref 0, .ref 185, .ref 198, .int (zI i), u5, u6], [.int (zI 1), .int (zI i), .retAddr 150, .ref 0], zW K A O t)) (f0_9 (show 2973 ≤ 3016 by decide) rfl) rfl) ?_
  refine Eq.trans (mG_st (i := .iadd) (len := 1) (z := (3018, [.retAddr 150, .ref 0, .ref 185, .ref 198, .int (zI i), u5, u6], [.int (zI (i + 1)), .retAddr 150, .ref 0], zW K A O t)) (f0_9 (show 2973 ≤ 3017 by decide) rfl) zs_add) ?_
  refine Eq.trans (mG_st (i := .iaload) (len := 1) (z := (3019, [.retAddr 150, .ref 0, .ref 185, .ref 198, .int (zI i), u5, u6], [.int (zI (zScr ar (i + 1))), .ref 0], zW K A O t)) (f0_9 (show 2973 ≤ 3018 by decide) rfl) (zM_scr (by omega) hL)) ?_
  refine Eq.trans (mG_ok (i := (.invokeinterface 61 1)) (len := 3) (M' := 62) (k := 2) (v := some (.int (zI b))) (w1 := zW K A1 O t) (f0_9 (show 2973 ≤ 3019 by decide) rfl) (mC_if sh_0 rfl rfl rfl) rfl h1) ?_
  show mGd ar (D + 2) 0 3022 [.retAddr 150, .ref 0, .ref 185, .ref 198, .int (zI i), u5, u6] [.int (zI b)] (zW K A1 O t) = _
  refine Eq.trans (mG_st (i := (.aload 2)) (len := 1) (z := (3023, [.retAddr 150, .ref 0, .ref 185, .ref 198, .int (zI i), u5, u6], [.ref 185, .int (zI b)], zW K A1 O t)) (f0_9 (show 2973 ≤ 3022 by decide) rfl) rfl) ?_
  refine Eq.trans (mG_st (i := (.aload 0)) (len := 1) (z := (3024, [.retAddr 150, .ref 0, .ref 185, .ref 198, .int (zI i), u5, u6], [.retAddr 150, .ref 185, .int (zI b)], zW K A1 O t)) (f0_9 (show 2973 ≤ 3023 by decide) rfl) rfl) ?_
  refine Eq.trans (mG_st (i := (.iload 4)) (len := 2) (z := (3026, [.retAddr 150, .ref 0, .ref 185, .ref 198, .int (zI i), u5, u6], [.int (zI i), .retAddr 150, .ref 185, .int (zI b)], zW K A1 O t)) (f0_9 (show 2973 ≤ 3024 by decide) rfl) rfl) ?_
  refine Eq.trans (mG_st (i := (.iconst 1)) (len := 1) (z := (3027, [.retAddr 150, .ref 0, .ref 185, .ref 198, .int (zI i), u5, u6], [.int (zI 1), .int (zI i), .retAddr 150, .ref 185, .int (zI b)], zW K A1 O t)) (f0_9 (show 2973 ≤ 3026 by decide) rfl) rfl) ?_
  refine Eq.trans (mG_st (i := .iadd) (len := 1) (z := (3028, [.retAddr 150, .ref 0, .ref 185, .ref 198, .int (zI i), u5, u6], [.int (zI (i + 1)), .retAddr 150, .ref 185, .int (zI b)], zW K A1 O t)) (f0_9 (show 2973 ≤ 3027 by decide) rfl) zs_add) ?_
  refine Eq.trans (mG_st (i := .iaload) (len := 1) (z := (3029, [.retAddr 150, .ref 0, .ref 185, .ref 198, .int (zI i), u5, u6], [.int (zI (zScr ar (i + 1))), .ref 185, .int (zI b)], zW K A1 O t)) (f0_9 (show 2973 ≤ 3028 by decide) rfl) (zM_scr (by omega) hL)) ?_
  refine Eq.trans (mG_ok (i := (.invokeinterface 62 1)) (len := 3) (M' := 344) (k := 2) (v := some (.int (zI b))) (w1 := zW K A2 O t) (f0_9 (show 2973 ≤ 3029 by decide) rfl) (mC_if sh_185 rfl rfl rfl) rfl h4) ?_
  show mGd ar (D + 2) 0 3032 [.retAddr 150, .ref 0, .ref 185, .ref 198, .int (zI i), u5, u6] [.int (zI b), .int (zI b)] (zW K A2 O t) = _
  refine Eq.trans (mG_st (i := (.if_icmp .eq 5)) (len := 3) (z := (if b = b then 3037 else 3035, [.retAddr 150, .ref 0, .ref 185, .ref 198, .int (zI i), u5, u6], [], zW K A2 O t)) (f0_9 (show 2973 ≤ 3032 by decide) rfl) (zs_ic_eq h2 h2)) ?_
  rw [if_pos rfl]
end CASE42
