/-! THE LAW, 3: the cases of its switch (by program: wip/gen/gen30.py) -/
section CASE14
variable {ar : Nat → Nat × (Nat → Int32)} {d D t : Nat} {K : Nat → Nat → Option Nat} {A : Nat → Int → Int} {O : Nat → Int64}

set_option maxRecDepth 20000 in
theorem cs_days {i : Int} {u5 u6 : Value} (hL : (ar 150).1 ≤ 3072) (hi : 0 ≤ i ∧ i + 6 ≤ ((ar 150).1 : Int)) (hq : zWr ar K O t (D + 1) 129 [.ref 0, .int (zI (zScr ar (i + 1))), .ref 198, .double 0] 283 [.ref 185, .int (zI (zScr ar (i + 1))), .double 0, .double 0] (fun b => (zI b).toInt64) A) : zNext ar K D i u5 u6 A O t 1074 := by
  obtain ⟨k, A1, O1, t1, h1, h2, h3, b, A2, h4, h5, h6, h7⟩ := hq
  refine ⟨A2, O1, t1, .int (zI k), .int (zI b), h2, h6, ?_⟩
  refine Eq.trans (mG_st (i := (.aload 1)) (len := 1) (z := (1075, [.retAddr 150, .ref 0, .ref 185, .ref 198, .int (zI i), u5, u6], [.ref 0], zW K A O t)) (f0_2 (show 816 ≤ 1074 by decide) rfl) rfl) ?_
  refine Eq.trans (mG_st (i := (.aload 0)) (len := 1) (z := (1076, [.retAddr 150, .ref 0, .ref 185, .ref 198, .int (zI i), u5, u6], [.retAddr 150, .ref 0], zW K A O t)) (f0_2 (show 816 ≤ 1075 by decide) rfl) rfl) ?_
  refine Eq.trans (mG_st (i := (.iload 4)) (len := 2) (z := (1078, [.retAddr 150, .ref 0, .ref 185, .ref 198, .int (zI i), u5, u6], [.int (zI i), .retAddr 150, .ref 0], zW K A O t)) (f0_2 (show 816 ≤ 1076 by decide) rfl) rfl) ?_
  refine Eq.trans (mG_st (i := (.iconst 1)) (len := 1) (z := (1079, [.retAddr 150, .ref 0, .ref 185, .ref 198, .int (zI i), u5, u6], [.int (zI 1), .int (zI i), .retAddr 150, .ref 0], zW K A O t)) (f0_2 (show 816 ≤ 1078 by decide) rfl) rfl) ?_
  refine Eq.trans (mG_st (i := .iadd) (len := 1) (z := (1080, [.retAddr 150, .ref 0, .ref 185, .ref 198, .int (zI i), u5, u6], [.int (zI (i + 1)), .retAddr 150, .ref 0], zW K A O t)) (f0_2 (show 816 ≤ 1079 by decide) rfl) zs_add) ?_
  refine Eq.trans (mG_st (i := .iaload) (len := 1) (z := (1081, [.retAddr 150, .ref 0, .ref 185, .ref 198, .int (zI i), u5, u6], [.int (zI (zScr ar (i + 1))), .ref 0], zW K A O t)) (f0_2 (show 816 ≤ 1080 by decide) rfl) (zM_scr (by omega) hL)) ?_
  refine Eq.trans (mG_st (i := (.aload 3)) (len := 1) (z := (1082, [.retAddr 150, .ref 0, .ref 185, .ref 198, .int (zI i), u5, u6], [.ref 198, .int (zI (zScr ar (i + 1))), .ref 0], zW K A O t)) (f0_2 (show 816 ≤ 1081 by decide) rfl) rfl) ?_
  refine Eq.trans (mG_ok (i := (.invokestatic 129)) (len := 3) (M' := 129) (k := 3) (v := some (.int (zI k))) (w1 := zW K A1 O1 t1) (f0_2 (show 816 ≤ 1082 by decide) rfl) rfl rfl h1) ?_
  show mGd ar (D + 2) 0 1085 [.retAddr 150, .ref 0, .ref 185, .ref 198, .int (zI i), u5, u6] [.int (zI k)] (zW K A1 O1 t1) = _
  refine Eq.trans (mG_st (i := (.istore 5)) (len := 2) (z := (1087, [.retAddr 150, .ref 0, .ref 185, .ref 198, .int (zI i), .int (zI k), u6], [], zW K A1 O1 t1)) (f0_2 (show 816 ≤ 1085 by decide) rfl) rfl) ?_
  refine Eq.trans (mG_st (i := (.aload 2)) (len := 1) (z := (1088, [.retAddr 150, .ref 0, .ref 185, .ref 198, .int (zI i), .int (zI k), u6], [.ref 185], zW K A1 O1 t1)) (f0_2 (show 816 ≤ 1087 by decide) rfl) rfl) ?_
  refine Eq.trans (mG_st (i := (.aload 0)) (len := 1) (z := (1089, [.retAddr 150, .ref 0, .ref 185, .ref 198, .int (zI i), .int (zI k), u6], [.retAddr 150, .ref 185], zW K A1 O1 t1)) (f0_2 (show 816 ≤ 1088 by decide) rfl) rfl) ?_
  refine Eq.trans (mG_st (i := (.iload 4)) (len := 2) (z := (1091, [.retAddr 150, .ref 0, .ref 185, .ref 198, .int (zI i), .int (zI k), u6], [.int (zI i), .retAddr 150, .ref 185], zW K A1 O1 t1)) (f0_2 (show 816 ≤ 1089 by decide) rfl) rfl) ?_
  refine Eq.trans (mG_st (i := (.iconst 1)) (len := 1) (z := (1092, [.retAddr 150, .ref 0, .ref 185, .ref 198, .int (zI i), .int (zI k), u6], [.int (zI 1), .int (zI i), .retAddr 150, .ref 185], zW K A1 O1 t1)) (f0_2 (show 816 ≤ 1091 by decide) rfl) rfl) ?_
  refine Eq.trans (mG_st (i := .iadd) (len := 1) (z := (1093, [.retAddr 150, .ref 0, .ref 185, .ref 198, .int (zI i), .int (zI k), u6], [.int (zI (i + 1)), .retAddr 150, .ref 185], zW K A1 O1 t1)) (f0_2 (show 816 ≤ 1092 by decide) rfl) zs_add) ?_
  refine Eq.trans (mG_st (i := .iaload) (len := 1) (z := (1094, [.retAddr 150, .ref 0, .ref 185, .ref 198, .int (zI i), .int (zI k), u6], [.int (zI (zScr ar (i + 1))), .ref 185], zW K A1 O1 t1)) (f0_2 (show 816 ≤ 1093 by decide) rfl) (zM_scr (by omega) hL)) ?_
  refine Eq.trans (mG_ok (i := (.invokeinterface 18 1)) (len := 3) (M' := 283) (k := 2) (v := some (.int (zI b))) (w1 := zW K A2 O1 t1) (f0_2 (show 816 ≤ 1094 by decide) rfl) (mC_if sh_185 rfl rfl rfl) rfl h4) ?_
  show mGd ar (D + 2) 0 1097 [.retAddr 150, .ref 0, .ref 185, .ref 198, .int (zI i), .int (zI k), u6] [.int (zI b)] (zW K A2 O1 t1) = _
  refine Eq.trans (mG_st (i := (.istore 6)) (len := 2) (z := (1099, [.retAddr 150, .ref 0, .ref 185, .ref 198, .int (zI i), .int (zI k), .int (zI b)], [], zW K A2 O1 t1)) (f0_2 (show 816 ≤ 1097 by decide) rfl) rfl) ?_
  refine Eq.trans (mG_st (i := (.aload 2)) (len := 1) (z := (1100, [.retAddr 150, .ref 0, .ref 185, .ref 198, .int (zI i), .int (zI k), .int (zI b)], [.ref 185], zW K A2 O1 t1)) (f0_2 (show 816 ≤ 1099 by decide) rfl) rfl) ?_
  refine Eq.trans (mG_ok (i := (.invokeinterface 5 0)) (len := 3) (M' := 215) (k := 1) (v := some (.int (zI (A2 185 0)))) (w1 := zW K A2 O1 t1) (f0_2 (show 816 ≤ 1100 by decide) rfl) (mC_if sh_185 rfl rfl rfl) rfl i215_0) ?_
  rw [h5]
  show mGd ar (D + 2) 0 1103 [.retAddr 150, .ref 0, .ref 185, .ref 198, .int (zI i), .int (zI k), .int (zI b)] [.int (zI k)] (zW K A2 O1 t1) = _
  refine Eq.trans (mG_st (i := (.iload 5)) (len := 2) (z := (1105, [.retAddr 150, .ref 0, .ref 185, .ref 198, .int (zI i), .int (zI k), .int (zI b)], [.int (zI k), .int (zI k)], zW K A2 O1 t1)) (f0_2 (show 816 ≤ 1103 by decide) rfl) rfl) ?_
  refine Eq.trans (mG_st (i := (.if_icmp .eq 5)) (len := 3) (z := (if k = k then 1110 else 1108, [.retAddr 150, .ref 0, .ref 185, .ref 198, .int (zI i), .int (zI k), .int (zI b)], [], zW K A2 O1 t1)) (f0_2 (show 816 ≤ 1105 by decide) rfl) (zs_ic_eq (by omega) (by omega))) ?_
  rw [if_pos rfl]
  show mGd ar (D + 2) 0 1110 [.retAddr 150, .ref 0, .ref 185, .ref 198, .int (zI i), .int (zI k), .int (zI b)] [] (zW K A2 O1 t1) = _
  refine Eq.trans (mG_st (i := (.iload 5)) (len := 2) (z := (1112, [.retAddr 150, .ref 0, .ref 185, .ref 198, .int (zI i), .int (zI k), .int (zI b)], [.int (zI k)], zW K A2 O1 t1)) (f0_2 (show 816 ≤ 1110 by decide) rfl) rfl) ?_
  refine Eq.trans (mG_st (i := (.ifCond .ne 15)) (len := 3) (z := (if k = 0 then 1115 else 1127, [.retAddr 150, .ref 0, .ref 185, .ref 198, .int (zI i), .int (zI k), .int (zI b)], [], zW K A2 O1 t1)) (f0_2 (show 816 ≤ 1112 by decide) rfl) (zs_if_ne (by omega))) ?_
  have fin : mGd ar (D + 2) 0 1127 [.retAddr 150, .ref 0, .ref 185, .ref 198, .int (zI i), .int (zI k), .int (zI b)] [] (zW K A2 O1 t1) = mGd ar (D + 2) 0 3037 [.retAddr 150, .ref 0, .ref 185, .ref 198, .int (zI i), .int (zI k), .int (zI b)] [] (zW K A2 O1 t1) :=
    mG_st (i := (.goto 1910)) (len := 3) (z := (3037, [.retAddr 150, .ref 0, .ref 185, .ref 198, .int (zI i), .int (zI k), .int (zI b)], [], zW K A2 O1 t1)) (f0_2 (show 816 ≤ 1127 by decide) rfl) rfl
  by_cases k0 : k = 0
  · rw [if_pos k0]
    obtain ⟨h8, h9⟩ := h7 k0
    show mGd ar (D + 2) 0 1115 [.retAddr 150, .ref 0, .ref 185, .ref 198, .int (zI i), .int (zI k), .int (zI b)] [] (zW K A2 O1 t1) = _
    refine Eq.trans (mG_st (i := (.aload 3)) (len := 1) (z := (1116, [.retAddr 150, .ref 0, .ref 185, .ref 198, .int (zI i), .int (zI k), .int (zI b)], [.ref 198], zW K A2 O1 t1)) (f0_2 (show 816 ≤ 1115 by decide) rfl) rfl) ?_
    refine Eq.trans (mG_st (i := (.iconst 0)) (len := 1) (z := (1117, [.retAddr 150, .ref 0, .ref 185, .ref 198, .int (zI i), .int (zI k), .int (zI b)], [.int (zI 0), .ref 198], zW K A2 O1 t1)) (f0_2 (show 816 ≤ 1116 by decide) rfl) rfl) ?_
    refine Eq.trans (mG_st (i := .laload) (len := 1) (z := (1118, [.retAddr 150, .ref 0, .ref 185, .ref 198, .int (zI i), .int (zI k), .int (zI b)], [.long (O1 0)], zW K A2 O1 t1)) (f0_2 (show 816 ≤ 1117 by decide) rfl) zM_lald) ?_
    refine Eq.trans (mG_st (i := (.iload 6)) (len := 2) (z := (1120, [.retAddr 150, .ref 0, .ref 185, .ref 198, .int (zI i), .int (zI k), .int (zI b)], [.int (zI b), .long (O1 0)], zW K A2 O1 t1)) (f0_2 (show 816 ≤ 1118 by decide) rfl) rfl) ?_
    refine Eq.trans (mG_st (i := .i2l) (len := 1) (z := (1121, [.retAddr 150, .ref 0, .ref 185, .ref 198, .int (zI i), .int (zI k), .int (zI b)], [.long ((zI b).toInt64), .long (O1 0)], zW K A2 O1 t1)) (f0_2 (show 816 ≤ 1120 by decide) rfl) rfl) ?_
    show mGd ar (D + 2) 0 1121 [.retAddr 150, .ref 0, .ref 185, .ref 198, .int (zI i), .int (zI k), .int (zI b)] [.long ((zI b).toInt64), .long (O1 0)] (zW K A2 O1 t1) = _
    refine Eq.trans (mG_st (i := .lcmp) (len := 1) (z := (1122, [.retAddr 150, .ref 0, .ref 185, .ref 198, .int (zI i), .int (zI k), .int (zI b)], [.int (lg_cmp (O1 0) ((zI b).toInt64))], zW K A2 O1 t1)) (f0_2 (show 816 ≤ 1121 by decide) rfl) rfl) ?_
    rw [show O1 0 = (zI b).toInt64 from h8, lg_same]
    exact Eq.trans (mG_st (i := (.ifCond .eq 5)) (len := 3) (z := (1127, [.retAddr 150, .ref 0, .ref 185, .ref 198, .int (zI i), .int (zI k), .int (zI b)], [], zW K A2 O1 t1)) (f0_2 (show 816 ≤ 1122 by decide) rfl) rfl) fin
  · rw [if_neg k0]; exact fin
set_option maxRecDepth 20000 in
theorem cs_ahead {i : Int} {u5 u6 : Value} (hL : (ar 150).1 ≤ 3072) (hi : 0 ≤ i ∧ i + 6 ≤ ((ar 150).1 : Int)) (hq : zWr ar K O t (D + 1) 133 [.ref 0, .int (zI (zScr ar (i + 1))), .int (zI (zScr ar (i + 2))), .int (zI (zScr ar (i + 3))), .ref 198, .double 0] 290 [.ref 185, .int (zI (zScr ar (i + 1))), .int (zI (zScr ar (i + 2))), .int (zI (zScr ar (i + 3))), .double 0] (fun b => (zI b).toInt64) A) : zNext ar K D i u5 u6 A O t 1130 := by
  obtain ⟨k, A1, O1, t1, h1, h2, h3, b, A2, h4, h5, h6, h7⟩ := hq
  refine ⟨A2, O1, t1, .int (zI k), .int (zI b), h2, h6, ?_⟩
  refine Eq.trans (mG_st (i := (.aload 1)) (len := 1) (z := (1131, [.retAddr 150, .ref 0, .ref 185, .ref 198, .int (zI i), u5, u6], [.ref 0], zW K A O t)) (f0_2 (show 816 ≤ 1130 by decide) rfl) rfl) ?_
  refine Eq.trans (mG_st (i := (.aload 0)) (len := 1) (z := (1132, [.retAddr 150, .ref 0, .ref 185, .ref 198, .int (zI i), u5, u6], [.retAddr 150, .ref 0], zW K A O t)) (f0_2 (show 816 ≤ 1131 by decide) rfl) rfl) ?_
  refine Eq.trans (mG_st (i := (.iload 4)) (len := 2) (z := (1134, [.retAddr 150, .ref 0, .ref 185, .ref 198, .int (zI i), u5, u6], [.int (zI i), .retAddr 150, .ref 0], zW K A O t)) (f0_2 (show 816 ≤ 1132 by decide) rfl) rfl) ?_
  refine Eq.trans (mG_st (i := (.iconst 1)) (len := 1) (z := (1135, [.retAddr 150, .ref 0, .ref 185, .ref 198, .int (zI i), u5, u6], [.int (zI 1), .int (zI i), .retAddr 150, .ref 0], zW K A O t)) (f0_3 (show 1134 ≤ 1134 by decide) rfl) rfl) ?_
  refine Eq.trans (mG_st (i := .iadd) (len := 1) (z := (1136, [.retAddr 150, .ref 0, .ref 185, .ref 198, .int (zI i), u5, u6], [.int (zI (i + 1)), .retAddr 150, .ref 0], zW K A O t)) (f0_3 (show 1134 ≤ 1135 by decide) rfl) zs_add) ?_
  refine Eq.trans (mG_st (i := .iaload) (len := 1) (z := (1137, [.retAddr 150, .ref 0, .ref 185, .ref 198, .int (zI i), u5, u6], [.int (zI (zScr ar (i + 1))), .ref 0], zW K A O t)) (f0_3 (show 1134 ≤ 1136 by decide) rfl) (zM_scr (by omega) hL)) ?_
  refine Eq.trans (mG_st (i := (.aload 0)) (len := 1) (z := (1138, [.retAddr 150, .ref 0, .ref 185, .ref 198, .int (zI i), u5, u6], [.retAddr 150, .int (zI (zScr ar (i + 1))), .ref 0], zW K A O t)) (f0_3 (show 1134 ≤ 1137 by decide) rfl) rfl) ?_
  refine Eq.trans (mG_st (i := (.iload 4)) (len := 2) (z := (1140, [.retAddr 150, .ref 0, .ref 185, .ref 198, .int (zI i), u5, u6], [.int (zI i), .retAddr 150, .int (zI (zScr ar (i + 1))), .ref 0], zW K A O t)) (f0_3 (show 1134 ≤ 1138 by decide) rfl) rfl) ?_
  refine Eq.trans (mG_st (i := (.iconst 2)) (len := 1) (z := (1141, [.retAddr 150, .ref 0, .ref 185, .ref 198, .int (zI i), u5, u6], [.int (zI 2), .int (zI i), .retAddr 150, .int (zI (zScr ar (i + 1))), .ref 0], zW K A O t)) (f0_3 (show 1134 ≤ 1140 by decide) rfl) rfl) ?_
  refine Eq.trans (mG_st (i := .iadd) (len := 1) (z := (1142, [.retAddr 150, .ref 0, .ref 185, .ref 198, .int (zI i), u5, u6], [.int (zI (i + 2)), .retAddr 150, .int (zI (zScr ar (i + 1))), .ref 0], zW K A O t)) (f0_3 (show 1134 ≤ 1141 by decide) rfl) zs_add) ?_
  refine Eq.trans (mG_st (i := .iaload) (len := 1) (z := (1143, [.retAddr 150, .ref 0, .ref 185, .ref 198, .int (zI i), u5, u6], [.int (zI (zScr ar (i + 2))), .int (zI (zScr ar (i + 1))), .ref 0], zW K A O t)) (f0_3 (show 1134 ≤ 1142 by decide) rfl) (zM_scr (by omega) hL)) ?_
  refine Eq.trans (mG_st (i := (.aload 0)) (len := 1) (z := (1144, [.retAddr 150, .ref 0, .ref 185, .ref 198, .int (zI i), u5, u6], [.retAddr 150, .int (zI (zScr ar (i + 2))), .int (zI (zScr ar (i + 1))), .ref 0], zW K A O t)) (f0_3 (show 1134 ≤ 1143 by decide) rfl) rfl) ?_
  refine Eq.trans (mG_st (i := (.iload 4)) (len := 2) (z := (1146, [.retAddr 150, .ref 0, .ref 185, .ref 198, .int (zI i), u5, u6], [.int (zI i), .retAddr 150, .int (zI (zScr ar (i + 2))), .int (zI (zScr ar (i + 1))), .ref 0], zW K A O t)) (f0_3 (show 1134 ≤ 1144 by decide) rfl) rfl) ?_
  refine Eq.trans (mG_st (i := (.iconst 3)) (len := 1) (z := (1147, [.retAddr 150, .ref 0, .ref 185, .ref 198, .int (zI i), u5, u6], [.int (zI 3), .int (zI i), .retAddr 150, .int (zI (zScr ar (i + 2))), .int (zI (zScr ar (i + 1))), .ref 0], zW K A O t)) (f0_3 (show 1134 ≤ 1146 by decide) rfl) rfl) ?_
  refine Eq.trans (mG_st (i := .iadd) (len := 1) (z := (1148, [.retAddr 150, .ref 0, .ref 185, .ref 198, .int (zI i), u5, u6], [.int (zI (i + 3)), .retAddr 150, .int (zI (zScr ar (i + 2))), .int (zI (zScr ar (i + 1))), .ref 0], zW K A O t)) (f0_3 (show 1134 ≤ 1147 by decide) rfl) zs_add) ?_
  refine Eq.trans (mG_st (i := .iaload) (len := 1) (z := (1149, [.retAddr 150, .ref 0, .ref 185, .ref 198, .int (zI i), u5, u6], [.int (zI (zScr ar (i + 3))), .int (zI (zScr ar (i + 2))), .int (zI (zScr ar (i + 1))), .ref 0], zW K A O t)) (f0_3 (show 1134 ≤ 1148 by decide) rfl) (zM_scr (by omega) hL)) ?_
  refine Eq.trans (mG_st (i := (.aload 3)) (len := 1) (z := (1150, [.retAddr 150, .ref 0, .ref 185, .ref 198, .int (zI i), u5, u6], [.ref 198, .int (zI (zScr ar (i + 3))), .int (zI (zScr ar (i + 2))), .int (zI (zScr ar (i + 1))), .ref 0], zW K A O t)) (f0_3 (show 1134 ≤ 1149 by decide) rfl) rfl) ?_
  refine Eq.trans (mG_ok (i := (.invokestatic 133)) (len := 3) (M' := 133) (k := 5) (v := some (.int (zI k))) (w1 := zW K A1 O1 t1) (f0_3 (show 1134 ≤ 1150 by decide) rfl) rfl rfl h1) ?_
  show mGd ar (D + 2) 0 1153 [.retAddr 150, .ref 0, .ref 185, .ref 198, .int (zI i), u5, u6] [.int (zI k)] (zW K A1 O1 t1) = _
  refine Eq.trans (mG_st (i := (.istore 5)) (len := 2) (z := (1155, [.retAddr 150, .ref 0, .ref 185, .ref 198, .int (zI i), .int (zI k), u6], [], zW K A1 O1 t1)) (f0_3 (show 1134 ≤ 1153 by decide) rfl) rfl) ?_
  refine Eq.trans (mG_st (i := (.aload 2)) (len := 1) (z := (1156, [.retAddr 150, .ref 0, .ref 185, .ref 198, .int (zI i), .int (zI k), u6], [.ref 185], zW K A1 O1 t1)) (f0_3 (show 1134 ≤ 1155 by decide) rfl) rfl) ?_
  refine Eq.trans (mG_st (i := (.aload 0)) (len := 1) (z := (1157, [.retAddr 150, .ref 0, .ref 185, .ref 198, .int (zI i), .int (zI k), u6], [.retAddr 150, .ref 185], zW K A1 O1 t1)) (f0_3 (show 1134 ≤ 1156 by decide) rfl) rfl) ?_
  refine Eq.trans (mG_st (i := (.iload 4)) (len := 2) (z := (1159, [.retAddr 150, .ref 0, .ref 185, .ref 198, .int (zI i), .int (zI k), u6], [.int (zI i), .retAddr 150, .ref 185], zW K A1 O1 t1)) (f0_3 (show 1134 ≤ 1157 by decide) rfl) rfl) ?_
  refine Eq.trans (mG_st (i := (.iconst 1)) (len := 1) (z := (1160, [.retAddr 150, .ref 0, .ref 185, .ref 198, .int (zI i), .int (zI k), u6], [.int (zI 1), .int (zI i), .retAddr 150, .ref 185], zW K A1 O1 t1)) (f0_3 (show 1134 ≤ 1159 by decide) rfl) rfl) ?_
  refine Eq.trans (mG_st (i := .iadd) (len := 1) (z := (1161, [.retAddr 150, .ref 0, .ref 185, .ref 198, .int (zI i), .int (zI k), u6], [.int (zI (i + 1)), .retAddr 150, .ref 185], zW K A1 O1 t1)) (f0_3 (show 1134 ≤ 1160 by decide) rfl) zs_add) ?_
  refine Eq.trans (mG_st (i := .iaload) (len := 1) (z := (1162, [.retAddr 150, .ref 0, .ref 185, .ref 198, .int (zI i), .int (zI k), u6], [.int (zI (zScr ar (i + 1))), .ref 185], zW K A1 O1 t1)) (f0_3 (show 1134 ≤ 1161 by decide) rfl) (zM_scr (by omega) hL)) ?_
  refine Eq.trans (mG_st (i := (.aload 0)) (len := 1) (z := (1163, [.retAddr 150, .ref 0, .ref 185, .ref 198, .int (zI i), .int (zI k), u6], [.retAddr 150, .int (zI (zScr ar (i + 1))), .ref 185], zW K A1 O1 t1)) (f0_3 (show 1134 ≤ 1162 by decide) rfl) rfl) ?_
  refine Eq.trans (mG_st (i := (.iload 4)) (len := 2) (z := (1165, [.retAddr 150, .ref 0, .ref 185, .ref 198, .int (zI i), .int (zI k), u6], [.int (zI i), .retAddr 150, .int (zI (zScr ar (i + 1))), .ref 185], zW K A1 O1 t1)) (f0_3 (show 1134 ≤ 1163 by decide) rfl) rfl) ?_
  refine Eq.trans (mG_st (i := (.iconst 2)) (len := 1) (z := (1166, [.retAddr 150, .ref 0, .ref 185, .ref 198, .int (zI i), .int (zI k), u6], [.int (zI 2), .int (zI i), .retAddr 150, .int (zI (zScr ar (i + 1))), .ref 185], zW K A1 O1 t1)) (f0_3 (show 1134 ≤ 1165 by decide) rfl) rfl) ?_
  refine Eq.trans (mG_st (i := .iadd) (len := 1) (z := (1167, [.retAddr 150, .ref 0, .ref 185, .ref 198, .int (zI i), .int (zI k), u6], [.int (zI (i + 2)), .retAddr 150, .int (zI (zScr ar (i + 1))), .ref 185], zW K A1 O1 t1)) (f0_3 (show 1134 ≤ 1166 by decide) rfl) zs_add) ?_
  refine Eq.trans (mG_st (i := .iaload) (len := 1) (z := (1168, [.retAddr 150, .ref 0, .ref 185, .ref 198, .int (zI i), .int (zI k), u6], [.int (zI (zScr ar (i + 2))), .int (zI (zScr ar (i + 1))), .ref 185], zW K A1 O1 t1)) (f0_3 (show 1134 ≤ 1167 by decide) rfl) (zM_scr (by omega) hL)) ?_
  refine Eq.trans (mG_st (i := (.aload 0)) (len := 1) (z := (1169, [.retAddr 150, .ref 0, .ref 185, .ref 198, .int (zI i), .int (zI k), u6], [.retAddr 150, .int (zI (zScr ar (i + 2))), .int (zI (zScr ar (i + 1))), .ref 185], zW K A1 O1 t1)) (f0_3 (show 1134 ≤ 1168 by decide) rfl) rfl) ?_
  refine Eq.trans (mG_st (i := (.iload 4)) (len := 2) (z := (1171, [.retAddr 150, .ref 0, .ref 185, .ref 198, .int (zI i), .int (zI k), u6], [.int (zI i), .retAddr 150, .int (zI (zScr ar (i + 2))), .int (zI (zScr ar (i + 1))), .ref 185], zW K A1 O1 t1)) (f0_3 (show 1134 ≤ 1169 by decide) rfl) rfl) ?_
  refine Eq.trans (mG_st (i := (.iconst 3)) (len := 1) (z := (1172, [.retAddr 150, .ref 0, .ref 185, .ref 198, .int (zI i), .int (zI k), u6], [.int (zI 3), .int (zI i), .retAddr 150, .int (zI (zScr ar (i + 2))), .int (zI (zScr ar (i + 1))), .ref 185], zW K A1 O1 t1)) (f0_3 (show 1134 ≤ 1171 by decide) rfl) rfl) ?_
  refine Eq.trans (mG_st (i := .iadd) (len := 1) (z := (1173, [.retAddr 150, .ref 0, .ref 185, .ref 198, .int (zI i), .int (zI k), u6], [.int (zI (i + 3)), .retAddr 150, .int (zI (zScr ar (i + 2))), .int (zI (zScr ar (i + 1))), .ref 185], zW K A1 O1 t1)) (f0_3 (show 1134 ≤ 1172 by decide) rfl) zs_add) ?_
  refine Eq.trans (mG_st (i := .iaload) (len := 1) (z := (1174, [.retAddr 150, .ref 0, .ref 185, .ref 198, .int (zI i), .int (zI k), u6], [.int (zI (zScr ar (i + 3))), .int (zI (zScr ar (i + 2))), .int (zI (zScr ar (i + 1))), .ref 185], zW K A1 O1 t1)) (f0_3 (show 1134 ≤ 1173 by decide) rfl) (zM_scr (by omega) hL)) ?_
  refine Eq.trans (mG_ok (i := (.invokeinterface 19 3)) (len := 3) (M' := 290) (k := 4) (v := some (.int (zI b))) (w1 := zW K A2 O1 t1) (f0_3 (show 1134 ≤ 1174 by decide) rfl) (mC_if sh_185 rfl rfl rfl) rfl h4) ?_
  show mGd ar (D + 2) 0 1177 [.retAddr 150, .ref 0, .ref 185, .ref 198, .int (zI i), .int (zI k), u6] [.int (zI b)] (zW K A2 O1 t1) = _
  refine Eq.trans (mG_st (i := (.istore 6)) (len := 2) (z := (1179, [.retAddr 150, .ref 0, .ref 185, .ref 198, .int (zI i), .int (zI k), .int (zI b)], [], zW K A2 O1 t1)) (f0_3 (show 1134 ≤ 1177 by decide) rfl) rfl) ?_
  refine Eq.trans (mG_st (i := (.aload 2)) (len := 1) (z := (1180, [.retAddr 150, .ref 0, .ref 185, .ref 198, .int (zI i), .int (zI k), .int (zI b)], [.ref 185], zW K A2 O1 t1)) (f0_3 (show 1134 ≤ 1179 by decide) rfl) rfl) ?_
  refine Eq.trans (mG_ok (i := (.invokeinterface 5 0)) (len := 3) (M' := 215) (k := 1) (v := some (.int (zI (A2 185 0)))) (w1 := zW K A2 O1 t1) (f0_3 (show 1134 ≤ 1180 by decide) rfl) (mC_if sh_185 rfl rfl rfl) rfl i215_0) ?_
  rw [h5]
  show mGd ar (D + 2) 0 1183 [.retAddr 150, .ref 0, .ref 185, .ref 198, .int (zI i), .int (zI k), .int (zI b)] [.int (zI k)] (zW K A2 O1 t1) = _
  refine Eq.trans (mG_st (i := (.iload 5)) (len := 2) (z := (1185, [.retAddr 150, .ref 0, .ref 185, .ref 198, .int (zI i), .int (zI k), .int (zI b)], [.int (zI k), .int (zI k)], zW K A2 O1 t1)) (f0_3 (show 1134 ≤ 1183 by decide) rfl) rfl) ?_
  refine Eq.trans (mG_st (i := (.if_icmp .eq 5)) (len := 3) (z := (if k = k then 1190 else 1188, [.retAddr 150, .ref 0, .ref 185, .ref 198, .int (zI i), .int (zI k), .int (zI b)], [], zW K A2 O1 t1)) (f0_3 (show 1134 ≤ 1185 by decide) rfl) (zs_ic_eq (by omega) (by omega))) ?_
  rw [if_pos rfl]
  show mGd ar (D + 2) 0 1190 [.retAddr 150, .ref 0, .ref 185, .ref 198, .int (zI i), .int (zI k), .int (zI b)] [] (zW K A2 O1 t1) = _
  refine Eq.trans (mG_st (i := (.iload 5)) (len := 2) (z := (1192, [.retAddr 150, .ref 0, .ref 185, .ref 198, .int (zI i), .int (zI k), .int (zI b)], [.int (zI k)], zW K A2 O1 t1)) (f0_3 (show 1134 ≤ 1190 by decide) rfl) rfl) ?_
  refine Eq.trans (mG_st (i := (.ifCond .ne 15)) (len := 3) (z := (if k = 0 then 1195 else 1207, [.retAddr 150, .ref 0, .ref 185, .ref 198, .int (zI i), .int (zI k), .int (zI b)], [], zW K A2 O1 t1)) (f0_3 (show 1134 ≤ 1192 by decide) rfl) (zs_if_ne (by omega))) ?_
  have fin : mGd ar (D + 2) 0 1207 [.retAddr 150, .ref 0, .ref 185, .ref 198, .int (zI i), .int (zI k), .int (zI b)] [] (zW K A2 O1 t1) = mGd ar (D + 2) 0 3037 [.retAddr 150, .ref 0, .ref 185, .ref 198, .int (zI i), .int (zI k), .int (zI b)] [] (zW K A2 O1 t1) :=
    mG_st (i := (.goto 1830)) (len := 3) (z := (3037, [.retAddr 150, .ref 0, .ref 185, .ref 198, .int (zI i), .int (zI k), .int (zI b)], [], zW K A2 O1 t1)) (f0_3 (show 1134 ≤ 1207 by decide) rfl) rfl
  by_cases k0 : k = 0
  · rw [if_pos k0]
    obtain ⟨h8, h9⟩ := h7 k0
    show mGd ar (D + 2) 0 1195 [.retAddr 150, .ref 0, .ref 185, .ref 198, .int (zI i), .int (zI k), .int (zI b)] [] (zW K A2 O1 t1) = _
    refine Eq.trans (mG_st (i := (.aload 3)) (len := 1) (z := (1196, [.retAddr 150, .ref 0, .ref 185, .ref 198, .int (zI i), .int (zI k), .int (zI b)], [.ref 198], zW K A2 O1 t1)) (f0_3 (show 1134 ≤ 1195 by decide) rfl) rfl) ?_
    refine Eq.trans (mG_st (i := (.iconst 0)) (len := 1) (z := (1197, [.retAddr 150, .ref 0, .ref 185, .ref 198, .int (zI i), .int (zI k), .int (zI b)], [.int (zI 0), .ref 198], zW K A2 O1 t1)) (f0_3 (show 1134 ≤ 1196 by decide) rfl) rfl) ?_
    refine Eq.trans (mG_st (i := .laload) (len := 1) (z := (1198, [.retAddr 150, .ref 0, .ref 185, .ref 198, .int (zI i), .int (zI k), .int (zI b)], [.long (O1 0)], zW K A2 O1 t1)) (f0_3 (show 1134 ≤ 1197 by decide) rfl) zM_lald) ?_
    refine Eq.trans (mG_st (i := (.iload 6)) (len := 2) (z := (1200, [.retAddr 150, .ref 0, .ref 185, .ref 198, .int (zI i), .int (zI k), .int (zI b)], [.int (zI b), .long (O1 0)], zW K A2 O1 t1)) (f0_3 (show 1134 ≤ 1198 by decide) rfl) rfl) ?_
    refine Eq.trans (mG_st (i := .i2l) (len := 1) (z := (1201, [.retAddr 150, .ref 0, .ref 185, .ref 198, .int (zI i), .int (zI k), .int (zI b)], [.long ((zI b).toInt64), .long (O1 0)], zW K A2 O1 t1)) (f0_3 (show 1134 ≤ 1200 by decide) rfl) rfl) ?_
    show mGd ar (D + 2) 0 1201 [.retAddr 150, .ref 0, .ref 185, .ref 198, .int (zI i), .int (zI k), .int (zI b)] [.long ((zI b).toInt64), .long (O1 0)] (zW K A2 O1 t1) = _
    refine Eq.trans (mG_st (i := .lcmp) (len := 1) (z := (1202, [.retAddr 150, .ref 0, .ref 185, .ref 198, .int (zI i), .int (zI k), .int (zI b)], [.int (lg_cmp (O1 0) ((zI b).toInt64))], zW K A2 O1 t1)) (f0_3 (show 1134 ≤ 1201 by decide) rfl) rfl) ?_
    rw [show O1 0 = (zI b).toInt64 from h8, lg_same]
    exact Eq.trans (mG_st (i := (.ifCond .eq 5)) (len := 3) (z := (1207, [.retAddr 150, .ref 0, .ref 185, .ref 198, .int (zI i), .int (zI k), .int (zI b)], [], zW K A2 O1 t1)) (f0_3 (show 1134 ≤ 1202 by decide) rfl) rfl) fin
  · rw [if_neg k0]; exact fin
set_option maxRecDepth 20000 in
theorem cs_settles {i : Int} {u5 u6 : Value} (hL : (ar 150).1 ≤ 3072) (hi : 0 ≤ i ∧ i + 6 ≤ ((ar 150).1 : Int)) (hq : zQ ar K O t (D + 1) 18 [.ref 0, .double 0, .double 0, .double 0] 294 [.ref 185, .double 0, .double 0] (fun _ => 0) A) : zNext ar K D i u5 u6 A O t 1210 := by
  obtain ⟨A1, ⟨b, h1, h2, h3⟩ | ⟨E, -, h2, -⟩⟩ := hq
  case inr => exact absurd h2.1 (by simp)
  obtain ⟨A2, h4, -, h6⟩ := h3 O t
  refine ⟨A2, O, t, u5, u6, by omega, h6, ?_⟩
  refine Eq.trans (mG_st (i := (.aload 1)) (len := 1) (z := (1211, [.retAddr 150, .ref 0, .ref 185, .ref 198, .int (zI i), u5, u6], [.ref 0], zW K A O t)) (f0_3 (show 1134 ≤ 1210 by decide) rfl) rfl) ?_
  refine Eq.trans (mG_ok (i := (.invokeinterface 20 0)) (len := 3) (M' := 18) (k := 1) (v := some (.int (zI b))) (w1 := zW K A1 O t) (f0_3 (show 1134 ≤ 1211 by decide) rfl) (mC_if sh_0 rfl rfl rfl) rfl h1) ?_
  show mGd ar (D + 2) 0 1214 [.retAddr 150, .ref 0, .ref 185, .ref 198, .int (zI i), u5, u6] [.int (zI b)] (zW K A1 O t) = _
  refine Eq.trans (mG_st (i := (.aload 2)) (len := 1) (z := (1215, [.retAddr 150, .ref 0, .ref 185, .ref 198, .int (zI i), u5, u6], [.ref 185, .int (zI b)], zW K A1 O t)) (f0_3 (show 1134 ≤ 1214 by decide) rfl) rfl) ?_
  refine Eq.trans (mG_ok (i := (.invokeinterface 21 0)) (len := 3) (M' := 294) (k := 1) (v := some (.int (zI b))) (w1 := zW K A2 O t) (f0_3 (show 1134 ≤ 1215 by decide) rfl) (mC_if sh_185 rfl rfl rfl) rfl h4) ?_
  show mGd ar (D + 2) 0 1218 [.retAddr 150, .ref 0, .ref 185, .ref 198, .int (zI i), u5, u6] [.int (zI b), .int (zI b)] (zW K A2 O t) = _
  refine Eq.trans (mG_st (i := (.if_icmp .eq 1819)) (len := 3) (z := (if b = b then 3037 else 1221, [.retAddr 150, .ref 0, .ref 185, .ref 198, .int (zI i), u5, u6], [], zW K A2 O t)) (f0_3 (show 1134 ≤ 1218 by decide) rfl) (zs_ic_eq h2 h2)) ?_
  rw [if_pos rfl]
set_option maxRecDepth 20000 in
theorem cs_round {i : Int} {u5 u6 : Value} (hL : (ar 150).1 ≤ 3072) (hi : 0 ≤ i ∧ i + 6 ≤ ((ar 150).1 : Int)) (hq : zQ ar K O t (D + 1) 44 [.ref 0, .double 0, .double 0] 297 [.ref 185, .double 0] (fun _ => 0) A) : zNext ar K D i u5 u6 A O t 1223 := by
  obtain ⟨A1, ⟨b, h1, h2, h3⟩ | ⟨E, -, h2, -⟩⟩ := hq
  case inr => exact absurd h2.1 (by simp)
  obtain ⟨A2, h4, -, h6⟩ := h3 O t
  refine ⟨A2, O, t, u5, u6, by omega, h6, ?_⟩
  refine Eq.trans (mG_st (i := (.aload 1)) (len := 1) (z := (1224, [.retAddr 150, .ref 0, .ref 185, .ref 198, .int (zI i), u5, u6], [.ref 0], zW K A O t)) (f0_3 (show 1134 ≤ 1223 by decide) rfl) rfl) ?_
  refine Eq.trans (mG_ok (i := (.invokeinterface 22 0)) (len := 3) (M' := 44) (k := 1) (v := some (.int (zI b))) (w1 := zW K A1 O t) (f0_3 (show 1134 ≤ 1224 by decide) rfl) (mC_if sh_0 rfl rfl rfl) rfl h1) ?_
  show mGd ar (D + 2) 0 1227 [.retAddr 150, .ref 0, .ref 185, .ref 198, .int (zI i), u5, u6] [.int (zI b)] (zW K A1 O t) = _
  refine Eq.trans (mG_st (i := (.aload 2)) (len := 1) (z := (1228, [.retAddr 150, .ref 0, .ref 185, .ref 198, .int (zI i), u5, u6], [.ref 185, .int (zI b)], zW K A1 O t)) (f0_3 (show 1134 ≤ 1227 by decide) rfl) rfl) ?_
  refine Eq.trans (mG_ok (i := (.invokeinterface 23 0)) (len := 3) (M' := 297) (k := 1) (v := some (.int (zI b))) (w1 := zW K A2 O t) (f0_3 (show 1134 ≤ 1228 by decide) rfl) (mC_if sh_185 rfl rfl rfl) rfl h4) ?_
  show mGd ar (D + 2) 0 1231 [.retAddr 150, .ref 0, .ref 185, .ref 198, .int (zI i), u5, u6] [.int (zI b), .int (zI b)] (zW K A2 O t) = _
  refine Eq.trans (mG_st (i := (.if_icmp .eq 1806)) (len := 3) (z := (if b = b then 3037 else 1234, [.retAddr 150, .ref 0, .ref 185, .ref 198, .int (zI i), u5, u6], [], zW K A2 O t)) (f0_3 (show 1134 ≤ 1231 by decide) rfl) (zs_ic_eq h2 h2)) ?_
  rw [if_pos rfl]
set_option maxRecDepth 20000 in
theorem cs_fewest {i : Int} {u5 u6 : Value} (hL : (ar 150).1 ≤ 3072) (hi : 0 ≤ i ∧ i + 6 ≤ ((ar 150).1 : Int)) (hq : zWr ar K O t (D + 1) 135 [.ref 0, .int (zI (zScr ar (i + 1))), .int (zI (zScr ar (i + 2))), .ref 198, .double 0] 298 [.ref 185, .int (zI (zScr ar (i + 1))), .int (zI (zScr ar (i + 2))), .double 0, .double 0] (fun b => (zI b).toInt64) A) : zNext ar K D i u5 u6 A O t 1236 := by
  obtain ⟨k, A1, O1, t1, h1, h2, h3, b, A2, h4, h5, h6, h7⟩ := hq
  refine ⟨A2, O1, t1, .int (zI k), .int (zI b), h2, h6, ?_⟩
  refine Eq.trans (mG_st (i := (.aload 1)) (len := 1) (z := (1237, [.retAddr 150, .ref 0, .ref 185, .ref 198, .int (zI i), u5, u6], [.ref 0], zW K A O t)) (f0_3 (show 1134 ≤ 1236 by decide) rfl) rfl) ?_
  refine Eq.trans (mG_st (i := (.aload 0)) (len := 1) (z := (1238, [.retAddr 150, .ref 0, .ref 185, .ref 198, .int (zI i), u5, u6], [.retAddr 150, .ref 0], zW K A O t)) (f0_3 (show 1134 ≤ 1237 by decide) rfl) rfl) ?_
  refine Eq.trans (mG_st (i := (.iload 4)) (len := 2) (z := (1240, [.retAddr 150, .ref 0, .ref 185, .ref 198, .int (zI i), u5, u6], [.int (zI i), .retAddr 150, .ref 0], zW K A O t)) (f0_3 (show 1134 ≤ 1238 by decide) rfl) rfl) ?_
  refine Eq.trans (mG_st (i := (.iconst 1)) (len := 1) (z := (1241, [.retAddr 150, .ref 0, .ref 185, .ref 198, .int (zI i), u5, u6], [.int (zI 1), .int (zI i), .retAddr 150, .ref 0], zW K A O t)) (f0_3 (show 1134 ≤ 1240 by decide) rfl) rfl) ?_
  refine Eq.trans (mG_st (i := .iadd) (len := 1) (z := (1242, [.retAddr 150, .ref 0, .ref 185, .ref 198, .int (zI i), u5, u6], [.int (zI (i + 1)), .retAddr 150, .ref 0], zW K A O t)) (f0_3 (show 1134 ≤ 1241 by decide) rfl) zs_add) ?_
  refine Eq.trans (mG_st (i := .iaload) (len := 1) (z := (1243, [.retAddr 150, .ref 0, .ref 185, .ref 198, .int (zI i), u5, u6], [.int (zI (zScr ar (i + 1))), .ref 0], zW K A O t)) (f0_3 (show 1134 ≤ 1242 by decide) rfl) (zM_scr (by omega) hL)) ?_
  refine Eq.trans (mG_st (i := (.aload 0)) (len := 1) (z := (1244, [.retAddr 150, .ref 0, .ref 185, .ref 198, .int (zI i), u5, u6], [.retAddr 150, .int (zI (zScr ar (i + 1))), .ref 0], zW K A O t)) (f0_3 (show 1134 ≤ 1243 by decide) rfl) rfl) ?_
  refine Eq.trans (mG_st (i := (.iload 4)) (len := 2) (z := (1246, [.retAddr 150, .ref 0, .ref 185, .ref 198, .int (zI i), u5, u6], [.int (zI i), .retAddr 150, .int (zI (zScr ar (i + 1))), .ref 0], zW K A O t)) (f0_3 (show 1134 ≤ 1244 by decide) rfl) rfl) ?_
  refine Eq.trans (mG_st (i := (.iconst 2)) (len := 1) (z := (1247, [.retAddr 150, .ref 0, .ref 185, .ref 198, .int (zI i), u5, u6], [.int (zI 2), .int (zI i), .retAddr 150, .int (zI (zScr ar (i + 1))), .ref 0], zW K A O t)) (f0_3 (show 1134 ≤ 1246 by decide) rfl) rfl) ?_
  refine Eq.trans (mG_st (i := .iadd) (len := 1) (z := (1248, [.retAddr 150, .ref 0, .ref 185, .ref 198, .int (zI i), u5, u6], [.int (zI (i + 2)), .retAddr 150, .int (zI (zScr ar (i + 1))), .ref 0], zW K A O t)) (f0_3 (show 1134 ≤ 1247 by decide) rfl) zs_add) ?_
  refine Eq.trans (mG_st (i := .iaload) (len := 1) (z := (1249, [.retAddr 150, .ref 0, .ref 185, .ref 198, .int (zI i), u5, u6], [.int (zI (zScr ar (i + 2))), .int (zI (zScr ar (i + 1))), .ref 0], zW K A O t)) (f0_3 (show 1134 ≤ 1248 by decide) rfl) (zM_scr (by omega) hL)) ?_
  refine Eq.trans (mG_st (i := (.aload 3)) (len := 1) (z := (1250, [.retAddr 150, .ref 0, .ref 185, .ref 198, .int (zI i), u5, u6], [.ref 198, .int (zI (zScr ar (i + 2))), .int (zI (zScr ar (i + 1))), .ref 0], zW K A O t)) (f0_3 (show 1134 ≤ 1249 by decide) rfl) rfl) ?_
  refine Eq.trans (mG_ok (i := (.invokestatic 135)) (len := 3) (M' := 135) (k := 4) (v := some (.int (zI k))) (w1 := zW K A1 O1 t1) (f0_3 (show 1134 ≤ 1250 by decide) rfl) rfl rfl h1) ?_
  show mGd ar (D + 2) 0 1253 [.retAddr 150, .ref 0, .ref 185, .ref 198, .int (zI i), u5, u6] [.int (zI k)] (zW K A1 O1 t1) = _
  refine Eq.trans (mG_st (i := (.istore 5)) (len := 2) (z := (1255, [.retAddr 150, .ref 0, .ref 185, .ref 198, .int (zI i), .int (zI k), u6], [], zW K A1 O1 t1)) (f0_3 (show 1134 ≤ 1253 by decide) rfl) rfl) ?_
  refine Eq.trans (mG_st (i := (.aload 2)) (len := 1) (z := (1256, [.retAddr 150, .ref 0, .ref 185, .ref 198, .int (zI i), .int (zI k), u6], [.ref 185], zW K A1 O1 t1)) (f0_3 (show 1134 ≤ 1255 by decide) rfl) rfl) ?_
  refine Eq.trans (mG_st (i := (.aload 0)) (len := 1) (z := (1257, [.retAddr 150, .ref 0, .ref 185, .ref 198, .int (zI i), .int (zI k), u6], [.retAddr 150, .ref 185], zW K A1 O1 t1)) (f0_3 (show 1134 ≤ 1256 by decide) rfl) rfl) ?_
  refine Eq.trans (mG_st (i := (.iload 4)) (len := 2) (z := (1259, [.retAddr 150, .ref 0, .ref 185, .ref 198, .int (zI i), .int (zI k), u6], [.int (zI i), .retAddr 150, .ref 185], zW K A1 O1 t1)) (f0_3 (show 1134 ≤ 1257 by decide) rfl) rfl) ?_
  refine Eq.trans (mG_st (i := (.iconst 1)) (len := 1) (z := (1260, [.retAddr 150, .ref 0, .ref 185, .ref 198, .int (zI i), .int (zI k), u6], [.int (zI 1), .int (zI i), .retAddr 150, .ref 185], zW K A1 O1 t1)) (f0_3 (show 1134 ≤ 1259 by decide) rfl) rfl) ?_
  refine Eq.trans (mG_st (i := .iadd) (len := 1) (z := (1261, [.retAddr 150, .ref 0, .ref 185, .ref 198, .int (zI i), .int (zI k), u6], [.int (zI (i + 1)), .retAddr 150, .ref 185], zW K A1 O1 t1)) (f0_3 (show 1134 ≤ 1260 by decide) rfl) zs_add) ?_
  refine Eq.trans (mG_st (i := .iaload) (len := 1) (z := (1262, [.retAddr 150, .ref 0, .ref 185, .ref 198, .int (zI i), .int (zI k), u6], [.int (zI (zScr ar (i + 1))), .ref 185], zW K A1 O1 t1)) (f0_3 (show 1134 ≤ 1261 by decide) rfl) (zM_scr (by omega) hL)) ?_
  refine Eq.trans (mG_st (i := (.aload 0)) (len := 1) (z := (1263, [.retAddr 150, .ref 0, .ref 185, .ref 198, .int (zI i), .int (zI k), u6], [.retAddr 150, .int (zI (zScr ar (i + 1))), .ref 185], zW K A1 O1 t1)) (f0_3 (show 1134 ≤ 1262 by decide) rfl) rfl) ?_
  refine Eq.trans (mG_st (i := (.iload 4)) (len := 2) (z := (1265, [.retAddr 150, .ref 0, .ref 185, .ref 198, .int (zI i), .int (zI k), u6], [.int (zI i), .retAddr 150, .int (zI (zScr ar (i + 1))), .ref 185], zW K A1 O1 t1)) (f0_3 (show 1134 ≤ 1263 by decide) rfl) rfl) ?_
  refine Eq.trans (mG_st (i := (.iconst 2)) (len := 1) (z := (1266, [.retAddr 150, .ref 0, .ref 185, .ref 198, .int (zI i), .int (zI k), u6], [.int (zI 2), .int (zI i), .retAddr 150, .int (zI (zScr ar (i + 1))), .ref 185], zW K A1 O1 t1)) (f0_3 (show 1134 ≤ 1265 by decide) rfl) rfl) ?_
  refine Eq.trans (mG_st (i := .iadd) (len := 1) (z := (1267, [.retAddr 150, .ref 0, .ref 185, .ref 198, .int (zI i), .int (zI k), u6], [.int (zI (i + 2)), .retAddr 150, .int (zI (zScr ar (i + 1))), .ref 185], zW K A1 O1 t1)) (f0_3 (show 1134 ≤ 1266 by decide) rfl) zs_add) ?_
  refine Eq.trans (mG_st (i := .iaload) (len := 1) (z := (1268, [.retAddr 150, .ref 0, .ref 185, .ref 198, .int (zI i), .int (zI k), u6], [.int (zI (zScr ar (i + 2))), .int (zI (zScr ar (i + 1))), .ref 185], zW K A1 O1 t1)) (f0_3 (show 1134 ≤ 1267 by decide) rfl) (zM_scr (by omega) hL)) ?_
  refine Eq.trans (mG_ok (i := (.invokeinterface 24 2)) (len := 3) (M' := 298) (k := 3) (v := some (.int (zI b))) (w1 := zW K A2 O1 t1) (f0_3 (show 1134 ≤ 1268 by decide) rfl) (mC_if sh_185 rfl rfl rfl) rfl h4) ?_
  show mGd ar (D + 2) 0 1271 [.retAddr 150, .ref 0, .ref 185, .ref 198, .int (zI i), .int (zI k), u6] [.int (zI b)] (zW K A2 O1 t1) = _
  refine Eq.trans (mG_st (i := (.istore 6)) (len := 2) (z := (1273, [.retAddr 150, .ref 0, .ref 185, .ref 198, .int (zI i), .int (zI k), .int (zI b)], [], zW K A2 O1 t1)) (f0_3 (show 1134 ≤ 1271 by decide) rfl) rfl) ?_
  refine Eq.trans (mG_st (i := (.aload 2)) (len := 1) (z := (1274, [.retAddr 150, .ref 0, .ref 185, .ref 198, .int (zI i), .int (zI k), .int (zI b)], [.ref 185], zW K A2 O1 t1)) (f0_3 (show 1134 ≤ 1273 by decide) rfl) rfl) ?_
  refine Eq.trans (mG_ok (i := (.invokeinterface 5 0)) (len := 3) (M' := 215) (k := 1) (v := some (.int (zI (A2 185 0)))) (w1 := zW K A2 O1 t1) (f0_3 (show 1134 ≤ 1274 by decide) rfl) (mC_if sh_185 rfl rfl rfl) rfl i215_0) ?_
  rw [h5]
  show mGd ar (D + 2) 0 1277 [.retAddr 150, .ref 0, .ref 185, .ref 198, .int (zI i), .int (zI k), .int (zI b)] [.int (zI k)] (zW K A2 O1 t1) = _
  refine Eq.trans (mG_st (i := (.iload 5)) (len := 2) (z := (1279, [.retAddr 150, .ref 0, .ref 185, .ref 198, .int (zI i), .int (zI k), .int (zI b)], [.int (zI k), .int (zI k)], zW K A2 O1 t1)) (f0_3 (show 1134 ≤ 1277 by decide) rfl) rfl) ?_
  refine Eq.trans (mG_st (i := (.if_icmp .eq 5)) (len := 3) (z := (if k = k then 1284 else 1282, [.retAddr 150, .ref 0, .ref 185, .ref 198, .int (zI i), .int (zI k), .int (zI b)], [], zW K A2 O1 t1)) (f0_3 (show 1134 ≤ 1279 by decide) rfl) (zs_ic_eq (by omega) (by omega))) ?_
  rw [if_pos rfl]
  show mGd ar (D + 2) 0 1284 [.retAddr 150, .ref 0, .ref 185, .ref 198, .int (zI i), .int (zI k), .int (zI b)] [] (zW K A2 O1 t1) = _
  refine Eq.trans (mG_st (i := (.iload 5)) (len := 2) (z := (1286, [.retAddr 150, .ref 0, .ref 185, .ref 198, .int (zI i), .int (zI k), .int (zI b)], [.int (zI k)], zW K A2 O1 t1)) (f0_3 (show 1134 ≤ 1284 by decide) rfl) rfl) ?_
  refine Eq.trans (mG_st (i := (.ifCond .ne 15)) (len := 3) (z := (if k = 0 then 1289 else 1301, [.retAddr 150, .ref 0, .ref 185, .ref 198, .int (zI i), .int (zI k), .int (zI b)], [], zW K A2 O1 t1)) (f0_3 (show 1134 ≤ 1286 by decide) rfl) (zs_if_ne (by omega))) ?_
  have fin : mGd ar (D + 2) 0 1301 [.retAddr 150, .ref 0, .ref 185, .ref 198, .int (zI i), .int (zI k), .int (zI b)] [] (zW K A2 O1 t1) = mGd ar (D + 2) 0 3037 [.retAddr 150, .ref 0, .ref 185, .ref 198, .int (zI i), .int (zI k), .int (zI b)] [] (zW K A2 O1 t1) :=
    mG_st (i := (.goto 1736)) (len := 3) (z := (3037, [.retAddr 150, .ref 0, .ref 185, .ref 198, .int (zI i), .int (zI k), .int (zI b)], [], zW K A2 O1 t1)) (f0_3 (show 1134 ≤ 1301 by decide) rfl) rfl
  by_cases k0 : k = 0
  · rw [if_pos k0]
    obtain ⟨h8, h9⟩ := h7 k0
    show mGd ar (D + 2) 0 1289 [.retAddr 150, .ref 0, .ref 185, .ref 198, .int (zI i), .int (zI k), .int (zI b)] [] (zW K A2 O1 t1) = _
    refine Eq.trans (mG_st (i := (.aload 3)) (len := 1) (z := (1290, [.retAddr 150, .ref 0, .ref 185, .ref 198, .int (zI i), .int (zI k), .int (zI b)], [.ref 198], zW K A2 O1 t1)) (f0_3 (show 1134 ≤ 1289 by decide) rfl) rfl) ?_
    refine Eq.trans (mG_st (i := (.iconst 0)) (len := 1) (z := (1291, [.retAddr 150, .ref 0, .ref 185, .ref 198, .int (zI i), .int (zI k), .int (zI b)], [.int (zI 0), .ref 198], zW K A2 O1 t1)) (f0_3 (show 1134 ≤ 1290 by decide) rfl) rfl) ?_
    refine Eq.trans (mG_st (i := .laload) (len := 1) (z := (1292, [.retAddr 150, .ref 0, .ref 185, .ref 198, .int (zI i), .int (zI k), .int (zI b)], [.long (O1 0)], zW K A2 O1 t1)) (f0_3 (show 1134 ≤ 1291 by decide) rfl) zM_lald) ?_
    refine Eq.trans (mG_st (i := (.iload 6)) (len := 2) (z := (1294, [.retAddr 150, .ref 0, .ref 185, .ref 198, .int (zI i), .int (zI k), .int (zI b)], [.int (zI b), .long (O1 0)], zW K A2 O1 t1)) (f0_3 (show 1134 ≤ 1292 by decide) rfl) rfl) ?_
    refine Eq.trans (mG_st (i := .i2l) (len := 1) (z := (1295, [.retAddr 150, .ref 0, .ref 185, .ref 198, .int (zI i), .int (zI k), .int (zI b)], [.long ((zI b).toInt64), .long (O1 0)], zW K A2 O1 t1)) (f0_3 (show 1134 ≤ 1294 by decide) rfl) rfl) ?_
    show mGd ar (D + 2) 0 1295 [.retAddr 150, .ref 0, .ref 185, .ref 198, .int (zI i), .int (zI k), .int (zI b)] [.long ((zI b).toInt64), .long (O1 0)] (zW K A2 O1 t1) = _
    refine Eq.trans (mG_st (i := .lcmp) (len := 1) (z := (1296, [.retAddr 150, .ref 0, .ref 185, .ref 198, .int (zI i), .int (zI k), .int (zI b)], [.int (lg_cmp (O1 0) ((zI b).toInt64))], zW K A2 O1 t1)) (f0_3 (show 1134 ≤ 1295 by decide) rfl) rfl) ?_
    rw [show O1 0 = (zI b).toInt64 from h8, lg_same]
    exact Eq.trans (mG_st (i := (.ifCond .eq 5)) (len := 3) (z := (1301, [.retAddr 150, .ref 0, .ref 185, .ref 198, .int (zI i), .int (zI k), .int (zI b)], [], zW K A2 O1 t1)) (f0_3 (show 1134 ≤ 1296 by decide) rfl) rfl) fin
  · rw [if_neg k0]; exact fin
set_option maxRecDepth 20000 in
theorem cs_rules {i : Int} {u5 u6 : Value} (hL : (ar 150).1 ≤ 3072) (hi : 0 ≤ i ∧ i + 6 ≤ ((ar 150).1 : Int)) (hq : zWr ar K O t (D + 1) 143 [.ref 0, .int (zI (zScr ar (i + 1))), .int (zI (zScr ar (i + 2))), .ref 198, .double 0] 306 [.ref 185, .int (zI (zScr ar (i + 1))), .int (zI (zScr ar (i + 2))), .double 0, .double 0] (fun b => (zI b).toInt64) A) : zNext ar K D i u5 u6 A O t 1304 := by
  obtain ⟨k, A1, O1, t1, h1, h2, h3, b, A2, h4, h5, h6, h7⟩ := hq
  refine ⟨A2, O1, t1, .int (zI k), .int (zI b), h2, h6, ?_⟩
  refine Eq.trans (mG_st (i := (.aload 1)) (len := 1) (z := (1305, [.retAddr 150, .ref 0, .ref 185, .ref 198, .int (zI i), u5, u6], [.ref 0], zW K A O t)) (f0_3 (show 1134 ≤ 1304 by decide) rfl) rfl) ?_
  refine Eq.trans (mG_st (i := (.aload 0)) (len := 1) (z := (1306, [.retAddr 150, .ref 0, .ref 185, .ref 198, .int (zI i), u5, u6], [.retAddr 150, .ref 0], zW K A O t)) (f0_3 (show 1134 ≤ 1305 by decide) rfl) rfl) ?_
  refine Eq.trans (mG_st (i := (.iload 4)) (len := 2) (z := (1308, [.retAddr 150, .ref 0, .ref 185, .ref 198, .int (zI i), u5, u6], [.int (zI i), .retAddr 150, .ref 0], zW K A O t)) (f0_3 (show 1134 ≤ 1306 by decide) rfl) rfl) ?_
  refine Eq.trans (mG_st (i := (.iconst 1)) (len := 1) (z := (1309, [.retAddr 150, .ref 0, .ref 185, .ref 198, .int (zI i), u5, u6], [.int (zI 1), .int (zI i), .retAddr 150, .ref 0], zW K A O t)) (f0_3 (show 1134 ≤ 1308 by decide) rfl) rfl) ?_
  refine Eq.trans (mG_st (i := .iadd) (len := 1) (z := (1310, [.retAddr 150, .ref 0, .ref 185, .ref 198, .int (zI i), u5, u6], [.int (zI (i + 1)), .retAddr 150, .ref 0], zW K A O t)) (f0_3 (show 1134 ≤ 1309 by decide) rfl) zs_add) ?_
  refine Eq.trans (mG_st (i := .iaload) (len := 1) (z := (1311, [.retAddr 150, .ref 0, .ref 185, .ref 198, .int (zI i), u5, u6], [.int (zI (zScr ar (i + 1))), .ref 0], zW K A O t)) (f0_3 (show 1134 ≤ 1310 by decide) rfl) (zM_scr (by omega) hL)) ?_
  refine Eq.trans (mG_st (i := (.aload 0)) (len := 1) (z := (1312, [.retAddr 150, .ref 0, .ref 185, .ref 198, .int (zI i), u5, u6], [.retAddr 150, .int (zI (zScr ar (i + 1))), .ref 0], zW K A O t)) (f0_3 (show 1134 ≤ 1311 by decide) rfl) rfl) ?_
  refine Eq.trans (mG_st (i := (.iload 4)) (len := 2) (z := (1314, [.retAddr 150, .ref 0, .ref 185, .ref 198, .int (zI i), u5, u6], [.int (zI i), .retAddr 150, .int (zI (zScr ar (i + 1))), .ref 0], zW K A O t)) (f0_3 (show 1134 ≤ 1312 by decide) rfl) rfl) ?_
  refine Eq.trans (mG_st (i := (.iconst 2)) (len := 1) (z := (1315, [.retAddr 150, .ref 0, .ref 185, .ref 198, .int (zI i), u5, u6], [.int (zI 2), .int (zI i), .retAddr 150, .int (zI (zScr ar (i + 1))), .ref 0], zW K A O t)) (f0_3 (show 1134 ≤ 1314 by decide) rfl) rfl) ?_
  refine Eq.trans (mG_st (i := .iadd) (len := 1) (z := (1316, [.retAddr 150, .ref 0, .ref 185, .ref 198, .int (zI i), u5, u6], [.int (zI (i + 2)), .retAddr 150, .int (zI (zScr ar (i + 1))), .ref 0], zW K A O t)) (f0_3 (show 1134 ≤ 1315 by decide) rfl) zs_add) ?_
  refine Eq.trans (mG_st (i := .iaload) (len := 1) (z := (1317, [.retAddr 150, .ref 0, .ref 185, .ref 198, .int (zI i), u5, u6], [.int (zI (zScr ar (i + 2))), .int (zI (zScr ar (i + 1))), .ref 0], zW K A O t)) (f0_3 (show 1134 ≤ 1316 by decide) rfl) (zM_scr (by omega) hL)) ?_
  refine Eq.trans (mG_st (i := (.aload 3)) (len := 1) (z := (1318, [.retAddr 150, .ref 0, .ref 185, .ref 198, .int (zI i), u5, u6], [.ref 198, .int (zI (zScr ar (i + 2))), .int (zI (zScr ar (i + 1))), .ref 0], zW K A O t)) (f0_3 (show 1134 ≤ 1317 by decide) rfl) rfl) ?_
  refine Eq.trans (mG_ok (i := (.invokestatic 143)) (len := 3) (M' := 143) (k := 4) (v := some (.int (zI k))) (w1 := zW K A1 O1 t1) (f0_3 (show 1134 ≤ 1318 by decide) rfl) rfl rfl h1) ?_
  show mGd ar (D + 2) 0 1321 [.retAddr 150, .ref 0, .ref 185, .ref 198, .int (zI i), u5, u6] [.int (zI k)] (zW K A1 O1 t1) = _
  refine Eq.trans (mG_st (i := (.istore 5)) (len := 2) (z := (1323, [.retAddr 150, .ref 0, .ref 185, .ref 198, .int (zI i), .int (zI k), u6], [], zW K A1 O1 t1)) (f0_3 (show 1134 ≤ 1321 by decide) rfl) rfl) ?_
  refine Eq.trans (mG_st (i := (.aload 2)) (len := 1) (z := (1324, [.retAddr 150, .ref 0, .ref 185, .ref 198, .int (zI i), .int (zI k), u6], [.ref 185], zW K A1 O1 t1)) (f0_3 (show 1134 ≤ 1323 by decide) rfl) rfl) ?_
  refine Eq.trans (mG_st (i := (.aload 0)) (len := 1) (z := (1325, [.retAddr 150, .ref 0, .ref 185, .ref 198, .int (zI i), .int (zI k), u6], [.retAddr 150, .ref 185], zW K A1 O1 t1)) (f0_3 (show 1134 ≤ 1324 by decide) rfl) rfl) ?_
  refine Eq.trans (mG_st (i := (.iload 4)) (len := 2) (z := (1327, [.retAddr 150, .ref 0, .ref 185, .ref 198, .int (zI i), .int (zI k), u6], [.int (zI i), .retAddr 150, .ref 185], zW K A1 O1 t1)) (f0_3 (show 1134 ≤ 1325 by decide) rfl) rfl) ?_
  refine Eq.trans (mG_st (i := (.iconst 1)) (len := 1) (z := (1328, [.retAddr 150, .ref 0, .ref 185, .ref 198, .int (zI i), .int (zI k), u6], [.int (zI 1), .int (zI i), .retAddr 150, .ref 185], zW K A1 O1 t1)) (f0_3 (show 1134 ≤ 1327 by decide) rfl) rfl) ?_
  refine Eq.trans (mG_st (i := .iadd) (len := 1) (z := (1329, [.retAddr 150, .ref 0, .ref 185, .ref 198, .int (zI i), .int (zI k), u6], [.int (zI (i + 1)), .retAddr 150, .ref 185], zW K A1 O1 t1)) (f0_3 (show 1134 ≤ 1328 by decide) rfl) zs_add) ?_
  refine Eq.trans (mG_st (i := .iaload) (len := 1) (z := (1330, [.retAddr 150, .ref 0, .ref 185, .ref 198, .int (zI i), .int (zI k), u6], [.int (zI (zScr ar (i + 1))), .ref 185], zW K A1 O1 t1)) (f0_3 (show 1134 ≤ 1329 by decide) rfl) (zM_scr (by omega) hL)) ?_
  refine Eq.trans (mG_st (i := (.aload 0)) (len := 1) (z := (1331, [.retAddr 150, .ref 0, .ref 185, .ref 198, .int (zI i), .int (zI k), u6], [.retAddr 150, .int (zI (zScr ar (i + 1))), .ref 185], zW K A1 O1 t1)) (f0_3 (show 1134 ≤ 1330 by decide) rfl) rfl) ?_
  refine Eq.trans (mG_st (i := (.iload 4)) (len := 2) (z := (1333, [.retAddr 150, .ref 0, .ref 185, .ref 198, .int (zI i), .int (zI k), u6], [.int (zI i), .retAddr 150, .int (zI (zScr ar (i + 1))), .ref 185], zW K A1 O1 t1)) (f0_3 (show 1134 ≤ 1331 by decide) rfl) rfl) ?_
  refine Eq.trans (mG_st (i := (.iconst 2)) (len := 1) (z := (1334, [.retAddr 150, .ref 0, .ref 185, .ref 198, .int (zI i), .int (zI k), u6], [.int (zI 2), .int (zI i), .retAddr 150, .int (zI (zScr ar (i + 1))), .ref 185], zW K A1 O1 t1)) (f0_3 (show 1134 ≤ 1333 by decide) rfl) rfl) ?_
  refine Eq.trans (mG_st (i := .iadd) (len := 1) (z := (1335, [.retAddr 150, .ref 0, .ref 185, .ref 198, .int (zI i), .int (zI k), u6], [.int (zI (i + 2)), .retAddr 150, .int (zI (zScr ar (i + 1))), .ref 185], zW K A1 O1 t1)) (f0_3 (show 1134 ≤ 1334 by decide) rfl) zs_add) ?_
  refine Eq.trans (mG_st (i := .iaload) (len := 1) (z := (1336, [.retAddr 150, .ref 0, .ref 185, .ref 198, .int (zI i), .int (zI k), u6], [.int (zI (zScr ar (i + 2))), .int (zI (zScr ar (i + 1))), .ref 185], zW K A1 O1 t1)) (f0_3 (show 1134 ≤ 1335 by decide) rfl) (zM_scr (by omega) hL)) ?_
  refine Eq.trans (mG_ok (i := (.invokeinterface 25 2)) (len := 3) (M' := 306) (k := 3) (v := some (.int (zI b))) (w1 := zW K A2 O1 t1) (f0_3 (show 1134 ≤ 1336 by decide) rfl) (mC_if sh_185 rfl rfl rfl) rfl h4) ?_
  show mGd ar (D + 2) 0 1339 [.retAddr 150, .ref 0, .ref 185, .ref 198, .int (zI i), .int (zI k), u6] [.int (zI b)] (zW K A2 O1 t1) = _
  refine Eq.trans (mG_st (i := (.istore 6)) (len := 2) (z := (1341, [.retAddr 150, .ref 0, .ref 185, .ref 198, .int (zI i), .int (zI k), .int (zI b)], [], zW K A2 O1 t1)) (f0_3 (show 1134 ≤ 1339 by decide) rfl) rfl) ?_
  refine Eq.trans (mG_st (i := (.aload 2)) (len := 1) (z := (1342, [.retAddr 150, .ref 0, .ref 185, .ref 198, .int (zI i), .int (zI k), .int (zI b)], [.ref 185], zW K A2 O1 t1)) (f0_3 (show 1134 ≤ 1341 by decide) rfl) rfl) ?_
  refine Eq.trans (mG_ok (i := (.invokeinterface 5 0)) (len := 3) (M' := 215) (k := 1) (v := some (.int (zI (A2 185 0)))) (w1 := zW K A2 O1 t1) (f0_3 (show 1134 ≤ 1342 by decide) rfl) (mC_if sh_185 rfl rfl rfl) rfl i215_0) ?_
  rw [h5]
  show mGd ar (D + 2) 0 1345 [.retAddr 150, .ref 0, .ref 185, .ref 198, .int (zI i), .int (zI k), .int (zI b)] [.int (zI k)] (zW K A2 O1 t1) = _
  refine Eq.trans (mG_st (i := (.iload 5)) (len := 2) (z := (1347, [.retAddr 150, .ref 0, .ref 185, .ref 198, .int (zI i), .int (zI k), .int (zI b)], [.int (zI k), .int (zI k)], zW K A2 O1 t1)) (f0_3 (show 1134 ≤ 1345 by decide) rfl) rfl) ?_
  refine Eq.trans (mG_st (i := (.if_icmp .eq 5)) (len := 3) (z := (if k = k then 1352 else 1350, [.retAddr 150, .ref 0, .ref 185, .ref 198, .int (zI i), .int (zI k), .int (zI b)], [], zW K A2 O1 t1)) (f0_3 (show 1134 ≤ 1347 by decide) rfl) (zs_ic_eq (by omega) (by omega))) ?_
  rw [if_pos rfl]
  show mGd ar (D + 2) 0 1352 [.retAddr 150, .ref 0, .ref 185, .ref 198, .int (zI i), .int (zI k), .int (zI b)] [] (zW K A2 O1 t1) = _
  refine Eq.trans (mG_st (i := (.iload 5)) (len := 2) (z := (1354, [.retAddr 150, .ref 0, .ref 185, .ref 198, .int (zI i), .int (zI k), .int (zI b)], [.int (zI k)], zW K A2 O1 t1)) (f0_3 (show 1134 ≤ 1352 by decide) rfl) rfl) ?_
  refine Eq.trans (mG_st (i := (.ifCond .ne 15)) (len := 3) (z := (if k = 0 then 1357 else 1369, [.retAddr 150, .ref 0, .ref 185, .ref 198, .int (zI i), .int (zI k), .int (zI b)], [], zW K A2 O1 t1)) (f0_3 (show 1134 ≤ 1354 by decide) rfl) (zs_if_ne (by omega))) ?_
  have fin : mGd ar (D + 2) 0 1369 [.retAddr 150, .ref 0, .ref 185, .ref 198, .int (zI i), .int (zI k), .int (zI b)] [] (zW K A2 O1 t1) = mGd ar (D + 2) 0 3037 [.retAddr 150, .ref 0, .ref 185, .ref 198, .int (zI i), .int (zI k), .int (zI b)] [] (zW K A2 O1 t1) :=
    mG_st (i := (.goto 1668)) (len := 3) (z := (3037, [.retAddr 150, .ref 0, .ref 185, .ref 198, .int (zI i), .int (zI k), .int (zI b)], [], zW K A2 O1 t1)) (f0_3 (show 1134 ≤ 1369 by decide) rfl) rfl
  by_cases k0 : k = 0
  · rw [if_pos k0]
    obtain ⟨h8, h9⟩ := h7 k0
    show mGd ar (D + 2) 0 1357 [.retAddr 150, .ref 0, .ref 185, .ref 198, .int (zI i), .int (zI k), .int (zI b)] [] (zW K A2 O1 t1) = _
    refine Eq.trans (mG_st (i := (.aload 3)) (len := 1) (z := (1358, [.retAddr 150, .ref 0, .ref 185, .ref 198, .int (zI i), .int (zI k), .int (zI b)], [.ref 198], zW K A2 O1 t1)) (f0_3 (show 1134 ≤ 1357 by decide) rfl) rfl) ?_
    refine Eq.trans (mG_st (i := (.iconst 0)) (len := 1) (z := (1359, [.retAddr 150, .ref 0, .ref 185, .ref 198, .int (zI i), .int (zI k), .int (zI b)], [.int (zI 0), .ref 198], zW K A2 O1 t1)) (f0_3 (show 1134 ≤ 1358 by decide) rfl) rfl) ?_
    refine Eq.trans (mG_st (i := .laload) (len := 1) (z := (1360, [.retAddr 150, .ref 0, .ref 185, .ref 198, .int (zI i), .int (zI k), .int (zI b)], [.long (O1 0)], zW K A2 O1 t1)) (f0_3 (show 1134 ≤ 1359 by decide) rfl) zM_lald) ?_
    refine Eq.trans (mG_st (i := (.iload 6)) (len := 2) (z := (1362, [.retAddr 150, .ref 0, .ref 185, .ref 198, .int (zI i), .int (zI k), .int (zI b)], [.int (zI b), .long (O1 0)], zW K A2 O1 t1)) (f0_3 (show 1134 ≤ 1360 by decide) rfl) rfl) ?_
    refine Eq.trans (mG_st (i := .i2l) (len := 1) (z := (1363, [.retAddr 150, .ref 0, .ref 185, .ref 198, .int (zI i), .int (zI k), .int (zI b)], [.long ((zI b).toInt64), .long (O1 0)], zW K A2 O1 t1)) (f0_3 (show 1134 ≤ 1362 by decide) rfl) rfl) ?_
    show mGd ar (D + 2) 0 1363 [.retAddr 150, .ref 0, .ref 185, .ref 198, .int (zI i), .int (zI k), .int (zI b)] [.long ((zI b).toInt64), .long (O1 0)] (zW K A2 O1 t1) = _
    refine Eq.trans (mG_st (i := .lcmp) (len := 1) (z := (1364, [.retAddr 150, .ref 0, .ref 185, .ref 198, .int (zI i), .int (zI k), .int (zI b)], [.int (lg_cmp (O1 0) ((zI b).toInt64))], zW K A2 O1 t1)) (f0_3 (show 1134 ≤ 1363 by decide) rfl) rfl) ?_
    rw [show O1 0 = (zI b).toInt64 from h8, lg_same]
    exact Eq.trans (mG_st (i := (.ifCond .eq 5)) (len := 3) (z := (1369, [.retAddr 150, .ref 0, .ref 185, .ref 198, .int (zI i), .int (zI k), .int (zI b)], [], zW K A2 O1 t1)) (f0_3 (show 1134 ≤ 1364 by decide) rfl) rfl) fin
  · rw [if_neg k0]; exact fin
set_option maxRecDepth 20000 in
theorem cs_moves {i : Int} {u5 u6 : Value} (hL : (ar 150).1 ≤ 3072) (hi : 0 ≤ i ∧ i + 6 ≤ ((ar 150).1 : Int)) (hq : zWr ar K O t (D + 1) 145 [.ref 0, .int (zI (zScr ar (i + 1))), .int (zI (zScr ar (i + 2))), .int (zI (if zScr ar (i + 3) = 0 then 0 else 1)), .ref 198, .double 0] 307 [.ref 185, .int (zI (zScr ar (i + 1))), .int (zI (zScr ar (i + 2))), .int (zI (if zScr ar (i + 3) = 0 then 0 else 1)), .double 0, .double 0, .double 0] (fun b => (zI b).toInt64) A) : zNext ar K D i u5 u6 A O t 1372 := by
  obtain ⟨k, A1, O1, t1, h1, h2, h3, b, A2, h4, h5, h6, h7⟩ := hq
  refine ⟨A2, O1, t1, .int (zI k), .int (zI b), h2, h6, ?_⟩
  refine Eq.trans (mG_st (i := (.aload 1)) (len := 1) (z := (1373, [.retAddr 150, .ref 0, .ref 185, .ref 198, .int (zI i), u5, u6], [.ref 0], zW K A O t)) (f0_3 (show 1134 ≤ 1372 by decide) rfl) rfl) ?_
  refine Eq.trans (mG_st (i := (.aload 0)) (len := 1) (z := (1374, [.retAddr 150, .ref 0, .ref 185, .ref 198, .int (zI i), u5, u6], [.retAddr 150, .ref 0], zW K A O t)) (f0_3 (show 1134 ≤ 1373 by decide) rfl) rfl) ?_
  refine Eq.trans (mG_st (i := (.iload 4)) (len := 2) (z := (1376, [.retAddr 150, .ref 0, .ref 185, .ref 198, .int (zI i), u5, u6], [.int (zI i), .retAddr 150, .ref 0], zW K A O t)) (f0_3 (show 1134 ≤ 1374 by decide) rfl) rfl) ?_
  refine Eq.trans (mG_st (i := (.iconst 1)) (len := 1) (z := (1377, [.retAddr 150, .ref 0, .ref 185, .ref 198, .int (zI i), u5, u6], [.int (zI 1), .int (zI i), .retAddr 150, .ref 0], zW K A O t)) (f0_3 (show 1134 ≤ 1376 by decide) rfl) rfl) ?_
  refine Eq.trans (mG_st (i := .iadd) (len := 1) (z := (1378, [.retAddr 150, .ref 0, .ref 185, .ref 198, .int (zI i), u5, u6], [.int (zI (i + 1)), .retAddr 150, .ref 0], zW K A O t)) (f0_3 (show 1134 ≤ 1377 by decide) rfl) zs_add) ?_
  refine Eq.trans (mG_st (i := .iaload) (len := 1) (z := (1379, [.retAddr 150, .ref 0, .ref 185, .ref 198, .int (zI i), u5, u6], [.int (zI (zScr ar (i + 1))), .ref 0], zW K A O t)) (f0_3 (show 1134 ≤ 1378 by decide) rfl) (zM_scr (by omega) hL)) ?_
  refine Eq.trans (mG_st (i := (.aload 0)) (len := 1) (z := (1380, [.retAddr 150, .ref 0, .ref 185, .ref 198, .int (zI i), u5, u6], [.retAddr 150, .int (zI (zScr ar (i + 1))), .ref 0], zW K A O t)) (f0_3 (show 1134 ≤ 1379 by decide) rfl) rfl) ?_
  refine Eq.trans (mG_st (i := (.iload 4)) (len := 2) (z := (1382, [.retAddr 150, .ref 0, .ref 185, .ref 198, .int (zI i), u5, u6], [.int (zI i), .retAddr 150, .int (zI (zScr ar (i + 1))), .ref 0], zW K A O t)) (f0_3 (show 1134 ≤ 1380 by decide) rfl) rfl) ?_
  refine Eq.trans (mG_st (i := (.iconst 2)) (len := 1) (z := (1383, [.retAddr 150, .ref 0, .ref 185, .ref 198, .int (zI i), u5, u6], [.int (zI 2), .int (zI i), .retAddr 150, .int (zI (zScr ar (i + 1))), .ref 0], zW K A O t)) (f0_3 (show 1134 ≤ 1382 by decide) rfl) rfl) ?_
  refine Eq.trans (mG_st (i := .iadd) (len := 1) (z := (1384, [.retAddr 150, .ref 0, .ref 185, .ref 198, .int (zI i), u5, u6], [.int (zI (i + 2)), .retAddr 150, .int (zI (zScr ar (i + 1))), .ref 0], zW K A O t)) (f0_3 (show 1134 ≤ 1383 by decide) rfl) zs_add) ?_
  refine Eq.trans (mG_st (i := .iaload) (len := 1) (z := (1385, [.retAddr 150, .ref 0, .ref 185, .ref 198, .int (zI i), u5, u6], [.int (zI (zScr ar (i + 2))), .int (zI (zScr ar (i + 1))), .ref 0], zW K A O t)) (f0_3 (show 1134 ≤ 1384 by decide) rfl) (zM_scr (by omega) hL)) ?_
  refine Eq.trans (mG_st (i := (.aload 0)) (len := 1) (z := (1386, [.retAddr 150, .ref 0, .ref 185, .ref 198, .int (zI i), u5, u6], [.retAddr 150, .int (zI (zScr ar (i + 2))), .int (zI (zScr ar (i + 1))), .ref 0], zW K A O t)) (f0_3 (show 1134 ≤ 1385 by decide) rfl) rfl) ?_
  refine Eq.trans (mG_st (i := (.iload 4)) (len := 2) (z := (1388, [.retAddr 150, .ref 0, .ref 185, .ref 198, .int (zI i), u5, u6], [.int (zI i), .retAddr 150, .int (zI (zScr ar (i + 2))), .int (zI (zScr ar (i + 1))), .ref 0], zW K A O t)) (f0_3 (show 1134 ≤ 1386 by decide) rfl) rfl) ?_
  refine Eq.trans (mG_st (i := (.iconst 3)) (len := 1) (z := (1389, [.retAddr 150, .ref 0, .ref 185, .ref 198, .int (zI i), u5, u6], [.int (zI 3), .int (zI i), .retAddr 150, .int (zI (zScr ar (i + 2))), .int (zI (zScr ar (i + 1))), .ref 0], zW K A O t)) (f0_3 (show 1134 ≤ 1388 by decide) rfl) rfl) ?_
  refine Eq.trans (mG_st (i := .iadd) (len := 1) (z := (1390, [.retAddr 150, .ref 0, .ref 185, .ref 198, .int (zI i), u5, u6], [.int (zI (i + 3)), .retAddr 150, .int (zI (zScr ar (i + 2))), .int (zI (zScr ar (i + 1))), .ref 0], zW K A O t)) (f0_3 (show 1134 ≤ 1389 by decide) rfl) zs_add) ?_
  refine Eq.trans (mG_st (i := .iaload) (len := 1) (z := (1391, [.retAddr 150, .ref 0, .ref 185, .ref 198, .int (zI i), u5, u6], [.int (zI (zScr ar (i + 3))), .int (zI (zScr ar (i + 2))), .int (zI (zScr ar (i + 1))), .ref 0], zW K A O t)) (f0_3 (show 1134 ≤ 1390 by decide) rfl) (zM_scr (by omega) hL)) ?_
  refine Eq.trans (mG_bool (f0_3 (show 1134 ≤ 1391 by decide) rfl) (f0_3 (show 1134 ≤ 1394 by decide) rfl) (f0_3 (show 1134 ≤ 1395 by decide) rfl) (f0_3 (show 1134 ≤ 1398 by decide) rfl) zScr_r) ?_
  show mGd ar (D + 2) 0 1399 [.retAddr 150, .ref 0, .ref 185, .ref 198, .int (zI i), u5, u6] [.int (zI (if zScr ar (i + 3) = 0 then 0 else 1)), .int (zI (zScr ar (i + 2))), .int (zI (zScr ar (i + 1))), .ref 0] (zW K A O t) = _
  refine Eq.trans (mG_st (i := (.aload 3)) (len := 1) (z := (1400, [.retAddr 150, .ref 0, .ref 185, .ref 198, .int (zI i), u5, u6], [.ref 198, .int (zI (if zScr ar (i + 3) = 0 then 0 else 1)), .int (zI (zScr ar (i + 2))), .int (zI (zScr ar (i + 1))), .ref 0], zW K A O t)) (f0_3 (show 1134 ≤ 1399 by decide) rfl) rfl) ?_
  refine Eq.trans (mG_ok (i := (.invokestatic 145)) (len := 3) (M' := 145) (k := 5) (v := some (.int (zI k))) (w1 := zW K A1 O1 t1) (f0_3 (show 1134 ≤ 1400 by decide) rfl) rfl rfl h1) ?_
  show mGd ar (D + 2) 0 1403 [.retAddr 150, .ref 0, .ref 185, .ref 198, .int (zI i), u5, u6] [.int (zI k)] (zW K A1 O1 t1) = _
  refine Eq.trans (mG_st (i := (.istore 5)) (len := 2) (z := (1405, [.retAddr 150, .ref 0, .ref 185, .ref 198, .int (zI i), .int (zI k), u6], [], zW K A1 O1 t1)) (f0_3 (show 1134 ≤ 1403 by decide) rfl) rfl) ?_
  refine Eq.trans (mG_st (i := (.aload 2)) (len := 1) (z := (1406, [.retAddr 150, .ref 0, .ref 185, .ref 198, .int (zI i), .int (zI k), u6], [.ref 185], zW K A1 O1 t1)) (f0_3 (show 1134 ≤ 1405 by decide) rfl) rfl) ?_
  refine Eq.trans (mG_st (i := (.aload 0)) (len := 1) (z := (1407, [.retAddr 150, .ref 0, .ref 185, .ref 198, .int (zI i), .int (zI k), u6], [.retAddr 150, .ref 185], zW K A1 O1 t1)) (f0_3 (show 1134 ≤ 1406 by decide) rfl) rfl) ?_
  refine Eq.trans (mG_st (i := (.iload 4)) (len := 2) (z := (1409, [.retAddr 150, .ref 0, .ref 185, .ref 198, .int (zI i), .int (zI k), u6], [.int (zI i), .retAddr 150, .ref 185], zW K A1 O1 t1)) (f0_3 (show 1134 ≤ 1407 by decide) rfl) rfl) ?_
  refine Eq.trans (mG_st (i := (.iconst 1)) (len := 1) (z := (1410, [.retAddr 150, .ref 0, .ref 185, .ref 198, .int (zI i), .int (zI k), u6], [.int (zI 1), .int (zI i), .retAddr 150, .ref 185], zW K A1 O1 t1)) (f0_3 (show 1134 ≤ 1409 by decide) rfl) rfl) ?_
  refine Eq.trans (mG_st (i := .iadd) (len := 1) (z := (1411, [.retAddr 150, .ref 0, .ref 185, .ref 198, .int (zI i), .int (zI k), u6], [.int (zI (i + 1)), .retAddr 150, .ref 185], zW K A1 O1 t1)) (f0_3 (show 1134 ≤ 1410 by decide) rfl) zs_add) ?_
  refine Eq.trans (mG_st (i := .iaload) (len := 1) (z := (1412, [.retAddr 150, .ref 0, .ref 185, .ref 198, .int (zI i), .int (zI k), u6], [.int (zI (zScr ar (i + 1))), .ref 185], zW K A1 O1 t1)) (f0_3 (show 1134 ≤ 1411 by decide) rfl) (zM_scr (by omega) hL)) ?_
  refine Eq.trans (mG_st (i := (.aload 0)) (len := 1) (z := (1413, [.retAddr 150, .ref 0, .ref 185, .ref 198, .int (zI i), .int (zI k), u6], [.retAddr 150, .int (zI (zScr ar (i + 1))), .ref 185], zW K A1 O1 t1)) (f0_3 (show 1134 ≤ 1412 by decide) rfl) rfl) ?_
  refine Eq.trans (mG_st (i := (.iload 4)) (len := 2) (z := (1415, [.retAddr 150, .ref 0, .ref 185, .ref 198, .int (zI i), .int (zI k), u6], [.int (zI i), .retAddr 150, .int (zI (zScr ar (i + 1))), .ref 185], zW K A1 O1 t1)) (f0_3 (show 1134 ≤ 1413 by decide) rfl) rfl) ?_
  refine Eq.trans (mG_st (i := (.iconst 2)) (len := 1) (z := (1416, [.retAddr 150, .ref 0, .ref 185, .ref 198, .int (zI i), .int (zI k), u6], [.int (zI 2), .int (zI i), .retAddr 150, .int (zI (zScr ar (i + 1))), .ref 185], zW K A1 O1 t1)) (f0_3 (show 1134 ≤ 1415 by decide) rfl) rfl) ?_
  refine Eq.trans (mG_st (i := .iadd) (len := 1) (z := (1417, [.retAddr 150, .ref 0, .ref 185, .ref 198, .int (zI i), .int (zI k), u6], [.int (zI (i + 2)), .retAddr 150, .int (zI (zScr ar (i + 1))), .ref 185], zW K A1 O1 t1)) (f0_3 (show 1134 ≤ 1416 by decide) rfl) zs_add) ?_
  refine Eq.trans (mG_st (i := .iaload) (len := 1) (z := (1418, [.retAddr 150, .ref 0, .ref 185, .ref 198, .int (zI i), .int (zI k), u6], [.int (zI (zScr ar (i + 2))), .int (zI (zScr ar (i + 1))), .ref 185], zW K A1 O1 t1)) (f0_3 (show 1134 ≤ 1417 by decide) rfl) (zM_scr (by omega) hL)) ?_
  refine Eq.trans (mG_st (i := (.aload 0)) (len := 1) (z := (1419, [.retAddr 150, .ref 0, .ref 185, .ref 198, .int (zI i), .int (zI k), u6], [.retAddr 150, .int (zI (zScr ar (i + 2))), .int (zI (zScr ar (i + 1))), .ref 185], zW K A1 O1 t1)) (f0_3 (show 1134 ≤ 1418 by decide) rfl) rfl) ?_
  refine Eq.trans (mG_st (i := (.iload 4)) (len := 2) (z := (1421, [.retAddr 150, .ref 0, .ref 185, .ref 198, .int (zI i), .int (zI k), u6], [.int (zI i), .retAddr 150, .int (zI (zScr ar (i + 2))), .int (zI (zScr ar (i + 1))), .ref 185], zW K A1 O1 t1)) (f0_3 (show 1134 ≤ 1419 by decide) rfl) rfl) ?_
  refine Eq.trans (mG_st (i := (.iconst 3)) (len := 1) (z := (1422, [.retAddr 150, .ref 0, .ref 185, .ref 198, .int (zI i), .int (zI k), u6], [.int (zI 3), .int (zI i), .retAddr 150, .int (zI (zScr ar (i + 2))), .int (zI (zScr ar (i + 1))), .ref 185], zW K A1 O1 t1)) (f0_3 (show 1134 ≤ 1421 by decide) rfl) rfl) ?_
  refine Eq.trans (mG_st (i := .iadd) (len := 1) (z := (1423, [.retAddr 150, .ref 0, .ref 185, .ref 198, .int (zI i), .int (zI k), u6], [.int (zI (i + 3)), .retAddr 150, .int (zI (zScr ar (i + 2))), .int (zI (zScr ar (i + 1))), .ref 185], zW K A1 O1 t1)) (f0_3 (show 1134 ≤ 1422 by decide) rfl) zs_add) ?_
  refine Eq.trans (mG_st (i := .iaload) (len := 1) (z := (1424, [.retAddr 150, .ref 0, .ref 185, .ref 198, .int (zI i), .int (zI k), u6], [.int (zI (zScr ar (i + 3))), .int (zI (zScr ar (i + 2))), .int (zI (zScr ar (i + 1))), .ref 185], zW K A1 O1 t1)) (f0_3 (show 1134 ≤ 1423 by decide) rfl) (zM_scr (by omega) hL)) ?_
  refine Eq.trans (mG_bool (f0_3 (show 1134 ≤ 1424 by decide) rfl) (f0_3 (show 1134 ≤ 1427 by decide) rfl) (f0_3 (show 1134 ≤ 1428 by decide) rfl) (f0_3 (show 1134 ≤ 1431 by decide) rfl) zScr_r) ?_
  show mGd ar (D + 2) 0 1432 [.retAddr 150, .ref 0, .ref 185, .ref 198, .int (zI i), .int (zI k), u6] [.int (zI (if zScr ar (i + 3) = 0 then 0 else 1)), .int (zI (zScr ar (i + 2))), .int (zI (zScr ar (i + 1))), .ref 185] (zW K A1 O1 t1) = _
  refine Eq.trans (mG_ok (i := (.invokeinterface 26 3)) (len := 3) (M' := 307) (k := 4) (v := some (.int (zI b))) (w1 := zW K A2 O1 t1) (f0_3 (show 1134 ≤ 1432 by decide) rfl) (mC_if sh_185 rfl rfl rfl) rfl h4) ?_
  show mGd ar (D + 2) 0 1435 [.retAddr 150, .ref 0, .ref 185, .ref 198, .int (zI i), .int (zI k), u6] [.int (zI b)] (zW K A2 O1 t1) = _
  refine Eq.trans (mG_st (i := (.istore 6)) (len := 2) (z := (1437, [.retAddr 150, .ref 0, .ref 185, .ref 198, .int (zI i), .int (zI k), .int (zI b)], [], zW K A2 O1 t1)) (f0_4 (show 1435 ≤ 1435 by decide) rfl) rfl) ?_
  refine Eq.trans (mG_st (i := (.aload 2)) (len := 1) (z := (1438, [.retAddr 150, .ref 0, .ref 185, .ref 198, .int (zI i), .int (zI k), .int (zI b)], [.ref 185], zW K A2 O1 t1)) (f0_4 (show 1435 ≤ 1437 by decide) rfl) rfl) ?_
  refine Eq.trans (mG_ok (i := (.invokeinterface 5 0)) (len := 3) (M' := 215) (k := 1) (v := some (.int (zI (A2 185 0)))) (w1 := zW K A2 O1 t1) (f0_4 (show 1435 ≤ 1438 by decide) rfl) (mC_if sh_185 rfl rfl rfl) rfl i215_0) ?_
  rw [h5]
  show mGd ar (D + 2) 0 1441 [.retAddr 150, .ref 0, .ref 185, .ref 198, .int (zI i), .int (zI k), .int (zI b)] [.int (zI k)] (zW K A2 O1 t1) = _
  refine Eq.trans (mG_st (i := (.iload 5)) (len := 2) (z := (1443, [.retAddr 150, .ref 0, .ref 185, .ref 198, .int (zI i), .int (zI k), .int (zI b)], [.int (zI k), .int (zI k)], zW K A2 O1 t1)) (f0_4 (show 1435 ≤ 1441 by decide) rfl) rfl) ?_
  refine Eq.trans (mG_st (i := (.if_icmp .eq 5)) (len := 3) (z := (if k = k then 1448 else 1446, [.retAddr 150, .ref 0, .ref 185, .ref 198, .int (zI i), .int (zI k), .int (zI b)], [], zW K A2 O1 t1)) (f0_4 (show 1435 ≤ 1443 by decide) rfl) (zs_ic_eq (by omega) (by omega))) ?_
  rw [if_pos rfl]
  show mGd ar (D + 2) 0 1448 [.retAddr 150, .ref 0, .ref 185, .ref 198, .int (zI i), .int (zI k), .int (zI b)] [] (zW K A2 O1 t1) = _
  refine Eq.trans (mG_st (i := (.iload 5)) (len := 2) (z := (1450, [.retAddr 150, .ref 0, .ref 185, .ref 198, .int (zI i), .int (zI k), .int (zI b)], [.int (zI k)], zW K A2 O1 t1)) (f0_4 (show 1435 ≤ 1448 by decide) rfl) rfl) ?_
  refine Eq.trans (mG_st (i := (.ifCond .ne 15)) (len := 3) (z := (if k = 0 then 1453 else 1465, [.retAddr 150, .ref 0, .ref 185, .ref 198, .int (zI i), .int (zI k), .int (zI b)], [], zW K A2 O1 t1)) (f0_4 (show 1435 ≤ 1450 by decide) rfl) (zs_if_ne (by omega))) ?_
  have fin : mGd ar (D + 2) 0 1465 [.retAddr 150, .ref 0, .ref 185, .ref 198, .int (zI i), .int (zI k), .int (zI b)] [] (zW K A2 O1 t1) = mGd ar (D + 2) 0 3037 [.retAddr 150, .ref 0, .ref 185, .ref 198, .int (zI i), .int (zI k), .int (zI b)] [] (zW K A2 O1 t1) :=
    mG_st (i := (.goto 1572)) (len := 3) (z := (3037, [.retAddr 150, .ref 0, .ref 185, .ref 198, .int (zI i), .int (zI k), .int (zI b)], [], zW K A2 O1 t1)) (f0_4 (show 1435 ≤ 1465 by decide) rfl) rfl
  by_cases k0 : k = 0
  · rw [if_pos k0]
    obtain ⟨h8, h9⟩ := h7 k0
    show mGd ar (D + 2) 0 1453 [.retAddr 150, .ref 0, .ref 185, .ref 198, .int (zI i), .int (zI k), .int (zI b)] [] (zW K A2 O1 t1) = _
    refine Eq.trans (mG_st (i := (.aload 3)) (len := 1) (z := (1454, [.retAddr 150, .ref 0, .ref 185, .ref 198, .int (zI i), .int (zI k), .int (zI b)], [.ref 198], zW K A2 O1 t1)) (f0_4 (show 1435 ≤ 1453 by decide) rfl) rfl) ?_
    refine Eq.trans (mG_st (i := (.iconst 0)) (len := 1) (z := (1455, [.retAddr 150, .ref 0, .ref 185, .ref 198, .int (zI i), .int (zI k), .int (zI b)], [.int (zI 0), .ref 198], zW K A2 O1 t1)) (f0_4 (show 1435 ≤ 1454 by decide) rfl) rfl) ?_
    refine Eq.trans (mG_st (i := .laload) (len := 1) (z := (1456, [.retAddr 150, .ref 0, .ref 185, .ref 198, .int (zI i), .int (zI k), .int (zI b)], [.long (O1 0)], zW K A2 O1 t1)) (f0_4 (show 1435 ≤ 1455 by decide) rfl) zM_lald) ?_
    refine Eq.trans (mG_st (i := (.iload 6)) (len := 2) (z := (1458, [.retAddr 150, .ref 0, .ref 185, .ref 198, .int (zI i), .int (zI k), .int (zI b)], [.int (zI b), .long (O1 0)], zW K A2 O1 t1)) (f0_4 (show 1435 ≤ 1456 by decide) rfl) rfl) ?_
    refine Eq.trans (mG_st (i := .i2l) (len := 1) (z := (1459, [.retAddr 150, .ref 0, .ref 185, .ref 198, .int (zI i), .int (zI k), .int (zI b)], [.long ((zI b).toInt64), .long (O1 0)], zW K A2 O1 t1)) (f0_4 (show 1435 ≤ 1458 by decide) rfl) rfl) ?_
    show mGd ar (D + 2) 0 1459 [.retAddr 150, .ref 0, .ref 185, .ref 198, .int (zI i), .int (zI k), .int (zI b)] [.long ((zI b).toInt64), .long (O1 0)] (zW K A2 O1 t1) = _
    refine Eq.trans (mG_st (i := .lcmp) (len := 1) (z := (1460, [.retAddr 150, .ref 0, .ref 185, .ref 198, .int (zI i), .int (zI k), .int (zI b)], [.int (lg_cmp (O1 0) ((zI b).toInt64))], zW K A2 O1 t1)) (f0_4 (show 1435 ≤ 1459 by decide) rfl) rfl) ?_
    rw [show O1 0 = (zI b).toInt64 from h8, lg_same]
    exact Eq.trans (mG_st (i := (.ifCond .eq 5)) (len := 3) (z := (1465, [.retAddr 150, .ref 0, .ref 185, .ref 198, .int (zI i), .int (zI k), .int (zI b)], [], zW K A2 O1 t1)) (f0_4 (show 1435 ≤ 1460 by decide) rfl) rfl) fin
  · rw [if_neg k0]; exact fin
end CASE14
