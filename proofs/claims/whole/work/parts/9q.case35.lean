/-! THE LAW, 3: the cases of its switch (by program: wip/gen/gen30.py) -/
section CASE35
variable {ar : Nat → Nat × (Nat → Int32)} {d D t : Nat} {K : Nat → Nat → Option Nat} {A : Nat → Int → Int} {O : Nat → Int64}

set_option maxRecDepth 20000 in
theorem cs_village {i : Int} {u5 u6 : Value} (hL : (ar 150).1 ≤ 3072) (hi : 0 ≤ i ∧ i + 6 ≤ ((ar 150).1 : Int)) (hq : zWr ar K O t (D + 1) 192 [.ref 0, .int (zI (zScr ar (i + 1))), .ref 198, .double 0] 330 [.ref 185, .int (zI (zScr ar (i + 1))), .double 0, .double 0, .double 0] (fun b => (zI b).toInt64) A) : zNext ar K D i u5 u6 A O t 2389 := by
  obtain ⟨k, A1, O1, t1, h1, h2, h3, b, A2, h4, h5, h6, h7⟩ := hq
  refine ⟨A2, O1, t1, .int (zI k), .int (zI b), h2, h6, ?_⟩
  refine Eq.trans (mG_st (i := (.aload 1)) (len := 1) (z := (2390, [.retAddr 150, .ref 0, .ref 185, .ref 198, .int (zI i), u5, u6], [.ref 0], zW K A O t)) (f0_7 (show 2355 ≤ 2389 by decide) rfl) rfl) ?_
  refine Eq.trans (mG_st (i := (.aload 0)) (len := 1) (z := (2391, [.retAddr 150, .ref 0, .ref 185, .ref 198, .int (zI i), u5, u6], [.retAddr 150, .ref 0], zW K A O t)) (f0_7 (show 2355 ≤ 2390 by decide) rfl) rfl) ?_
  refine Eq.trans (mG_st (i := (.iload 4)) (len := 2) (z := (2393, [.retAddr 150, .ref 0, .ref 185, .ref 198, .int (zI i), u5, u6], [.int (zI i), .retAddr 150, .ref 0], zW K A O t)) (f0_7 (show 2355 ≤ 2391 by decide) rfl) rfl) ?_
  refine Eq.trans (mG_st (i := (.iconst 1)) (len := 1) (z := (2394, [.retAddr 150, .ref 0, .ref 185, .ref 198, .int (zI i), u5, u6], [.int (zI 1), .int (zI i), .retAddr 150, .ref 0], zW K A O t)) (f0_7 (show 2355 ≤ 2393 by decide) rfl) rfl) ?_
  refine Eq.trans (mG_st (i := .iadd) (len := 1) (z := (2395, [.retAddr 150, .ref 0, .ref 185, .ref 198, .int (zI i), u5, u6], [.int (zI (i + 1)), .retAddr 150, .ref 0], zW K A O t)) (f0_7 (show 2355 ≤ 2394 by decide) rfl) zs_add) ?_
  refine Eq.trans (mG_st (i := .iaload) (len := 1) (z := (2396, [.retAddr 150, .ref 0, .ref 185, .ref 198, .int (zI i), u5, u6], [.int (zI (zScr ar (i + 1))), .ref 0], zW K A O t)) (f0_7 (show 2355 ≤ 2395 by decide) rfl) (zM_scr (by omega) hL)) ?_
  refine Eq.trans (mG_st (i := (.aload 3)) (len := 1) (z := (2397, [.retAddr 150, .ref 0, .ref 185, .ref 198, .int (zI i), u5, u6], [.ref 198, .int (zI (zScr ar (i + 1))), .ref 0], zW K A O t)) (f0_7 (show 2355 ≤ 2396 by decide) rfl) rfl) ?_
  refine Eq.trans (mG_ok (i := (.invokestatic 192)) (len := 3) (M' := 192) (k := 3) (v := some (.int (zI k))) (w1 := zW K A1 O1 t1) (f0_7 (show 2355 ≤ 2397 by decide) rfl) rfl rfl h1) ?_
  show mGd ar (D + 2) 0 2400 [.retAddr 150, .ref 0, .ref 185, .ref 198, .int (zI i), u5, u6] [.int (zI k)] (zW K A1 O1 t1) = _
  refine Eq.trans (mG_st (i := (.istore 5)) (len := 2) (z := (2402, [.retAddr 150, .ref 0, .ref 185, .ref 198, .int (zI i), .int (zI k), u6], [], zW K A1 O1 t1)) (f0_7 (show 2355 ≤ 2400 by decide) rfl) rfl) ?_
  refine Eq.trans (mG_st (i := (.aload 2)) (len := 1) (z := (2403, [.retAddr 150, .ref 0, .ref 185, .ref 198, .int (zI i), .int (zI k), u6], [.ref 185], zW K A1 O1 t1)) (f0_7 (show 2355 ≤ 2402 by decide) rfl) rfl) ?_
  refine Eq.trans (mG_st (i := (.aload 0)) (len := 1) (z := (2404, [.retAddr 150, .ref 0, .ref 185, .ref 198, .int (zI i), .int (zI k), u6], [.retAddr 150, .ref 185], zW K A1 O1 t1)) (f0_7 (show 2355 ≤ 2403 by decide) rfl) rfl) ?_
  refine Eq.trans (mG_st (i := (.iload 4)) (len := 2) (z := (2406, [.retAddr 150, .ref 0, .ref 185, .ref 198, .int (zI i), .int (zI k), u6], [.int (zI i), .retAddr 150, .ref 185], zW K A1 O1 t1)) (f0_7 (show 2355 ≤ 2404 by decide) rfl) rfl) ?_
  refine Eq.trans (mG_st (i := (.iconst 1)) (len := 1) (z := (2407, [.retAddr 150, .ref 0, .ref 185, .ref 198, .int (zI i), .int (zI k), u6], [.int (zI 1), .int (zI i), .retAddr 150, .ref 185], zW K A1 O1 t1)) (f0_7 (show 2355 ≤ 2406 by decide) rfl) rfl) ?_
  refine Eq.trans (mG_st (i := .iadd) (len := 1) (z := (2408, [.retAddr 150, .ref 0, .ref 185, .ref 198, .int (zI i), .int (zI k), u6], [.int (zI (i + 1)), .retAddr 150, .ref 185], zW K A1 O1 t1)) (f0_7 (show 2355 ≤ 2407 by decide) rfl) zs_add) ?_
  refine Eq.trans (mG_st (i := .iaload) (len := 1) (z := (2409, [.retAddr 150, .ref 0, .ref 185, .ref 198, .int (zI i), .int (zI k), u6], [.int (zI (zScr ar (i + 1))), .ref 185], zW K A1 O1 t1)) (f0_7 (show 2355 ≤ 2408 by decide) rfl) (zM_scr (by omega) hL)) ?_
  refine Eq.trans (mG_ok (i := (.invokeinterface 43 1)) (len := 3) (M' := 330) (k := 2) (v := some (.int (zI b))) (w1 := zW K A2 O1 t1) (f0_7 (show 2355 ≤ 2409 by decide) rfl) (mC_if sh_185 rfl rfl rfl) rfl h4) ?_
  show mGd ar (D + 2) 0 2412 [.retAddr 150, .ref 0, .ref 185, .ref 198, .int (zI i), .int (zI k), u6] [.int (zI b)] (zW K A2 O1 t1) = _
  refine Eq.trans (mG_st (i := (.istore 6)) (len := 2) (z := (2414, [.retAddr 150, .ref 0, .ref 185, .ref 198, .int (zI i), .int (zI k), .int (zI b)], [], zW K A2 O1 t1)) (f0_7 (show 2355 ≤ 2412 by decide) rfl) rfl) ?_
  refine Eq.trans (mG_st (i := (.aload 2)) (len := 1) (z := (2415, [.retAddr 150, .ref 0, .ref 185, .ref 198, .int (zI i), .int (zI k), .int (zI b)], [.ref 185], zW K A2 O1 t1)) (f0_7 (show 2355 ≤ 2414 by decide) rfl) rfl) ?_
  refine Eq.trans (mG_ok (i := (.invokeinterface 5 0)) (len := 3) (M' := 215) (k := 1) (v := some (.int (zI (A2 185 0)))) (w1 := zW K A2 O1 t1) (f0_7 (show 2355 ≤ 2415 by decide) rfl) (mC_if sh_185 rfl rfl rfl) rfl i215_0) ?_
  rw [h5]
  show mGd ar (D + 2) 0 2418 [.retAddr 150, .ref 0, .ref 185, .ref 198, .int (zI i), .int (zI k), .int (zI b)] [.int (zI k)] (zW K A2 O1 t1) = _
  refine Eq.trans (mG_st (i := (.iload 5)) (len := 2) (z := (2420, [.retAddr 150, .ref 0, .ref 185, .ref 198, .int (zI i), .int (zI k), .int (zI b)], [.int (zI k), .int (zI k)], zW K A2 O1 t1)) (f0_7 (show 2355 ≤ 2418 by decide) rfl) rfl) ?_
  refine Eq.trans (mG_st (i := (.if_icmp .eq 5)) (len := 3) (z := (if k = k then 2425 else 2423, [.retAddr 150, .ref 0, .ref 185, .ref 198, .int (zI i), .int (zI k), .int (zI b)], [], zW K A2 O1 t1)) (f0_7 (show 2355 ≤ 2420 by decide) rfl) (zs_ic_eq (by omega) (by omega))) ?_
  rw [if_pos rfl]
  show mGd ar (D + 2) 0 2425 [.retAddr 150, .ref 0, .ref 185, .ref 198, .int (zI i), .int (zI k), .int (zI b)] [] (zW K A2 O1 t1) = _
  refine Eq.trans (mG_st (i := (.iload 5)) (len := 2) (z := (2427, [.retAddr 150, .ref 0, .ref 185, .ref 198, .int (zI i), .int (zI k), .int (zI b)], [.int (zI k)], zW K A2 O1 t1)) (f0_7 (show 2355 ≤ 2425 by decide) rfl) rfl) ?_
  refine Eq.trans (mG_st (i := (.ifCond .ne 15)) (len := 3) (z := (if k = 0 then 2430 else 2442, [.retAddr 150, .ref 0, .ref 185, .ref 198, .int (zI i), .int (zI k), .int (zI b)], [], zW K A2 O1 t1)) (f0_7 (show 2355 ≤ 2427 by decide) rfl) (zs_if_ne (by omega))) ?_
  have fin : mGd ar (D + 2) 0 2442 [.retAddr 150, .ref 0, .ref 185, .ref 198, .int (zI i), .int (zI k), .int (zI b)] [] (zW K A2 O1 t1) = mGd ar (D + 2) 0 3037 [.retAddr 150, .ref 0, .ref 185, .ref 198, .int (zI i), .int (zI k), .int (zI b)] [] (zW K A2 O1 t1) :=
    mG_st (i := (.goto 595)) (len := 3) (z := (3037, [.retAddr 150, .ref 0, .ref 185, .ref 198, .int (zI i), .int (zI k), .int (zI b)], [], zW K A2 O1 t1)) (f0_7 (show 2355 ≤ 2442 by decide) rfl) rfl
  by_cases k0 : k = 0
  · rw [if_pos k0]
    obtain ⟨h8, h9⟩ := h7 k0
    show mGd ar (D + 2) 0 2430 [.retAddr 150, .ref 0, .ref 185, .ref 198, .int (zI i), .int (zI k), .int (zI b)] [] (zW K A2 O1 t1) = _
    refine Eq.trans (mG_st (i := (.aload 3)) (len := 1) (z := (2431, [.retAddr 150, .ref 0, .ref 185, .ref 198, .int (zI i), .int (zI k), .int (zI b)], [.ref 198], zW K A2 O1 t1)) (f0_7 (show 2355 ≤ 2430 by decide) rfl) rfl) ?_
    refine Eq.trans (mG_st (i := (.iconst 0)) (len := 1) (z := (2432, [.retAddr 150, .ref 0, .ref 185, .ref 198, .int (zI i), .int (zI k), .int (zI b)], [.int (zI 0), .ref 198], zW K A2 O1 t1)) (f0_7 (show 2355 ≤ 2431 by decide) rfl) rfl) ?_
    refine Eq.trans (mG_st (i := .laload) (len := 1) (z := (2433, [.retAddr 150, .ref 0, .ref 185, .ref 198, .int (zI i), .int (zI k), .int (zI b)], [.long (O1 0)], zW K A2 O1 t1)) (f0_7 (show 2355 ≤ 2432 by decide) rfl) zM_lald) ?_
    refine Eq.trans (mG_st (i := (.iload 6)) (len := 2) (z := (2435, [.retAddr 150, .ref 0, .ref 185, .ref 198, .int (zI i), .int (zI k), .int (zI b)], [.int (zI b), .long (O1 0)], zW K A2 O1 t1)) (f0_7 (show 2355 ≤ 2433 by decide) rfl) rfl) ?_
    refine Eq.trans (mG_st (i := .i2l) (len := 1) (z := (2436, [.retAddr 150, .ref 0, .ref 185, .ref 198, .int (zI i), .int (zI k), .int (zI b)], [.long ((zI b).toInt64), .long (O1 0)], zW K A2 O1 t1)) (f0_7 (show 2355 ≤ 2435 by decide) rfl) rfl) ?_
    show mGd ar (D + 2) 0 2436 [.retAddr 150, .ref 0, .ref 185, .ref 198, .int (zI i), .int (zI k), .int (zI b)] [.long ((zI b).toInt64), .long (O1 0)] (zW K A2 O1 t1) = _
    refine Eq.trans (mG_st (i := .lcmp) (len := 1) (z := (2437, [.retAddr 150, .ref 0, .ref 185, .ref 198, .int (zI i), .int (zI k), .int (zI b)], [.int (lg_cmp (O1 0) ((zI b).toInt64))], zW K A2 O1 t1)) (f0_7 (show 2355 ≤ 2436 by decide) rfl) rfl) ?_
    rw [show O1 0 = (zI b).toInt64 from h8, lg_same]
    exact Eq.trans (mG_st (i := (.ifCond .eq 5)) (len := 3) (z := (2442, [.retAddr 150, .ref 0, .ref 185, .ref 198, .int (zI i), .int (zI k), .int (zI b)], [], zW K A2 O1 t1)) (f0_7 (show 2355 ≤ 2437 by decide) rfl) rfl) fin
  · rw [if_neg k0]; exact fin
set_option maxRecDepth 20000 in
theorem cs_majority {i : Int} {u5 u6 : Value} (hL : (ar 150).1 ≤ 3072) (hi : 0 ≤ i ∧ i + 6 ≤ ((ar 150).1 : Int)) (hq : zWr ar K O t (D + 1) 196 [.ref 0, .int (zI (zScr ar (i + 1))), .int (zI (zScr ar (i + 2))), .ref 198, .double 0] 332 [.ref 185, .int (zI (zScr ar (i + 1))), .int (zI (zScr ar (i + 2))), .double 0, .double 0] (fun b => (zI b).toInt64) A) : zNext ar K D i u5 u6 A O t 2445 := by
  obtain ⟨k, A1, O1, t1, h1, h2, h3, b, A2, h4, h5, h6, h7⟩ := hq
  refine ⟨A2, O1, t1, .int (zI k), .int (zI b), h2, h6, ?_⟩
  refine Eq.trans (mG_st (i := (.aload 1)) (len := 1) (z := (2446, [.retAddr 150, .ref 0, .ref 185, .ref 198, .int (zI i), u5, u6], [.ref 0], zW K A O t)) (f0_7 (show 2355 ≤ 2445 by decide) rfl) rfl) ?_
  refine Eq.trans (mG_st (i := (.aload 0)) (len := 1) (z := (2447, [.retAddr 150, .ref 0, .ref 185, .ref 198, .int (zI i), u5, u6], [.retAddr 150, .ref 0], zW K A O t)) (f0_7 (show 2355 ≤ 2446 by decide) rfl) rfl) ?_
  refine Eq.trans (mG_st (i := (.iload 4)) (len := 2) (z := (2449, [.retAddr 150, .ref 0, .ref 185, .ref 198, .int (zI i), u5, u6], [.int (zI i), .retAddr 150, .ref 0], zW K A O t)) (f0_7 (show 2355 ≤ 2447 by decide) rfl) rfl) ?_
  refine Eq.trans (mG_st (i := (.iconst 1)) (len := 1) (z := (2450, [.retAddr 150, .ref 0, .ref 185, .ref 198, .int (zI i), u5, u6], [.int (zI 1), .int (zI i), .retAddr 150, .ref 0], zW K A O t)) (f0_7 (show 2355 ≤ 2449 by decide) rfl) rfl) ?_
  refine Eq.trans (mG_st (i := .iadd) (len := 1) (z := (2451, [.retAddr 150, .ref 0, .ref 185, .ref 198, .int (zI i), u5, u6], [.int (zI (i + 1)), .retAddr 150, .ref 0], zW K A O t)) (f0_7 (show 2355 ≤ 2450 by decide) rfl) zs_add) ?_
  refine Eq.trans (mG_st (i := .iaload) (len := 1) (z := (2452, [.retAddr 150, .ref 0, .ref 185, .ref 198, .int (zI i), u5, u6], [.int (zI (zScr ar (i + 1))), .ref 0], zW K A O t)) (f0_7 (show 2355 ≤ 2451 by decide) rfl) (zM_scr (by omega) hL)) ?_
  refine Eq.trans (mG_st (i := (.aload 0)) (len := 1) (z := (2453, [.retAddr 150, .ref 0, .ref 185, .ref 198, .int (zI i), u5, u6], [.retAddr 150, .int (zI (zScr ar (i + 1))), .ref 0], zW K A O t)) (f0_7 (show 2355 ≤ 2452 by decide) rfl) rfl) ?_
  refine Eq.trans (mG_st (i := (.iload 4)) (len := 2) (z := (2455, [.retAddr 150, .ref 0, .ref 185, .ref 198, .int (zI i), u5, u6], [.int (zI i), .retAddr 150, .int (zI (zScr ar (i + 1))), .ref 0], zW K A O t)) (f0_7 (show 2355 ≤ 2453 by decide) rfl) rfl) ?_
  refine Eq.trans (mG_st (i := (.iconst 2)) (len := 1) (z := (2456, [.retAddr 150, .ref 0, .ref 185, .ref 198, .int (zI i), u5, u6], [.int (zI 2), .int (zI i), .retAddr 150, .int (zI (zScr ar (i + 1))), .ref 0], zW K A O t)) (f0_7 (show 2355 ≤ 2455 by decide) rfl) rfl) ?_
  refine Eq.trans (mG_st (i := .iadd) (len := 1) (z := (2457, [.retAddr 150, .ref 0, .ref 185, .ref 198, .int (zI i), u5, u6], [.int (zI (i + 2)), .retAddr 150, .int (zI (zScr ar (i + 1))), .ref 0], zW K A O t)) (f0_7 (show 2355 ≤ 2456 by decide) rfl) zs_add) ?_
  refine Eq.trans (mG_st (i := .iaload) (len := 1) (z := (2458, [.retAddr 150, .ref 0, .ref 185, .ref 198, .int (zI i), u5, u6], [.int (zI (zScr ar (i + 2))), .int (zI (zScr ar (i + 1))), .ref 0], zW K A O t)) (f0_7 (show 2355 ≤ 2457 by decide) rfl) (zM_scr (by omega) hL)) ?_
  refine Eq.trans (mG_st (i := (.aload 3)) (len := 1) (z := (2459, [.retAddr 150, .ref 0, .ref 185, .ref 198, .int (zI i), u5, u6], [.ref 198, .int (zI (zScr ar (i + 2))), .int (zI (zScr ar (i + 1))), .ref 0], zW K A O t)) (f0_7 (show 2355 ≤ 2458 by decide) rfl) rfl) ?_
  refine Eq.trans (mG_ok (i := (.invokestatic 196)) (len := 3) (M' := 196) (k := 4) (v := some (.int (zI k))) (w1 := zW K A1 O1 t1) (f0_7 (show 2355 ≤ 2459 by decide) rfl) rfl rfl h1) ?_
  show mGd ar (D + 2) 0 2462 [.retAddr 150, .ref 0, .ref 185, .ref 198, .int (zI i), u5, u6] [.int (zI k)] (zW K A1 O1 t1) = _
  refine Eq.trans (mG_st (i := (.istore 5)) (len := 2) (z := (2464, [.retAddr 150, .ref 0, .ref 185, .ref 198, .int (zI i), .int (zI k), u6], [], zW K A1 O1 t1)) (f0_7 (show 2355 ≤ 2462 by decide) rfl) rfl) ?_
  refine Eq.trans (mG_st (i := (.aload 2)) (len := 1) (z := (2465, [.retAddr 150, .ref 0, .ref 185, .ref 198, .int (zI i), .int (zI k), u6], [.ref 185], zW K A1 O1 t1)) (f0_7 (show 2355 ≤ 2464 by decide) rfl) rfl) ?_
  refine Eq.trans (mG_st (i := (.aload 0)) (len := 1) (z := (2466, [.retAddr 150, .ref 0, .ref 185, .ref 198, .int (zI i), .int (zI k), u6], [.retAddr 150, .ref 185], zW K A1 O1 t1)) (f0_7 (show 2355 ≤ 2465 by decide) rfl) rfl) ?_
  refine Eq.trans (mG_st (i := (.iload 4)) (len := 2) (z := (2468, [.retAddr 150, .ref 0, .ref 185, .ref 198, .int (zI i), .int (zI k), u6], [.int (zI i), .retAddr 150, .ref 185], zW K A1 O1 t1)) (f0_7 (show 2355 ≤ 2466 by decide) rfl) rfl) ?_
  refine Eq.trans (mG_st (i := (.iconst 1)) (len := 1) (z := (2469, [.retAddr 150, .ref 0, .ref 185, .ref 198, .int (zI i), .int (zI k), u6], [.int (zI 1), .int (zI i), .retAddr 150, .ref 185], zW K A1 O1 t1)) (f0_7 (show 2355 ≤ 2468 by decide) rfl) rfl) ?_
  refine Eq.trans (mG_st (i := .iadd) (len := 1) (z := (2470, [.retAddr 150, .ref 0, .ref 185, .ref 198, .int (zI i), .int (zI k), u6], [.int (zI (i + 1)), .retAddr 150, .ref 185], zW K A1 O1 t1)) (f0_7 (show 2355 ≤ 2469 by decide) rfl) zs_add) ?_
  refine Eq.trans (mG_st (i := .iaload) (len := 1) (z := (2471, [.retAddr 150, .ref 0, .ref 185, .ref 198, .int (zI i), .int (zI k), u6], [.int (zI (zScr ar (i + 1))), .ref 185], zW K A1 O1 t1)) (f0_7 (show 2355 ≤ 2470 by decide) rfl) (zM_scr (by omega) hL)) ?_
  refine Eq.trans (mG_st (i := (.aload 0)) (len := 1) (z := (2472, [.retAddr 150, .ref 0, .ref 185, .ref 198, .int (zI i), .int (zI k), u6], [.retAddr 150, .int (zI (zScr ar (i + 1))), .ref 185], zW K A1 O1 t1)) (f0_7 (show 2355 ≤ 2471 by decide) rfl) rfl) ?_
  refine Eq.trans (mG_st (i := (.iload 4)) (len := 2) (z := (2474, [.retAddr 150, .ref 0, .ref 185, .ref 198, .int (zI i), .int (zI k), u6], [.int (zI i), .retAddr 150, .int (zI (zScr ar (i + 1))), .ref 185], zW K A1 O1 t1)) (f0_7 (show 2355 ≤ 2472 by decide) rfl) rfl) ?_
  refine Eq.trans (mG_st (i := (.iconst 2)) (len := 1) (z := (2475, [.retAddr 150, .ref 0, .ref 185, .ref 198, .int (zI i), .int (zI k), u6], [.int (zI 2), .int (zI i), .retAddr 150, .int (zI (zScr ar (i + 1))), .ref 185], zW K A1 O1 t1)) (f0_7 (show 2355 ≤ 2474 by decide) rfl) rfl) ?_
  refine Eq.trans (mG_st (i := .iadd) (len := 1) (z := (2476, [.retAddr 150, .ref 0, .ref 185, .ref 198, .int (zI i), .int (zI k), u6], [.int (zI (i + 2)), .retAddr 150, .int (zI (zScr ar (i + 1))), .ref 185], zW K A1 O1 t1)) (f0_7 (show 2355 ≤ 2475 by decide) rfl) zs_add) ?_
  refine Eq.trans (mG_st (i := .iaload) (len := 1) (z := (2477, [.retAddr 150, .ref 0, .ref 185, .ref 198, .int (zI i), .int (zI k), u6], [.int (zI (zScr ar (i + 2))), .int (zI (zScr ar (i + 1))), .ref 185], zW K A1 O1 t1)) (f0_7 (show 2355 ≤ 2476 by decide) rfl) (zM_scr (by omega) hL)) ?_
  refine Eq.trans (mG_ok (i := (.invokeinterface 44 2)) (len := 3) (M' := 332) (k := 3) (v := some (.int (zI b))) (w1 := zW K A2 O1 t1) (f0_7 (show 2355 ≤ 2477 by decide) rfl) (mC_if sh_185 rfl rfl rfl) rfl h4) ?_
  show mGd ar (D + 2) 0 2480 [.retAddr 150, .ref 0, .ref 185, .ref 198, .int (zI i), .int (zI k), u6] [.int (zI b)] (zW K A2 O1 t1) = _
  refine Eq.trans (mG_st (i := (.istore 6)) (len := 2) (z := (2482, [.retAddr 150, .ref 0, .ref 185, .ref 198, .int (zI i), .int (zI k), .int (zI b)], [], zW K A2 O1 t1)) (f0_7 (show 2355 ≤ 2480 by decide) rfl) rfl) ?_
  refine Eq.trans (mG_st (i := (.aload 2)) (len := 1) (z := (2483, [.retAddr 150, .ref 0, .ref 185, .ref 198, .int (zI i), .int (zI k), .int (zI b)], [.ref 185], zW K A2 O1 t1)) (f0_7 (show 2355 ≤ 2482 by decide) rfl) rfl) ?_
  refine Eq.trans (mG_ok (i := (.invokeinterface 5 0)) (len := 3) (M' := 215) (k := 1) (v := some (.int (zI (A2 185 0)))) (w1 := zW K A2 O1 t1) (f0_7 (show 2355 ≤ 2483 by decide) rfl) (mC_if sh_185 rfl rfl rfl) rfl i215_0) ?_
  rw [h5]
  show mGd ar (D + 2) 0 2486 [.retAddr 150, .ref 0, .ref 185, .ref 198, .int (zI i), .int (zI k), .int (zI b)] [.int (zI k)] (zW K A2 O1 t1) = _
  refine Eq.trans (mG_st (i := (.iload 5)) (len := 2) (z := (2488, [.retAddr 150, .ref 0, .ref 185, .ref 198, .int (zI i), .int (zI k), .int (zI b)], [.int (zI k), .int (zI k)], zW K A2 O1 t1)) (f0_7 (show 2355 ≤ 2486 by decide) rfl) rfl) ?_
  refine Eq.trans (mG_st (i := (.if_icmp .eq 5)) (len := 3) (z := (if k = k then 2493 else 2491, [.retAddr 150, .ref 0, .ref 185, .ref 198, .int (zI i), .int (zI k), .int (zI b)], [], zW K A2 O1 t1)) (f0_7 (show 2355 ≤ 2488 by decide) rfl) (zs_ic_eq (by omega) (by omega))) ?_
  rw [if_pos rfl]
  show mGd ar (D + 2) 0 2493 [.retAddr 150, .ref 0, .ref 185, .ref 198, .int (zI i), .int (zI k), .int (zI b)] [] (zW K A2 O1 t1) = _
  refine Eq.trans (mG_st (i := (.iload 5)) (len := 2) (z := (2495, [.retAddr 150, .ref 0, .ref 185, .ref 198, .int (zI i), .int (zI k), .int (zI b)], [.int (zI k)], zW K A2 O1 t1)) (f0_7 (show 2355 ≤ 2493 by decide) rfl) rfl) ?_
  refine Eq.trans (mG_st (i := (.ifCond .ne 15)) (len := 3) (z := (if k = 0 then 2498 else 2510, [.retAddr 150, .ref 0, .ref 185, .ref 198, .int (zI i), .int (zI k), .int (zI b)], [], zW K A2 O1 t1)) (f0_7 (show 2355 ≤ 2495 by decide) rfl) (zs_if_ne (by omega))) ?_
  have fin : mGd ar (D + 2) 0 2510 [.retAddr 150, .ref 0, .ref 185, .ref 198, .int (zI i), .int (zI k), .int (zI b)] [] (zW K A2 O1 t1) = mGd ar (D + 2) 0 3037 [.retAddr 150, .ref 0, .ref 185, .ref 198, .int (zI i), .int (zI k), .int (zI b)] [] (zW K A2 O1 t1) :=
    mG_st (i := (.goto 527)) (len := 3) (z := (3037, [.retAddr 150, .ref 0, .ref 185, .ref 198, .int (zI i), .int (zI k), .int (zI b)], [], zW K A2 O1 t1)) (f0_7 (show 2355 ≤ 2510 by decide) rfl) rfl
  by_cases k0 : k = 0
  · rw [if_pos k0]
    obtain ⟨h8, h9⟩ := h7 k0
    show mGd ar (D + 2) 0 2498 [.retAddr 150, .ref 0, .ref 185, .ref 198, .int (zI i), .int (zI k), .int (zI b)] [] (zW K A2 O1 t1) = _
    refine Eq.trans (mG_st (i := (.aload 3)) (len := 1) (z := (2499, [.retAddr 150, .ref 0, .ref 185, .ref 198, .int (zI i), .int (zI k), .int (zI b)], [.ref 198], zW K A2 O1 t1)) (f0_7 (show 2355 ≤ 2498 by decide) rfl) rfl) ?_
    refine Eq.trans (mG_st (i := (.iconst 0)) (len := 1) (z := (2500, [.retAddr 150, .ref 0, .ref 185, .ref 198, .int (zI i), .int (zI k), .int (zI b)], [.int (zI 0), .ref 198], zW K A2 O1 t1)) (f0_7 (show 2355 ≤ 2499 by decide) rfl) rfl) ?_
    refine Eq.trans (mG_st (i := .laload) (len := 1) (z := (2501, [.retAddr 150, .ref 0, .ref 185, .ref 198, .int (zI i), .int (zI k), .int (zI b)], [.long (O1 0)], zW K A2 O1 t1)) (f0_7 (show 2355 ≤ 2500 by decide) rfl) zM_lald) ?_
    refine Eq.trans (mG_st (i := (.iload 6)) (len := 2) (z := (2503, [.retAddr 150, .ref 0, .ref 185, .ref 198, .int (zI i), .int (zI k), .int (zI b)], [.int (zI b), .long (O1 0)], zW K A2 O1 t1)) (f0_7 (show 2355 ≤ 2501 by decide) rfl) rfl) ?_
    refine Eq.trans (mG_st (i := .i2l) (len := 1) (z := (2504, [.retAddr 150, .ref 0, .ref 185, .ref 198, .int (zI i), .int (zI k), .int (zI b)], [.long ((zI b).toInt64), .long (O1 0)], zW K A2 O1 t1)) (f0_7 (show 2355 ≤ 2503 by decide) rfl) rfl) ?_
    show mGd ar (D + 2) 0 2504 [.retAddr 150, .ref 0, .ref 185, .ref 198, .int (zI i), .int (zI k), .int (zI b)] [.long ((zI b).toInt64), .long (O1 0)] (zW K A2 O1 t1) = _
    refine Eq.trans (mG_st (i := .lcmp) (len := 1) (z := (2505, [.retAddr 150, .ref 0, .ref 185, .ref 198, .int (zI i), .int (zI k), .int (zI b)], [.int (lg_cmp (O1 0) ((zI b).toInt64))], zW K A2 O1 t1)) (f0_7 (show 2355 ≤ 2504 by decide) rfl) rfl) ?_
    rw [show O1 0 = (zI b).toInt64 from h8, lg_same]
    exact Eq.trans (mG_st (i := (.ifCond .eq 5)) (len := 3) (z := (2510, [.retAddr 150, .ref 0, .ref 185, .ref 198, .int (zI i), .int (zI k), .int (zI b)], [], zW K A2 O1 t1)) (f0_7 (show 2355 ≤ 2505 by decide) rfl) rfl) fin
  · rw [if_neg k0]; exact fin
set_option maxRecDepth 20000 in
theorem cs_rank {i : Int} {u5 u6 : Value} (hL : (ar 150).1 ≤ 3072) (hi : 0 ≤ i ∧ i + 6 ≤ ((ar 150).1 : Int)) (hq : zWr ar K O t (D + 1) 199 [.ref 0, .int (zI (zScr ar (i + 1))), .int (zI (zScr ar (i + 2))), .ref 198, .double 0] 334 [.ref 185, .int (zI (zScr ar (i + 1))), .int (zI (zScr ar (i + 2)))] (fun b => (zI b).toInt64) A) : zNext ar K D i u5 u6 A O t 2513 := by
  obtain ⟨k, A1, O1, t1, h1, h2, h3, b, A2, h4, h5, h6, h7⟩ := hq
  refine ⟨A2, O1, t1, .int (zI k), .int (zI b), h2, h6, ?_⟩
  refine Eq.trans (mG_st (i := (.aload 1)) (len := 1) (z := (2514, [.retAddr 150, .ref 0, .ref 185, .ref 198, .int (zI i), u5, u6], [.ref 0], zW K A O t)) (f0_7 (show 2355 ≤ 2513 by decide) rfl) rfl) ?_
  refine Eq.trans (mG_st (i := (.aload 0)) (len := 1) (z := (2515, [.retAddr 150, .ref 0, .ref 185, .ref 198, .int (zI i), u5, u6], [.retAddr 150, .ref 0], zW K A O t)) (f0_7 (show 2355 ≤ 2514 by decide) rfl) rfl) ?_
  refine Eq.trans (mG_st (i := (.iload 4)) (len := 2) (z := (2517, [.retAddr 150, .ref 0, .ref 185, .ref 198, .int (zI i), u5, u6], [.int (zI i), .retAddr 150, .ref 0], zW K A O t)) (f0_7 (show 2355 ≤ 2515 by decide) rfl) rfl) ?_
  refine Eq.trans (mG_st (i := (.iconst 1)) (len := 1) (z := (2518, [.retAddr 150, .ref 0, .ref 185, .ref 198, .int (zI i), u5, u6], [.int (zI 1), .int (zI i), .retAddr 150, .ref 0], zW K A O t)) (f0_7 (show 2355 ≤ 2517 by decide) rfl) rfl) ?_
  refine Eq.trans (mG_st (i := .iadd) (len := 1) (z := (2519, [.retAddr 150, .ref 0, .ref 185, .ref 198, .int (zI i), u5, u6], [.int (zI (i + 1)), .retAddr 150, .ref 0], zW K A O t)) (f0_7 (show 2355 ≤ 2518 by decide) rfl) zs_add) ?_
  refine Eq.trans (mG_st (i := .iaload) (len := 1) (z := (2520, [.retAddr 150, .ref 0, .ref 185, .ref 198, .int (zI i), u5, u6], [.int (zI (zScr ar (i + 1))), .ref 0], zW K A O t)) (f0_7 (show 2355 ≤ 2519 by decide) rfl) (zM_scr (by omega) hL)) ?_
  refine Eq.trans (mG_st (i := (.aload 0)) (len := 1) (z := (2521, [.retAddr 150, .ref 0, .ref 185, .ref 198, .int (zI i), u5, u6], [.retAddr 150, .int (zI (zScr ar (i + 1))), .ref 0], zW K A O t)) (f0_7 (show 2355 ≤ 2520 by decide) rfl) rfl) ?_
  refine Eq.trans (mG_st (i := (.iload 4)) (len := 2) (z := (2523, [.retAddr 150, .ref 0, .ref 185, .ref 198, .int (zI i), u5, u6], [.int (zI i), .retAddr 150, .int (zI (zScr ar (i + 1))), .ref 0], zW K A O t)) (f0_7 (show 2355 ≤ 2521 by decide) rfl) rfl) ?_
  refine Eq.trans (mG_st (i := (.iconst 2)) (len := 1) (z := (2524, [.retAddr 150, .ref 0, .ref 185, .ref 198, .int (zI i), u5, u6], [.int (zI 2), .int (zI i), .retAddr 150, .int (zI (zScr ar (i + 1))), .ref 0], zW K A O t)) (f0_7 (show 2355 ≤ 2523 by decide) rfl) rfl) ?_
  refine Eq.trans (mG_st (i := .iadd) (len := 1) (z := (2525, [.retAddr 150, .ref 0, .ref 185, .ref 198, .int (zI i), u5, u6], [.int (zI (i + 2)), .retAddr 150, .int (zI (zScr ar (i + 1))), .ref 0], zW K A O t)) (f0_7 (show 2355 ≤ 2524 by decide) rfl) zs_add) ?_
  refine Eq.trans (mG_st (i := .iaload) (len := 1) (z := (2526, [.retAddr 150, .ref 0, .ref 185, .ref 198, .int (zI i), u5, u6], [.int (zI (zScr ar (i + 2))), .int (zI (zScr ar (i + 1))), .ref 0], zW K A O t)) (f0_7 (show 2355 ≤ 2525 by decide) rfl) (zM_scr (by omega) hL)) ?_
  refine Eq.trans (mG_st (i := (.aload 3)) (len := 1) (z := (2527, [.retAddr 150, .ref 0, .ref 185, .ref 198, .int (zI i), u5, u6], [.ref 198, .int (zI (zScr ar (i + 2))), .int (zI (zScr ar (i + 1))), .ref 0], zW K A O t)) (f0_7 (show 2355 ≤ 2526 by decide) rfl) rfl) ?_
  refine Eq.trans (mG_ok (i := (.invokestatic 199)) (len := 3) (M' := 199) (k := 4) (v := some (.int (zI k))) (w1 := zW K A1 O1 t1) (f0_7 (show 2355 ≤ 2527 by decide) rfl) rfl rfl h1) ?_
  show mGd ar (D + 2) 0 2530 [.retAddr 150, .ref 0, .ref 185, .ref 198, .int (zI i), u5, u6] [.int (zI k)] (zW K A1 O1 t1) = _
  refine Eq.trans (mG_st (i := (.istore 5)) (len := 2) (z := (2532, [.retAddr 150, .ref 0, .ref 185, .ref 198, .int (zI i), .int (zI k), u6], [], zW K A1 O1 t1)) (f0_7 (show 2355 ≤ 2530 by decide) rfl) rfl) ?_
  refine Eq.trans (mG_st (i := (.aload 2)) (len := 1) (z := (2533, [.retAddr 150, .ref 0, .ref 185, .ref 198, .int (zI i), .int (zI k), u6], [.ref 185], zW K A1 O1 t1)) (f0_7 (show 2355 ≤ 2532 by decide) rfl) rfl) ?_
  refine Eq.trans (mG_st (i := (.aload 0)) (len := 1) (z := (2534, [.retAddr 150, .ref 0, .ref 185, .ref 198, .int (zI i), .int (zI k), u6], [.retAddr 150, .ref 185], zW K A1 O1 t1)) (f0_7 (show 2355 ≤ 2533 by decide) rfl) rfl) ?_
  refine Eq.trans (mG_st (i := (.iload 4)) (len := 2) (z := (2536, [.retAddr 150, .ref 0, .ref 185, .ref 198, .int (zI i), .int (zI k), u6], [.int (zI i), .retAddr 150, .ref 185], zW K A1 O1 t1)) (f0_7 (show 2355 ≤ 2534 by decide) rfl) rfl) ?_
  refine Eq.trans (mG_st (i := (.iconst 1)) (len := 1) (z := (2537, [.retAddr 150, .ref 0, .ref 185, .ref 198, .int (zI i), .int (zI k), u6], [.int (zI 1), .int (zI i), .retAddr 150, .ref 185], zW K A1 O1 t1)) (f0_7 (show 2355 ≤ 2536 by decide) rfl) rfl) ?_
  refine Eq.trans (mG_st (i := .iadd) (len := 1) (z := (2538, [.retAddr 150, .ref 0, .ref 185, .ref 198, .int (zI i), .int (zI k), u6], [.int (zI (i + 1)), .retAddr 150, .ref 185], zW K A1 O1 t1)) (f0_7 (show 2355 ≤ 2537 by decide) rfl) zs_add) ?_
  refine Eq.trans (mG_st (i := .iaload) (len := 1) (z := (2539, [.retAddr 150, .ref 0, .ref 185, .ref 198, .int (zI i), .int (zI k), u6], [.int (zI (zScr ar (i + 1))), .ref 185], zW K A1 O1 t1)) (f0_7 (show 2355 ≤ 2538 by decide) rfl) (zM_scr (by omega) hL)) ?_
  refine Eq.trans (mG_st (i := (.aload 0)) (len := 1) (z := (2540, [.retAddr 150, .ref 0, .ref 185, .ref 198, .int (zI i), .int (zI k), u6], [.retAddr 150, .int (zI (zScr ar (i + 1))), .ref 185], zW K A1 O1 t1)) (f0_7 (show 2355 ≤ 2539 by decide) rfl) rfl) ?_
  refine Eq.trans (mG_st (i := (.iload 4)) (len := 2) (z := (2542, [.retAddr 150, .ref 0, .ref 185, .ref 198, .int (zI i), .int (zI k), u6], [.int (zI i), .retAddr 150, .int (zI (zScr ar (i + 1))), .ref 185], zW K A1 O1 t1)) (f0_7 (show 2355 ≤ 2540 by decide) rfl) rfl) ?_
  refine Eq.trans (mG_st (i := (.iconst 2)) (len := 1) (z := (2543, [.retAddr 150, .ref 0, .ref 185, .ref 198, .int (zI i), .int (zI k), u6], [.int (zI 2), .int (zI i), .retAddr 150, .int (zI (zScr ar (i + 1))), .ref 185], zW K A1 O1 t1)) (f0_7 (show 2355 ≤ 2542 by decide) rfl) rfl) ?_
  refine Eq.trans (mG_st (i := .iadd) (len := 1) (z := (2544, [.retAddr 150, .ref 0, .ref 185, .ref 198, .int (zI i), .int (zI k), u6], [.int (zI (i + 2)), .retAddr 150, .int (zI (zScr ar (i + 1))), .ref 185], zW K A1 O1 t1)) (f0_7 (show 2355 ≤ 2543 by decide) rfl) zs_add) ?_
  refine Eq.trans (mG_st (i := .iaload) (len := 1) (z := (2545, [.retAddr 150, .ref 0, .ref 185, .ref 198, .int (zI i), .int (zI k), u6], [.int (zI (zScr ar (i + 2))), .int (zI (zScr ar (i + 1))), .ref 185], zW K A1 O1 t1)) (f0_7 (show 2355 ≤ 2544 by decide) rfl) (zM_scr (by omega) hL)) ?_
  refine Eq.trans (mG_ok (i := (.invokeinterface 45 2)) (len := 3) (M' := 334) (k := 3) (v := some (.int (zI b))) (w1 := zW K A2 O1 t1) (f0_7 (show 2355 ≤ 2545 by decide) rfl) (mC_if sh_185 rfl rfl rfl) rfl h4) ?_
  show mGd ar (D + 2) 0 2548 [.retAddr 150, .ref 0, .ref 185, .ref 198, .int (zI i), .int (zI k), u6] [.int (zI b)] (zW K A2 O1 t1) = _
  refine Eq.trans (mG_st (i := (.istore 6)) (len := 2) (z := (2550, [.retAddr 150, .ref 0, .ref 185, .ref 198, .int (zI i), .int (zI k), .int (zI b)], [], zW K A2 O1 t1)) (f0_7 (show 2355 ≤ 2548 by decide) rfl) rfl) ?_
  refine Eq.trans (mG_st (i := (.aload 2)) (len := 1) (z := (2551, [.retAddr 150, .ref 0, .ref 185, .ref 198, .int (zI i), .int (zI k), .int (zI b)], [.ref 185], zW K A2 O1 t1)) (f0_7 (show 2355 ≤ 2550 by decide) rfl) rfl) ?_
  refine Eq.trans (mG_ok (i := (.invokeinterface 5 0)) (len := 3) (M' := 215) (k := 1) (v := some (.int (zI (A2 185 0)))) (w1 := zW K A2 O1 t1) (f0_7 (show 2355 ≤ 2551 by decide) rfl) (mC_if sh_185 rfl rfl rfl) rfl i215_0) ?_
  rw [h5]
  show mGd ar (D + 2) 0 2554 [.retAddr 150, .ref 0, .ref 185, .ref 198, .int (zI i), .int (zI k), .int (zI b)] [.int (zI k)] (zW K A2 O1 t1) = _
  refine Eq.trans (mG_st (i := (.iload 5)) (len := 2) (z := (2556, [.retAddr 150, .ref 0, .ref 185, .ref 198, .int (zI i), .int (zI k), .int (zI b)], [.int (zI k), .int (zI k)], zW K A2 O1 t1)) (f0_7 (show 2355 ≤ 2554 by decide) rfl) rfl) ?_
  refine Eq.trans (mG_st (i := (.if_icmp .eq 5)) (len := 3) (z := (if k = k then 2561 else 2559, [.retAddr 150, .ref 0, .ref 185, .ref 198, .int (zI i), .int (zI k), .int (zI b)], [], zW K A2 O1 t1)) (f0_7 (show 2355 ≤ 2556 by decide) rfl) (zs_ic_eq (by omega) (by omega))) ?_
  rw [if_pos rfl]
  show mGd ar (D + 2) 0 2561 [.retAddr 150, .ref 0, .ref 185, .ref 198, .int (zI i), .int (zI k), .int (zI b)] [] (zW K A2 O1 t1) = _
  refine Eq.trans (mG_st (i := (.iload 5)) (len := 2) (z := (2563, [.retAddr 150, .ref 0, .ref 185, .ref 198, .int (zI i), .int (zI k), .int (zI b)], [.int (zI k)], zW K A2 O1 t1)) (f0_7 (show 2355 ≤ 2561 by decide) rfl) rfl) ?_
  refine Eq.trans (mG_st (i := (.ifCond .ne 15)) (len := 3) (z := (if k = 0 then 2566 else 2578, [.retAddr 150, .ref 0, .ref 185, .ref 198, .int (zI i), .int (zI k), .int (zI b)], [], zW K A2 O1 t1)) (f0_7 (show 2355 ≤ 2563 by decide) rfl) (zs_if_ne (by omega))) ?_
  have fin : mGd ar (D + 2) 0 2578 [.retAddr 150, .ref 0, .ref 185, .ref 198, .int (zI i), .int (zI k), .int (zI b)] [] (zW K A2 O1 t1) = mGd ar (D + 2) 0 3037 [.retAddr 150, .ref 0, .ref 185, .ref 198, .int (zI i), .int (zI k), .int (zI b)] [] (zW K A2 O1 t1) :=
    mG_st (i := (.goto 459)) (len := 3) (z := (3037, [.retAddr 150, .ref 0, .ref 185, .ref 198, .int (zI i), .int (zI k), .int (zI b)], [], zW K A2 O1 t1)) (f0_7 (show 2355 ≤ 2578 by decide) rfl) rfl
  by_cases k0 : k = 0
  · rw [if_pos k0]
    obtain ⟨h8, h9⟩ := h7 k0
    show mGd ar (D + 2) 0 2566 [.retAddr 150, .ref 0, .ref 185, .ref 198, .int (zI i), .int (zI k), .int (zI b)] [] (zW K A2 O1 t1) = _
    refine Eq.trans (mG_st (i := (.aload 3)) (len := 1) (z := (2567, [.retAddr 150, .ref 0, .ref 185, .ref 198, .int (zI i), .int (zI k), .int (zI b)], [.ref 198], zW K A2 O1 t1)) (f0_7 (show 2355 ≤ 2566 by decide) rfl) rfl) ?_
    refine Eq.trans (mG_st (i := (.iconst 0)) (len := 1) (z := (2568, [.retAddr 150, .ref 0, .ref 185, .ref 198, .int (zI i), .int (zI k), .int (zI b)], [.int (zI 0), .ref 198], zW K A2 O1 t1)) (f0_7 (show 2355 ≤ 2567 by decide) rfl) rfl) ?_
    refine Eq.trans (mG_st (i := .laload) (len := 1) (z := (2569, [.retAddr 150, .ref 0, .ref 185, .ref 198, .int (zI i), .int (zI k), .int (zI b)], [.long (O1 0)], zW K A2 O1 t1)) (f0_7 (show 2355 ≤ 2568 by decide) rfl) zM_lald) ?_
    refine Eq.trans (mG_st (i := (.iload 6)) (len := 2) (z := (2571, [.retAddr 150, .ref 0, .ref 185, .ref 198, .int (zI i), .int (zI k), .int (zI b)], [.int (zI b), .long (O1 0)], zW K A2 O1 t1)) (f0_7 (show 2355 ≤ 2569 by decide) rfl) rfl) ?_
    refine Eq.trans (mG_st (i := .i2l) (len := 1) (z := (2572, [.retAddr 150, .ref 0, .ref 185, .ref 198, .int (zI i), .int (zI k), .int (zI b)], [.long ((zI b).toInt64), .long (O1 0)], zW K A2 O1 t1)) (f0_7 (show 2355 ≤ 2571 by decide) rfl) rfl) ?_
    show mGd ar (D + 2) 0 2572 [.retAddr 150, .ref 0, .ref 185, .ref 198, .int (zI i), .int (zI k), .int (zI b)] [.long ((zI b).toInt64), .long (O1 0)] (zW K A2 O1 t1) = _
    refine Eq.trans (mG_st (i := .lcmp) (len := 1) (z := (2573, [.retAddr 150, .ref 0, .ref 185, .ref 198, .int (zI i), .int (zI k), .int (zI b)], [.int (lg_cmp (O1 0) ((zI b).toInt64))], zW K A2 O1 t1)) (f0_7 (show 2355 ≤ 2572 by decide) rfl) rfl) ?_
    rw [show O1 0 = (zI b).toInt64 from h8, lg_same]
    exact Eq.trans (mG_st (i := (.ifCond .eq 5)) (len := 3) (z := (2578, [.retAddr 150, .ref 0, .ref 185, .ref 198, .int (zI i), .int (zI k), .int (zI b)], [], zW K A2 O1 t1)) (f0_7 (show 2355 ≤ 2573 by decide) rfl) rfl) fin
  · rw [if_neg k0]; exact fin
set_option maxRecDepth 20000 in
theorem cs_range {i : Int} {u5 u6 : Value} (hL : (ar 150).1 ≤ 3072) (hi : 0 ≤ i ∧ i + 6 ≤ ((ar 150).1 : Int)) (hq : zWr ar K O t (D + 1) 201 [.ref 0, .int (zI (zScr ar (i + 1))), .ref 198, .double 0] 335 [.ref 185, .int (zI (zScr ar (i + 1)))] (fun b => (zI b).toInt64) A) : zNext ar K D i u5 u6 A O t 2581 := by
  obtain ⟨k, A1, O1, t1, h1, h2, h3, b, A2, h4, h5, h6, h7⟩ := hq
  refine ⟨A2, O1, t1, .int (zI k), .int (zI b), h2, h6, ?_⟩
  refine Eq.trans (mG_st (i := (.aload 1)) (len := 1) (z := (2582, [.retAddr 150, .ref 0, .ref 185, .ref 198, .int (zI i), u5, u6], [.ref 0], zW K A O t)) (f0_7 (show 2355 ≤ 2581 by decide) rfl) rfl) ?_
  refine Eq.trans (mG_st (i := (.aload 0)) (len := 1) (z := (2583, [.retAddr 150, .ref 0, .ref 185, .ref 198, .int (zI i), u5, u6], [.retAddr 150, .ref 0], zW K A O t)) (f0_7 (show 2355 ≤ 2582 by decide) rfl) rfl) ?_
  refine Eq.trans (mG_st (i := (.iload 4)) (len := 2) (z := (2585, [.retAddr 150, .ref 0, .ref 185, .ref 198, .int (zI i), u5, u6], [.int (zI i), .retAddr 150, .ref 0], zW K A O t)) (f0_7 (show 2355 ≤ 2583 by decide) rfl) rfl) ?_
  refine Eq.trans (mG_st (i := (.iconst 1)) (len := 1) (z := (2586, [.retAddr 150, .ref 0, .ref 185, .ref 198, .int (zI i), u5, u6], [.int (zI 1), .int (zI i), .retAddr 150, .ref 0], zW K A O t)) (f0_7 (show 2355 ≤ 2585 by decide) rfl) rfl) ?_
  refine Eq.trans (mG_st (i := .iadd) (len := 1) (z := (2587, [.retAddr 150, .ref 0, .ref 185, .ref 198, .int (zI i), u5, u6], [.int (zI (i + 1)), .retAddr 150, .ref 0], zW K A O t)) (f0_7 (show 2355 ≤ 2586 by decide) rfl) zs_add) ?_
  refine Eq.trans (mG_st (i := .iaload) (len := 1) (z := (2588, [.retAddr 150, .ref 0, .ref 185, .ref 198, .int (zI i), u5, u6], [.int (zI (zScr ar (i + 1))), .ref 0], zW K A O t)) (f0_7 (show 2355 ≤ 2587 by decide) rfl) (zM_scr (by omega) hL)) ?_
  refine Eq.trans (mG_st (i := (.aload 3)) (len := 1) (z := (2589, [.retAddr 150, .ref 0, .ref 185, .ref 198, .int (zI i), u5, u6], [.ref 198, .int (zI (zScr ar (i + 1))), .ref 0], zW K A O t)) (f0_7 (show 2355 ≤ 2588 by decide) rfl) rfl) ?_
  refine Eq.trans (mG_ok (i := (.invokestatic 201)) (len := 3) (M' := 201) (k := 3) (v := some (.int (zI k))) (w1 := zW K A1 O1 t1) (f0_7 (show 2355 ≤ 2589 by decide) rfl) rfl rfl h1) ?_
  show mGd ar (D + 2) 0 2592 [.retAddr 150, .ref 0, .ref 185, .ref 198, .int (zI i), u5, u6] [.int (zI k)] (zW K A1 O1 t1) = _
  refine Eq.trans (mG_st (i := (.istore 5)) (len := 2) (z := (2594, [.retAddr 150, .ref 0, .ref 185, .ref 198, .int (zI i), .int (zI k), u6], [], zW K A1 O1 t1)) (f0_7 (show 2355 ≤ 2592 by decide) rfl) rfl) ?_
  refine Eq.trans (mG_st (i := (.aload 2)) (len := 1) (z := (2595, [.retAddr 150, .ref 0, .ref 185, .ref 198, .int (zI i), .int (zI k), u6], [.ref 185], zW K A1 O1 t1)) (f0_7 (show 2355 ≤ 2594 by decide) rfl) rfl) ?_
  refine Eq.trans (mG_st (i := (.aload 0)) (len := 1) (z := (2596, [.retAddr 150, .ref 0, .ref 185, .ref 198, .int (zI i), .int (zI k), u6], [.retAddr 150, .ref 185], zW K A1 O1 t1)) (f0_7 (show 2355 ≤ 2595 by decide) rfl) rfl) ?_
  refine Eq.trans (mG_st (i := (.iload 4)) (len := 2) (z := (2598, [.retAddr 150, .ref 0, .ref 185, .ref 198, .int (zI i), .int (zI k), u6], [.int (zI i), .retAddr 150, .ref 185], zW K A1 O1 t1)) (f0_7 (show 2355 ≤ 2596 by decide) rfl) rfl) ?_
  refine Eq.trans (mG_st (i := (.iconst 1)) (len := 1) (z := (2599, [.retAddr 150, .ref 0, .ref 185, .ref 198, .int (zI i), .int (zI k), u6], [.int (zI 1), .int (zI i), .retAddr 150, .ref 185], zW K A1 O1 t1)) (f0_7 (show 2355 ≤ 2598 by decide) rfl) rfl) ?_
  refine Eq.trans (mG_st (i := .iadd) (len := 1) (z := (2600, [.retAddr 150, .ref 0, .ref 185, .ref 198, .int (zI i), .int (zI k), u6], [.int (zI (i + 1)), .retAddr 150, .ref 185], zW K A1 O1 t1)) (f0_7 (show 2355 ≤ 2599 by decide) rfl) zs_add) ?_
  refine Eq.trans (mG_st (i := .iaload) (len := 1) (z := (2601, [.retAddr 150, .ref 0, .ref 185, .ref 198, .int (zI i), .int (zI k), u6], [.int (zI (zScr ar (i + 1))), .ref 185], zW K A1 O1 t1)) (f0_7 (show 2355 ≤ 2600 by decide) rfl) (zM_scr (by omega) hL)) ?_
  refine Eq.trans (mG_ok (i := (.invokeinterface 46 1)) (len := 3) (M' := 335) (k := 2) (v := some (.int (zI b))) (w1 := zW K A2 O1 t1) (f0_7 (show 2355 ≤ 2601 by decide) rfl) (mC_if sh_185 rfl rfl rfl) rfl h4) ?_
  show mGd ar (D + 2) 0 2604 [.retAddr 150, .ref 0, .ref 185, .ref 198, .int (zI i), .int (zI k), u6] [.int (zI b)] (zW K A2 O1 t1) = _
  refine Eq.trans (mG_st (i := (.istore 6)) (len := 2) (z := (2606, [.retAddr 150, .ref 0, .ref 185, .ref 198, .int (zI i), .int (zI k), .int (zI b)], [], zW K A2 O1 t1)) (f0_7 (show 2355 ≤ 2604 by decide) rfl) rfl) ?_
  refine Eq.trans (mG_st (i := (.aload 2)) (len := 1) (z := (2607, [.retAddr 150, .ref 0, .ref 185, .ref 198, .int (zI i), .int (zI k), .int (zI b)], [.ref 185], zW K A2 O1 t1)) (f0_7 (show 2355 ≤ 2606 by decide) rfl) rfl) ?_
  refine Eq.trans (mG_ok (i := (.invokeinterface 5 0)) (len := 3) (M' := 215) (k := 1) (v := some (.int (zI (A2 185 0)))) (w1 := zW K A2 O1 t1) (f0_7 (show 2355 ≤ 2607 by decide) rfl) (mC_if sh_185 rfl rfl rfl) rfl i215_0) ?_
  rw [h5]
  show mGd ar (D + 2) 0 2610 [.retAddr 150, .ref 0, .ref 185, .ref 198, .int (zI i), .int (zI k), .int (zI b)] [.int (zI k)] (zW K A2 O1 t1) = _
  refine Eq.trans (mG_st (i := (.iload 5)) (len := 2) (z := (2612, [.retAddr 150, .ref 0, .ref 185, .ref 198, .int (zI i), .int (zI k), .int (zI b)], [.int (zI k), .int (zI k)], zW K A2 O1 t1)) (f0_7 (show 2355 ≤ 2610 by decide) rfl) rfl) ?_
  refine Eq.trans (mG_st (i := (.if_icmp .eq 5)) (len := 3) (z := (if k = k then 2617 else 2615, [.retAddr 150, .ref 0, .ref 185, .ref 198, .int (zI i), .int (zI k), .int (zI b)], [], zW K A2 O1 t1)) (f0_7 (show 2355 ≤ 2612 by decide) rfl) (zs_ic_eq (by omega) (by omega))) ?_
  rw [if_pos rfl]
  show mGd ar (D + 2) 0 2617 [.retAddr 150, .ref 0, .ref 185, .ref 198, .int (zI i), .int (zI k), .int (zI b)] [] (zW K A2 O1 t1) = _
  refine Eq.trans (mG_st (i := (.iload 5)) (len := 2) (z := (2619, [.retAddr 150, .ref 0, .ref 185, .ref 198, .int (zI i), .int (zI k), .int (zI b)], [.int (zI k)], zW K A2 O1 t1)) (f0_7 (show 2355 ≤ 2617 by decide) rfl) rfl) ?_
  refine Eq.trans (mG_st (i := (.ifCond .ne 15)) (len := 3) (z := (if k = 0 then 2622 else 2634, [.retAddr 150, .ref 0, .ref 185, .ref 198, .int (zI i), .int (zI k), .int (zI b)], [], zW K A2 O1 t1)) (f0_7 (show 2355 ≤ 2619 by decide) rfl) (zs_if_ne (by omega))) ?_
  have fin : mGd ar (D + 2) 0 2634 [.retAddr 150, .ref 0, .ref 185, .ref 198, .int (zI i), .int (zI k), .int (zI b)] [] (zW K A2 O1 t1) = mGd ar (D + 2) 0 3037 [.retAddr 150, .ref 0, .ref 185, .ref 198, .int (zI i), .int (zI k), .int (zI b)] [] (zW K A2 O1 t1) :=
    mG_st (i := (.goto 403)) (len := 3) (z := (3037, [.retAddr 150, .ref 0, .ref 185, .ref 198, .int (zI i), .int (zI k), .int (zI b)], [], zW K A2 O1 t1)) (f0_7 (show 2355 ≤ 2634 by decide) rfl) rfl
  by_cases k0 : k = 0
  · rw [if_pos k0]
    obtain ⟨h8, h9⟩ := h7 k0
    show mGd ar (D + 2) 0 2622 [.retAddr 150, .ref 0, .ref 185, .ref 198, .int (zI i), .int (zI k), .int (zI b)] [] (zW K A2 O1 t1) = _
    refine Eq.trans (mG_st (i := (.aload 3)) (len := 1) (z := (2623, [.retAddr 150, .ref 0, .ref 185, .ref 198, .int (zI i), .int (zI k), .int (zI b)], [.ref 198], zW K A2 O1 t1)) (f0_7 (show 2355 ≤ 2622 by decide) rfl) rfl) ?_
    refine Eq.trans (mG_st (i := (.iconst 0)) (len := 1) (z := (2624, [.retAddr 150, .ref 0, .ref 185, .ref 198, .int (zI i), .int (zI k), .int (zI b)], [.int (zI 0), .ref 198], zW K A2 O1 t1)) (f0_7 (show 2355 ≤ 2623 by decide) rfl) rfl) ?_
    refine Eq.trans (mG_st (i := .laload) (len := 1) (z := (2625, [.retAddr 150, .ref 0, .ref 185, .ref 198, .int (zI i), .int (zI k), .int (zI b)], [.long (O1 0)], zW K A2 O1 t1)) (f0_7 (show 2355 ≤ 2624 by decide) rfl) zM_lald) ?_
    refine Eq.trans (mG_st (i := (.iload 6)) (len := 2) (z := (2627, [.retAddr 150, .ref 0, .ref 185, .ref 198, .int (zI i), .int (zI k), .int (zI b)], [.int (zI b), .long (O1 0)], zW K A2 O1 t1)) (f0_7 (show 2355 ≤ 2625 by decide) rfl) rfl) ?_
    refine Eq.trans (mG_st (i := .i2l) (len := 1) (z := (2628, [.retAddr 150, .ref 0, .ref 185, .ref 198, .int (zI i), .int (zI k), .int (zI b)], [.long ((zI b).toInt64), .long (O1 0)], zW K A2 O1 t1)) (f0_7 (show 2355 ≤ 2627 by decide) rfl) rfl) ?_
    show mGd ar (D + 2) 0 2628 [.retAddr 150, .ref 0, .ref 185, .ref 198, .int (zI i), .int (zI k), .int (zI b)] [.long ((zI b).toInt64), .long (O1 0)] (zW K A2 O1 t1) = _
    refine Eq.trans (mG_st (i := .lcmp) (len := 1) (z := (2629, [.retAddr 150, .ref 0, .ref 185, .ref 198, .int (zI i), .int (zI k), .int (zI b)], [.int (lg_cmp (O1 0) ((zI b).toInt64))], zW K A2 O1 t1)) (f0_7 (show 2355 ≤ 2628 by decide) rfl) rfl) ?_
    rw [show O1 0 = (zI b).toInt64 from h8, lg_same]
    exact Eq.trans (mG_st (i := (.ifCond .eq 5)) (len := 3) (z := (2634, [.retAddr 150, .ref 0, .ref 185, .ref 198, .int (zI i), .int (zI k), .int (zI b)], [], zW K A2 O1 t1)) (f0_7 (show 2355 ≤ 2629 by decide) rfl) rfl) fin
  · rw [if_neg k0]; exact fin
set_option maxRecDepth 20000 in
theorem cs_trial {i : Int} {u5 u6 : Value} (hL : (ar 150).1 ≤ 3072) (hi : 0 ≤ i ∧ i + 6 ≤ ((ar 150).1 : Int)) (hq : zWr ar K O t (D + 1) 203 [.ref 0, .int (zI (zScr ar (i + 1))), .int (zI (zScr ar (i + 2))), .ref 198, .double 0] 336 [.ref 185, .int (zI (zScr ar (i + 1))), .int (zI (zScr ar (i + 2))), .double 0] (fun b => (zI b).toInt64) A) : zNext ar K D i u5 u6 A O t 2637 := by
  obtain ⟨k, A1, O1, t1, h1, h2, h3, b, A2, h4, h5, h6, h7⟩ := hq
  refine ⟨A2, O1, t1, .int (zI k), .int (zI b), h2, h6, ?_⟩
  refine Eq.trans (mG_st (i := (.aload 1)) (len := 1) (z := (2638, [.retAddr 150, .ref 0, .ref 185, .ref 198, .int (zI i), u5, u6], [.ref 0], zW K A O t)) (f0_7 (show 2355 ≤ 2637 by decide) rfl) rfl) ?_
  refine Eq.trans (mG_st (i := (.aload 0)) (len := 1) (z := (2639, [.retAddr 150, .ref 0, .ref 185, .ref 198, .int (zI i), u5, u6], [.retAddr 150, .ref 0], zW K A O t)) (f0_7 (show 2355 ≤ 2638 by decide) rfl) rfl) ?_
  refine Eq.trans (mG_st (i := (.iload 4)) (len := 2) (z := (2641, [.retAddr 150, .ref 0, .ref 185, .ref 198, .int (zI i), u5, u6], [.int (zI i), .retAddr 150, .ref 0], zW K A O t)) (f0_7 (show 2355 ≤ 2639 by decide) rfl) rfl) ?_
  refine Eq.trans (mG_st (i := (.iconst 1)) (len := 1) (z := (2642, [.retAddr 150, .ref 0, .ref 185, .ref 198, .int (zI i), u5, u6], [.int (zI 1), .int (zI i), .retAddr 150, .ref 0], zW K A O t)) (f0_7 (show 2355 ≤ 2641 by decide) rfl) rfl) ?_
  refine Eq.trans (mG_st (i := .iadd) (len := 1) (z := (2643, [.retAddr 150, .ref 0, .ref 185, .ref 198, .int (zI i), u5, u6], [.int (zI (i + 1)), .retAddr 150, .ref 0], zW K A O t)) (f0_7 (show 2355 ≤ 2642 by decide) rfl) zs_add) ?_
  refine Eq.trans (mG_st (i := .iaload) (len := 1) (z := (2644, [.retAddr 150, .ref 0, .ref 185, .ref 198, .int (zI i), u5, u6], [.int (zI (zScr ar (i + 1))), .ref 0], zW K A O t)) (f0_7 (show 2355 ≤ 2643 by decide) rfl) (zM_scr (by omega) hL)) ?_
  refine Eq.trans (mG_st (i := (.aload 0)) (len := 1) (z := (2645, [.retAddr 150, .ref 0, .ref 185, .ref 198, .int (zI i), u5, u6], [.retAddr 150, .int (zI (zScr ar (i + 1))), .ref 0], zW K A O t)) (f0_7 (show 2355 ≤ 2644 by decide) rfl) rfl) ?_
  refine Eq.trans (mG_st (i := (.iload 4)) (len := 2) (z := (2647, [.retAddr 150, .ref 0, .ref 185, .ref 198, .int (zI i), u5, u6], [.int (zI i), .retAddr 150, .int (zI (zScr ar (i + 1))), .ref 0], zW K A O t)) (f0_7 (show 2355 ≤ 2645 by decide) rfl) rfl) ?_
  refine Eq.trans (mG_st (i := (.iconst 2)) (len := 1) (z := (2648, [.retAddr 150, .ref 0, .ref 185, .ref 198, .int (zI i), u5, u6], [.int (zI 2), .int (zI i), .retAddr 150, .int (zI (zScr ar (i + 1))), .ref 0], zW K A O t)) (f0_7 (show 2355 ≤ 2647 by decide) rfl) rfl) ?_
  refine Eq.trans (mG_st (i := .iadd) (len := 1) (z := (2649, [.retAddr 150, .ref 0, .ref 185, .ref 198, .int (zI i), u5, u6], [.int (zI (i + 2)), .retAddr 150, .int (zI (zScr ar (i + 1))), .ref 0], zW K A O t)) (f0_7 (show 2355 ≤ 2648 by decide) rfl) zs_add) ?_
  refine Eq.trans (mG_st (i := .iaload) (len := 1) (z := (2650, [.retAddr 150, .ref 0, .ref 185, .ref 198, .int (zI i), u5, u6], [.int (zI (zScr ar (i + 2))), .int (zI (zScr ar (i + 1))), .ref 0], zW K A O t)) (f0_7 (show 2355 ≤ 2649 by decide) rfl) (zM_scr (by omega) hL)) ?_
  refine Eq.trans (mG_st (i := (.aload 3)) (len := 1) (z := (2651, [.retAddr 150, .ref 0, .ref 185, .ref 198, .int (zI i), u5, u6], [.ref 198, .int (zI (zScr ar (i + 2))), .int (zI (zScr ar (i + 1))), .ref 0], zW K A O t)) (f0_7 (show 2355 ≤ 2650 by decide) rfl) rfl) ?_
  refine Eq.trans (mG_ok (i := (.invokestatic 203)) (len := 3) (M' := 203) (k := 4) (v := some (.int (zI k))) (w1 := zW K A1 O1 t1) (f0_7 (show 2355 ≤ 2651 by decide) rfl) rfl rfl h1) ?_
  show mGd ar (D + 2) 0 2654 [.retAddr 150, .ref 0, .ref 185, .ref 198, .int (zI i), u5, u6] [.int (zI k)] (zW K A1 O1 t1) = _
  refine Eq.trans (mG_st (i := (.istore 5)) (len := 2) (z := (2656, [.retAddr 150, .ref 0, .ref 185, .ref 198, .int (zI i), .int (zI k), u6], [], zW K A1 O1 t1)) (f0_7 (show 2355 ≤ 2654 by decide) rfl) rfl) ?_
  refine Eq.trans (mG_st (i := (.aload 2)) (len := 1) (z := (2657, [.retAddr 150, .ref 0, .ref 185, .ref 198, .int (zI i), .int (zI k), u6], [.ref 185], zW K A1 O1 t1)) (f0_7 (show 2355 ≤ 2656 by decide) rfl) rfl) ?_
  refine Eq.trans (mG_st (i := (.aload 0)) (len := 1) (z := (2658, [.retAddr 150, .ref 0, .ref 185, .ref 198, .int (zI i), .int (zI k), u6], [.retAddr 150, .ref 185], zW K A1 O1 t1)) (f0_7 (show 2355 ≤ 2657 by decide) rfl) rfl) ?_
  refine Eq.trans (mG_st (i := (.iload 4)) (len := 2) (z := (2660, [.retAddr 150, .ref 0, .ref 185, .ref 198, .int (zI i), .int (zI k), u6], [.int (zI i), .retAddr 150, .ref 185], zW K A1 O1 t1)) (f0_7 (show 2355 ≤ 2658 by decide) rfl) rfl) ?_
  refine Eq.trans (mG_st (i := (.iconst 1)) (len := 1) (z := (2661, [.retAddr 150, .ref 0, .ref 185, .ref 198, .int (zI i), .int (zI k), u6], [.int (zI 1), .int (zI i), .retAddr 150, .ref 185], zW K A1 O1 t1)) (f0_7 (show 2355 ≤ 2660 by decide) rfl) rfl) ?_
  refine Eq.trans (mG_st (i := .iadd) (len := 1) (z := (2662, [.retAddr 150, .ref 0, .ref 185, .ref 198, .int (zI i), .int (zI k), u6], [.int (zI (i + 1)), .retAddr 150, .ref 185], zW K A1 O1 t1)) (f0_7 (show 2355 ≤ 2661 by decide) rfl) zs_add) ?_
  refine Eq.trans (mG_st (i := .iaload) (len := 1) (z := (2663, [.retAddr 150, .ref 0, .ref 185, .ref 198, .int (zI i), .int (zI k), u6], [.int (zI (zScr ar (i + 1))), .ref 185], zW K A1 O1 t1)) (f0_7 (show 2355 ≤ 2662 by decide) rfl) (zM_scr (by omega) hL)) ?_
  refine Eq.trans (mG_st (i := (.aload 0)) (len := 1) (z := (2664, [.retAddr 150, .ref 0, .ref 185, .ref 198, .int (zI i), .int (zI k), u6], [.retAddr 150, .int (zI (zScr ar (i + 1))), .ref 185], zW K A1 O1 t1)) (f0_8 (show 2663 ≤ 2663 by decide) rfl) rfl) ?_
  refine Eq.trans (mG_st (i := (.iload 4)) (len := 2) (z := (2666, [.retAddr 150, .ref 0, .ref 185, .ref 198, .int (zI i), .int (zI k), u6], [.int (zI i), .retAddr 150, .int (zI (zScr ar (i + 1))), .ref 185], zW K A1 O1 t1)) (f0_8 (show 2663 ≤ 2664 by decide) rfl) rfl) ?_
  refine Eq.trans (mG_st (i := (.iconst 2)) (len := 1) (z := (2667, [.retAddr 150, .ref 0, .ref 185, .ref 198, .int (zI i), .int (zI k), u6], [.int (zI 2), .int (zI i), .retAddr 150, .int (zI (zScr ar (i + 1))), .ref 185], zW K A1 O1 t1)) (f0_8 (show 2663 ≤ 2666 by decide) rfl) rfl) ?_
  refine Eq.trans (mG_st (i := .iadd) (len := 1) (z := (2668, [.retAddr 150, .ref 0, .ref 185, .ref 198, .int (zI i), .int (zI k), u6], [.int (zI (i + 2)), .retAddr 150, .int (zI (zScr ar (i + 1))), .ref 185], zW K A1 O1 t1)) (f0_8 (show 2663 ≤ 2667 by decide) rfl) zs_add) ?_
  refine Eq.trans (mG_st (i := .iaload) (len := 1) (z := (2669, [.retAddr 150, .ref 0, .ref 185, .ref 198, .int (zI i), .int (zI k), u6], [.int (zI (zScr ar (i + 2))), .int (zI (zScr ar (i + 1))), .ref 185], zW K A1 O1 t1)) (f0_8 (show 2663 ≤ 2668 by decide) rfl) (zM_scr (by omega) hL)) ?_
  refine Eq.trans (mG_ok (i := (.invokeinterface 47 2)) (len := 3) (M' := 336) (k := 3) (v := some (.int (zI b))) (w1 := zW K A2 O1 t1) (f0_8 (show 2663 ≤ 2669 by decide) rfl) (mC_if sh_185 rfl rfl rfl) rfl h4) ?_
  show mGd ar (D + 2) 0 2672 [.retAddr 150, .ref 0, .ref 185, .ref 198, .int (zI i), .int (zI k), u6] [.int (zI b)] (zW K A2 O1 t1) = _
  refine Eq.trans (mG_st (i := (.istore 6)) (len := 2) (z := (2674, [.retAddr 150, .ref 0, .ref 185, .ref 198, .int (zI i), .int (zI k), .int (zI b)], [], zW K A2 O1 t1)) (f0_8 (show 2663 ≤ 2672 by decide) rfl) rfl) ?_
  refine Eq.trans (mG_st (i := (.aload 2)) (len := 1) (z := (2675, [.retAddr 150, .ref 0, .ref 185, .ref 198, .int (zI i), .int (zI k), .int (zI b)], [.ref 185], zW K A2 O1 t1)) (f0_8 (show 2663 ≤ 2674 by decide) rfl) rfl) ?_
  refine Eq.trans (mG_ok (i := (.invokeinterface 5 0)) (len := 3) (M' := 215) (k := 1) (v := some (.int (zI (A2 185 0)))) (w1 := zW K A2 O1 t1) (f0_8 (show 2663 ≤ 2675 by decide) rfl) (mC_if sh_185 rfl rfl rfl) rfl i215_0) ?_
  rw [h5]
  show mGd ar (D + 2) 0 2678 [.retAddr 150, .ref 0, .ref 185, .ref 198, .int (zI i), .int (zI k), .int (zI b)] [.int (zI k)] (zW K A2 O1 t1) = _
  refine Eq.trans (mG_st (i := (.iload 5)) (len := 2) (z := (2680, [.retAddr 150, .ref 0, .ref 185, .ref 198, .int (zI i), .int (zI k), .int (zI b)], [.int (zI k), .int (zI k)], zW K A2 O1 t1)) (f0_8 (show 2663 ≤ 2678 by decide) rfl) rfl) ?_
  refine Eq.trans (mG_st (i := (.if_icmp .eq 5)) (len := 3) (z := (if k = k then 2685 else 2683, [.retAddr 150, .ref 0, .ref 185, .ref 198, .int (zI i), .int (zI k), .int (zI b)], [], zW K A2 O1 t1)) (f0_8 (show 2663 ≤ 2680 by decide) rfl) (zs_ic_eq (by omega) (by omega))) ?_
  rw [if_pos rfl]
  show mGd ar (D + 2) 0 2685 [.retAddr 150, .ref 0, .ref 185, .ref 198, .int (zI i), .int (zI k), .int (zI b)] [] (zW K A2 O1 t1) = _
  refine Eq.trans (mG_st (i := (.iload 5)) (len := 2) (z := (2687, [.retAddr 150, .ref 0, .ref 185, .ref 198, .int (zI i), .int (zI k), .int (zI b)], [.int (zI k)], zW K A2 O1 t1)) (f0_8 (show 2663 ≤ 2685 by decide) rfl) rfl) ?_
  refine Eq.trans (mG_st (i := (.ifCond .ne 15)) (len := 3) (z := (if k = 0 then 2690 else 2702, [.retAddr 150, .ref 0, .ref 185, .ref 198, .int (zI i), .int (zI k), .int (zI b)], [], zW K A2 O1 t1)) (f0_8 (show 2663 ≤ 2687 by decide) rfl) (zs_if_ne (by omega))) ?_
  have fin : mGd ar (D + 2) 0 2702 [.retAddr 150, .ref 0, .ref 185, .ref 198, .int (zI i), .int (zI k), .int (zI b)] [] (zW K A2 O1 t1) = mGd ar (D + 2) 0 3037 [.retAddr 150, .ref 0, .ref 185, .ref 198, .int (zI i), .int (zI k), .int (zI b)] [] (zW K A2 O1 t1) :=
    mG_st (i := (.goto 335)) (len := 3) (z := (3037, [.retAddr 150, .ref 0, .ref 185, .ref 198, .int (zI i), .int (zI k), .int (zI b)], [], zW K A2 O1 t1)) (f0_8 (show 2663 ≤ 2702 by decide) rfl) rfl
  by_cases k0 : k = 0
  · rw [if_pos k0]
    obtain ⟨h8, h9⟩ := h7 k0
    show mGd ar (D + 2) 0 2690 [.retAddr 150, .ref 0, .ref 185, .ref 198, .int (zI i), .int (zI k), .int (zI b)] [] (zW K A2 O1 t1) = _
    refine Eq.trans (mG_st (i := (.aload 3)) (len := 1) (z := (2691, [.retAddr 150, .ref 0, .ref 185, .ref 198, .int (zI i), .int (zI k), .int (zI b)], [.ref 198], zW K A2 O1 t1)) (f0_8 (show 2663 ≤ 2690 by decide) rfl) rfl) ?_
    refine Eq.trans (mG_st (i := (.iconst 0)) (len := 1) (z := (2692, [.retAddr 150, .ref 0, .ref 185, .ref 198, .int (zI i), .int (zI k), .int (zI b)], [.int (zI 0), .ref 198], zW K A2 O1 t1)) (f0_8 (show 2663 ≤ 2691 by decide) rfl) rfl) ?_
    refine Eq.trans (mG_st (i := .laload) (len := 1) (z := (2693, [.retAddr 150, .ref 0, .ref 185, .ref 198, .int (zI i), .int (zI k), .int (zI b)], [.long (O1 0)], zW K A2 O1 t1)) (f0_8 (show 2663 ≤ 2692 by decide) rfl) zM_lald) ?_
    refine Eq.trans (mG_st (i := (.iload 6)) (len := 2) (z := (2695, [.retAddr 150, .ref 0, .ref 185, .ref 198, .int (zI i), .int (zI k), .int (zI b)], [.int (zI b), .long (O1 0)], zW K A2 O1 t1)) (f0_8 (show 2663 ≤ 2693 by decide) rfl) rfl) ?_
    refine Eq.trans (mG_st (i := .i2l) (len := 1) (z := (2696, [.retAddr 150, .ref 0, .ref 185, .ref 198, .int (zI i), .int (zI k), .int (zI b)], [.long ((zI b).toInt64), .long (O1 0)], zW K A2 O1 t1)) (f0_8 (show 2663 ≤ 2695 by decide) rfl) rfl) ?_
    show mGd ar (D + 2) 0 2696 [.retAddr 150, .ref 0, .ref 185, .ref 198, .int (zI i), .int (zI k), .int (zI b)] [.long ((zI b).toInt64), .long (O1 0)] (zW K A2 O1 t1) = _
    refine Eq.trans (mG_st (i := .lcmp) (len := 1) (z := (2697, [.retAddr 150, .ref 0, .ref 185, .ref 198, .int (zI i), .int (zI k), .int (zI b)], [.int (lg_cmp (O1 0) ((zI b).toInt64))], zW K A2 O1 t1)) (f0_8 (show 2663 ≤ 2696 by decide) rfl) rfl) ?_
    rw [show O1 0 = (zI b).toInt64 from h8, lg_same]
    exact Eq.trans (mG_st (i := (.ifCond .eq 5)) (len := 3) (z := (2702, [.retAddr 150, .ref 0, .ref 185, .ref 198, .int (zI i), .int (zI k), .int (zI b)], [], zW K A2 O1 t1)) (f0_8 (show 2663 ≤ 2697 by decide) rfl) rfl) fin
  · rw [if_neg k0]; exact fin
set_option maxRecDepth 20000 in
theorem cs_span {i : Int} {u5 u6 : Value} (hL : (ar 150).1 ≤ 3072) (hi : 0 ≤ i ∧ i + 6 ≤ ((ar 150).1 : Int)) (hq : zWr ar K O t (D + 1) 206 [.ref 0, .int (zI (zScr ar (i + 1))), .int (zI (zScr ar (i + 2))), .int (zI (if zScr ar (i + 3) = 0 then 0 else 1)), .ref 198, .double 0] 337 [.ref 185, .int (zI (zScr ar (i + 1))), .int (zI (zScr ar (i + 2))), .int (zI (if zScr ar (i + 3) = 0 then 0 else 1)), .double 0, .double 0, .double 0] (fun b => (zI b).toInt64) A) : zNext ar K D i u5 u6 A O t 2705 := by
  obtain ⟨k, A1, O1, t1, h1, h2, h3, b, A2, h4, h5, h6, h7⟩ := hq
  refine ⟨A2, O1, t1, .int (zI k), .int (zI b), h2, h6, ?_⟩
  refine Eq.trans (mG_st (i := (.aload 1)) (len := 1) (z := (2706, [.retAddr 150, .ref 0, .ref 185, .ref 198, .int (zI i), u5, u6], [.ref 0], zW K A O t)) (f0_8 (show 2663 ≤ 2705 by decide) rfl) rfl) ?_
  refine Eq.trans (mG_st (i := (.aload 0)) (len := 1) (z := (2707, [.retAddr 150, .ref 0, .ref 185, .ref 198, .int (zI i), u5, u6], [.retAddr 150, .ref 0], zW K A O t)) (f0_8 (show 2663 ≤ 2706 by decide) rfl) rfl) ?_
  refine Eq.trans (mG_st (i := (.iload 4)) (len := 2) (z := (2709, [.retAddr 150, .ref 0, .ref 185, .ref 198, .int (zI i), u5, u6], [.int (zI i), .retAddr 150, .ref 0], zW K A O t)) (f0_8 (show 2663 ≤ 2707 by decide) rfl) rfl) ?_
  refine Eq.trans (mG_st (i := (.iconst 1)) (len := 1) (z := (2710, [.retAddr 150, .ref 0, .ref 185, .ref 198, .int (zI i), u5, u6], [.int (zI 1), .int (zI i), .retAddr 150, .ref 0], zW K A O t)) (f0_8 (show 2663 ≤ 2709 by decide) rfl) rfl) ?_
  refine Eq.trans (mG_st (i := .iadd) (len := 1) (z := (2711, [.retAddr 150, .ref 0, .ref 185, .ref 198, .int (zI i), u5, u6], [.int (zI (i + 1)), .retAddr 150, .ref 0], zW K A O t)) (f0_8 (show 2663 ≤ 2710 by decide) rfl) zs_add) ?_
  refine Eq.trans (mG_st (i := .iaload) (len := 1) (z := (2712, [.retAddr 150, .ref 0, .ref 185, .ref 198, .int (zI i), u5, u6], [.int (zI (zScr ar (i + 1))), .ref 0], zW K A O t)) (f0_8 (show 2663 ≤ 2711 by decide) rfl) (zM_scr (by omega) hL)) ?_
  refine Eq.trans (mG_st (i := (.aload 0)) (len := 1) (z := (2713, [.retAddr 150, .ref 0, .ref 185, .ref 198, .int (zI i), u5, u6], [.retAddr 150, .int (zI (zScr ar (i + 1))), .ref 0], zW K A O t)) (f0_8 (show 2663 ≤ 2712 by decide) rfl) rfl) ?_
  refine Eq.trans (mG_st (i := (.iload 4)) (len := 2) (z := (2715, [.retAddr 150, .ref 0, .ref 185, .ref 198, .int (zI i), u5, u6], [.int (zI i), .retAddr 150, .int (zI (zScr ar (i + 1))), .ref 0], zW K A O t)) (f0_8 (show 2663 ≤ 2713 by decide) rfl) rfl) ?_
  refine Eq.trans (mG_st (i := (.iconst 2)) (len := 1) (z := (2716, [.retAddr 150, .ref 0, .ref 185, .ref 198, .int (zI i), u5, u6], [.int (zI 2), .int (zI i), .retAddr 150, .int (zI (zScr ar (i + 1))), .ref 0], zW K A O t)) (f0_8 (show 2663 ≤ 2715 by decide) rfl) rfl) ?_
  refine Eq.trans (mG_st (i := .iadd) (len := 1) (z := (2717, [.retAddr 150, .ref 0, .ref 185, .ref 198, .int (zI i), u5, u6], [.int (zI (i + 2)), .retAddr 150, .int (zI (zScr ar (i + 1))), .ref 0], zW K A O t)) (f0_8 (show 2663 ≤ 2716 by decide) rfl) zs_add) ?_
  refine Eq.trans (mG_st (i := .iaload) (len := 1) (z := (2718, [.retAddr 150, .ref 0, .ref 185, .ref 198, .int (zI i), u5, u6], [.int (zI (zScr ar (i + 2))), .int (zI (zScr ar (i + 1))), .ref 0], zW K A O t)) (f0_8 (show 2663 ≤ 2717 by decide) rfl) (zM_scr (by omega) hL)) ?_
  refine Eq.trans (mG_st (i := (.aload 0)) (len := 1) (z := (2719, [.retAddr 150, .ref 0, .ref 185, .ref 198, .int (zI i), u5, u6], [.retAddr 150, .int (zI (zScr ar (i + 2))), .int (zI (zScr ar (i + 1))), .ref 0], zW K A O t)) (f0_8 (show 2663 ≤ 2718 by decide) rfl) rfl) ?_
  refine Eq.trans (mG_st (i := (.iload 4)) (len := 2) (z := (2721, [.retAddr 150, .ref 0, .ref 185, .ref 198, .int (zI i), u5, u6], [.int (zI i), .retAddr 150, .int (zI (zScr ar (i + 2))), .int (zI (zScr ar (i + 1))), .ref 0], zW K A O t)) (f0_8 (show 2663 ≤ 2719 by decide) rfl) rfl) ?_
  refine Eq.trans (mG_st (i := (.iconst 3)) (len := 1) (z := (2722, [.retAddr 150, .ref 0, .ref 185, .ref 198, .int (zI i), u5, u6], [.int (zI 3), .int (zI i), .retAddr 150, .int (zI (zScr ar (i + 2))), .int (zI (zScr ar (i + 1))), .ref 0], zW K A O t)) (f0_8 (show 2663 ≤ 2721 by decide) rfl) rfl) ?_
  refine Eq.trans (mG_st (i := .iadd) (len := 1) (z := (2723, [.retAddr 150, .ref 0, .ref 185, .ref 198, .int (zI i), u5, u6], [.int (zI (i + 3)), .retAddr 150, .int (zI (zScr ar (i + 2))), .int (zI (zScr ar (i + 1))), .ref 0], zW K A O t)) (f0_8 (show 2663 ≤ 2722 by decide) rfl) zs_add) ?_
  refine Eq.trans (mG_st (i := .iaload) (len := 1) (z := (2724, [.retAddr 150, .ref 0, .ref 185, .ref 198, .int (zI i), u5, u6], [.int (zI (zScr ar (i + 3))), .int (zI (zScr ar (i + 2))), .int (zI (zScr ar (i + 1))), .ref 0], zW K A O t)) (f0_8 (show 2663 ≤ 2723 by decide) rfl) (zM_scr (by omega) hL)) ?_
  refine Eq.trans (mG_bool (f0_8 (show 2663 ≤ 2724 by decide) rfl) (f0_8 (show 2663 ≤ 2727 by decide) rfl) (f0_8 (show 2663 ≤ 2728 by decide) rfl) (f0_8 (show 2663 ≤ 2731 by decide) rfl) zScr_r) ?_
  show mGd ar (D + 2) 0 2732 [.retAddr 150, .ref 0, .ref 185, .ref 198, .int (zI i), u5, u6] [.int (zI (if zScr ar (i + 3) = 0 then 0 else 1)), .int (zI (zScr ar (i + 2))), .int (zI (zScr ar (i + 1))), .ref 0] (zW K A O t) = _
  refine Eq.trans (mG_st (i := (.aload 3)) (len := 1) (z := (2733, [.retAddr 150, .ref 0, .ref 185, .ref 198, .int (zI i), u5, u6], [.ref 198, .int (zI (if zScr ar (i + 3) = 0 then 0 else 1)), .int (zI (zScr ar (i + 2))), .int (zI (zScr ar (i + 1))), .ref 0], zW K A O t)) (f0_8 (show 2663 ≤ 2732 by decide) rfl) rfl) ?_
  refine Eq.trans (mG_ok (i := (.invokestatic 206)) (len := 3) (M' := 206) (k := 5) (v := some (.int (zI k))) (w1 := zW K A1 O1 t1) (f0_8 (show 2663 ≤ 2733 by decide) rfl) rfl rfl h1) ?_
  show mGd ar (D + 2) 0 2736 [.retAddr 150, .ref 0, .ref 185, .ref 198, .int (zI i), u5, u6] [.int (zI k)] (zW K A1 O1 t1) = _
  refine Eq.trans (mG_st (i := (.istore 5)) (len := 2) (z := (2738, [.retAddr 150, .ref 0, .ref 185, .ref 198, .int (zI i), .int (zI k), u6], [], zW K A1 O1 t1)) (f0_8 (show 2663 ≤ 2736 by decide) rfl) rfl) ?_
  refine Eq.trans (mG_st (i := (.aload 2)) (len := 1) (z := (2739, [.retAddr 150, .ref 0, .ref 185, .ref 198, .int (zI i), .int (zI k), u6], [.ref 185], zW K A1 O1 t1)) (f0_8 (show 2663 ≤ 2738 by decide) rfl) rfl) ?_
  refine Eq.trans (mG_st (i := (.aload 0)) (len := 1) (z := (2740, [.retAddr 150, .ref 0, .ref 185, .ref 198, .int (zI i), .int (zI k), u6], [.retAddr 150, .ref 185], zW K A1 O1 t1)) (f0_8 (show 2663 ≤ 2739 by decide) rfl) rfl) ?_
  refine Eq.trans (mG_st (i := (.iload 4)) (len := 2) (z := (2742, [.retAddr 150, .ref 0, .ref 185, .ref 198, .int (zI i), .int (zI k), u6], [.int (zI i), .retAddr 150, .ref 185], zW K A1 O1 t1)) (f0_8 (show 2663 ≤ 2740 by decide) rfl) rfl) ?_
  refine Eq.trans (mG_st (i := (.iconst 1)) (len := 1) (z := (2743, [.retAddr 150, .ref 0, .ref 185, .ref 198, .int (zI i), .int (zI k), u6], [.int (zI 1), .int (zI i), .retAddr 150, .ref 185], zW K A1 O1 t1)) (f0_8 (show 2663 ≤ 2742 by decide) rfl) rfl) ?_
  refine Eq.trans (mG_st (i := .iadd) (len := 1) (z := (2744, [.retAddr 150, .ref 0, .ref 185, .ref 198, .int (zI i), .int (zI k), u6], [.int (zI (i + 1)), .retAddr 150, .ref 185], zW K A1 O1 t1)) (f0_8 (show 2663 ≤ 2743 by decide) rfl) zs_add) ?_
  refine Eq.trans (mG_st (i := .iaload) (len := 1) (z := (2745, [.retAddr 150, .ref 0, .ref 185, .ref 198, .int (zI i), .int (zI k), u6], [.int (zI (zScr ar (i + 1))), .ref 185], zW K A1 O1 t1)) (f0_8 (show 2663 ≤ 2744 by decide) rfl) (zM_scr (by omega) hL)) ?_
  refine Eq.trans (mG_st (i := (.aload 0)) (len := 1) (z := (2746, [.retAddr 150, .ref 0, .ref 185, .ref 198, .int (zI i), .int (zI k), u6], [.retAddr 150, .int (zI (zScr ar (i + 1))), .ref 185], zW K A1 O1 t1)) (f0_8 (show 2663 ≤ 2745 by decide) rfl) rfl) ?_
  refine Eq.trans (mG_st (i := (.iload 4)) (len := 2) (z := (2748, [.retAddr 150, .ref 0, .ref 185, .ref 198, .int (zI i), .int (zI k), u6], [.int (zI i), .retAddr 150, .int (zI (zScr ar (i + 1))), .ref 185], zW K A1 O1 t1)) (f0_8 (show 2663 ≤ 2746 by decide) rfl) rfl) ?_
  refine Eq.trans (mG_st (i := (.iconst 2)) (len := 1) (z := (2749, [.retAddr 150, .ref 0, .ref 185, .ref 198, .int (zI i), .int (zI k), u6], [.int (zI 2), .int (zI i), .retAddr 150, .int (zI (zScr ar (i + 1))), .ref 185], zW K A1 O1 t1)) (f0_8 (show 2663 ≤ 2748 by decide) rfl) rfl) ?_
  refine Eq.trans (mG_st (i := .iadd) (len := 1) (z := (2750, [.retAddr 150, .ref 0, .ref 185, .ref 198, .int (zI i), .int (zI k), u6], [.int (zI (i + 2)), .retAddr 150, .int (zI (zScr ar (i + 1))), .ref 185], zW K A1 O1 t1)) (f0_8 (show 2663 ≤ 2749 by decide) rfl) zs_add) ?_
  refine Eq.trans (mG_st (i := .iaload) (len := 1) (z := (2751, [.retAddr 150, .ref 0, .ref 185, .ref 198, .int (zI i), .int (zI k), u6], [.int (zI (zScr ar (i + 2))), .int (zI (zScr ar (i + 1))), .ref 185], zW K A1 O1 t1)) (f0_8 (show 2663 ≤ 2750 by decide) rfl) (zM_scr (by omega) hL)) ?_
  refine Eq.trans (mG_st (i := (.aload 0)) (len := 1) (z := (2752, [.retAddr 150, .ref 0, .ref 185, .ref 198, .int (zI i), .int (zI k), u6], [.retAddr 150, .int (zI (zScr ar (i + 2))), .int (zI (zScr ar (i + 1))), .ref 185], zW K A1 O1 t1)) (f0_8 (show 2663 ≤ 2751 by decide) rfl) rfl) ?_
  refine Eq.trans (mG_st (i := (.iload 4)) (len := 2) (z := (2754, [.retAddr 150, .ref 0, .ref 185, .ref 198, .int (zI i), .int (zI k), u6], [.int (zI i), .retAddr 150, .int (zI (zScr ar (i + 2))), .int (zI (zScr ar (i + 1))), .ref 185], zW K A1 O1 t1)) (f0_8 (show 2663 ≤ 2752 by decide) rfl) rfl) ?_
  refine Eq.trans (mG_st (i := (.iconst 3)) (len := 1) (z := (2755, [.retAddr 150, .ref 0, .ref 185, .ref 198, .int (zI i), .int (zI k), u6], [.int (zI 3), .int (zI i), .retAddr 150, .int (zI (zScr ar (i + 2))), .int (zI (zScr ar (i + 1))), .ref 185], zW K A1 O1 t1)) (f0_8 (show 2663 ≤ 2754 by decide) rfl) rfl) ?_
  refine Eq.trans (mG_st (i := .iadd) (len := 1) (z := (2756, [.retAddr 150, .ref 0, .ref 185, .ref 198, .int (zI i), .int (zI k), u6], [.int (zI (i + 3)), .retAddr 150, .int (zI (zScr ar (i + 2))), .int (zI (zScr ar (i + 1))), .ref 185], zW K A1 O1 t1)) (f0_8 (show 2663 ≤ 2755 by decide) rfl) zs_add) ?_
  refine Eq.trans (mG_st (i := .iaload) (len := 1) (z := (2757, [.retAddr 150, .ref 0, .ref 185, .ref 198, .int (zI i), .int (zI k), u6], [.int (zI (zScr ar (i + 3))), .int (zI (zScr ar (i + 2))), .int (zI (zScr ar (i + 1))), .ref 185], zW K A1 O1 t1)) (f0_8 (show 2663 ≤ 2756 by decide) rfl) (zM_scr (by omega) hL)) ?_
  refine Eq.trans (mG_bool (f0_8 (show 2663 ≤ 2757 by decide) rfl) (f0_8 (show 2663 ≤ 2760 by decide) rfl) (f0_8 (show 2663 ≤ 2761 by decide) rfl) (f0_8 (show 2663 ≤ 2764 by decide) rfl) zScr_r) ?_
  show mGd ar (D + 2) 0 2765 [.retAddr 150, .ref 0, .ref 185, .ref 198, .int (zI i), .int (zI k), u6] [.int (zI (if zScr ar (i + 3) = 0 then 0 else 1)), .int (zI (zScr ar (i + 2))), .int (zI (zScr ar (i + 1))), .ref 185] (zW K A1 O1 t1) = _
  refine Eq.trans (mG_ok (i := (.invokeinterface 48 3)) (len := 3) (M' := 337) (k := 4) (v := some (.int (zI b))) (w1 := zW K A2 O1 t1) (f0_8 (show 2663 ≤ 2765 by decide) rfl) (mC_if sh_185 rfl rfl rfl) rfl h4) ?_
  show mGd ar (D + 2) 0 2768 [.retAddr 150, .ref 0, .ref 185, .ref 198, .int (zI i), .int (zI k), u6] [.int (zI b)] (zW K A2 O1 t1) = _
  refine Eq.trans (mG_st (i := (.istore 6)) (len := 2) (z := (2770, [.retAddr 150, .ref 0, .ref 185, .ref 198, .int (zI i), .int (zI k), .int (zI b)], [], zW K A2 O1 t1)) (f0_8 (show 2663 ≤ 2768 by decide) rfl) rfl) ?_
  refine Eq.trans (mG_st (i := (.aload 2)) (len := 1) (z := (2771, [.retAddr 150, .ref 0, .ref 185, .ref 198, .int (zI i), .int (zI k), .int (zI b)], [.ref 185], zW K A2 O1 t1)) (f0_8 (show 2663 ≤ 2770 by decide) rfl) rfl) ?_
  refine Eq.trans (mG_ok (i := (.invokeinterface 5 0)) (len := 3) (M' := 215) (k := 1) (v := some (.int (zI (A2 185 0)))) (w1 := zW K A2 O1 t1) (f0_8 (show 2663 ≤ 2771 by decide) rfl) (mC_if sh_185 rfl rfl rfl) rfl i215_0) ?_
  rw [h5]
  show mGd ar (D + 2) 0 2774 [.retAddr 150, .ref 0, .ref 185, .ref 198, .int (zI i), .int (zI k), .int (zI b)] [.int (zI k)] (zW K A2 O1 t1) = _
  refine Eq.trans (mG_st (i := (.iload 5)) (len := 2) (z := (2776, [.retAddr 150, .ref 0, .ref 185, .ref 198, .int (zI i), .int (zI k), .int (zI b)], [.int (zI k), .int (zI k)], zW K A2 O1 t1)) (f0_8 (show 2663 ≤ 2774 by decide) rfl) rfl) ?_
  refine Eq.trans (mG_st (i := (.if_icmp .eq 5)) (len := 3) (z := (if k = k then 2781 else 2779, [.retAddr 150, .ref 0, .ref 185, .ref 198, .int (zI i), .int (zI k), .int (zI b)], [], zW K A2 O1 t1)) (f0_8 (show 2663 ≤ 2776 by decide) rfl) (zs_ic_eq (by omega) (by omega))) ?_
  rw [if_pos rfl]
  show mGd ar (D + 2) 0 2781 [.retAddr 150, .ref 0, .ref 185, .ref 198, .int (zI i), .int (zI k), .int (zI b)] [] (zW K A2 O1 t1) = _
  refine Eq.trans (mG_st (i := (.iload 5)) (len := 2) (z := (2783, [.retAddr 150, .ref 0, .ref 185, .ref 198, .int (zI i), .int (zI k), .int (zI b)], [.int (zI k)], zW K A2 O1 t1)) (f0_8 (show 2663 ≤ 2781 by decide) rfl) rfl) ?_
  refine Eq.trans (mG_st (i := (.ifCond .ne 15)) (len := 3) (z := (if k = 0 then 2786 else 2798, [.retAddr 150, .ref 0, .ref 185, .ref 198, .int (zI i), .int (zI k), .int (zI b)], [], zW K A2 O1 t1)) (f0_8 (show 2663 ≤ 2783 by decide) rfl) (zs_if_ne (by omega))) ?_
  have fin : mGd ar (D + 2) 0 2798 [.retAddr 150, .ref 0, .ref 185, .ref 198, .int (zI i), .int (zI k), .int (zI b)] [] (zW K A2 O1 t1) = mGd ar (D + 2) 0 3037 [.retAddr 150, .ref 0, .ref 185, .ref 198, .int (zI i), .int (zI k), .int (zI b)] [] (zW K A2 O1 t1) :=
    mG_st (i := (.goto 239)) (len := 3) (z := (3037, [.retAddr 150, .ref 0, .ref 185, .ref 198, .int (zI i), .int (zI k), .int (zI b)], [], zW K A2 O1 t1)) (f0_8 (show 2663 ≤ 2798 by decide) rfl) rfl
  by_cases k0 : k = 0
  · rw [if_pos k0]
    obtain ⟨h8, h9⟩ := h7 k0
    show mGd ar (D + 2) 0 2786 [.retAddr 150, .ref 0, .ref 185, .ref 198, .int (zI i), .int (zI k), .int (zI b)] [] (zW K A2 O1 t1) = _
    refine Eq.trans (mG_st (i := (.aload 3)) (len := 1) (z := (2787, [.retAddr 150, .ref 0, .ref 185, .ref 198, .int (zI i), .int (zI k), .int (zI b)], [.ref 198], zW K A2 O1 t1)) (f0_8 (show 2663 ≤ 2786 by decide) rfl) rfl) ?_
    refine Eq.trans (mG_st (i := (.iconst 0)) (len := 1) (z := (2788, [.retAddr 150, .ref 0, .ref 185, .ref 198, .int (zI i), .int (zI k), .int (zI b)], [.int (zI 0), .ref 198], zW K A2 O1 t1)) (f0_8 (show 2663 ≤ 2787 by decide) rfl) rfl) ?_
    refine Eq.trans (mG_st (i := .laload) (len := 1) (z := (2789, [.retAddr 150, .ref 0, .ref 185, .ref 198, .int (zI i), .int (zI k), .int (zI b)], [.long (O1 0)], zW K A2 O1 t1)) (f0_8 (show 2663 ≤ 2788 by decide) rfl) zM_lald) ?_
    refine Eq.trans (mG_st (i := (.iload 6)) (len := 2) (z := (2791, [.retAddr 150, .ref 0, .ref 185, .ref 198, .int (zI i), .int (zI k), .int (zI b)], [.int (zI b), .long (O1 0)], zW K A2 O1 t1)) (f0_8 (show 2663 ≤ 2789 by decide) rfl) rfl) ?_
    refine Eq.trans (mG_st (i := .i2l) (len := 1) (z := (2792, [.retAddr 150, .ref 0, .ref 185, .ref 198, .int (zI i), .int (zI k), .int (zI b)], [.long ((zI b).toInt64), .long (O1 0)], zW K A2 O1 t1)) (f0_8 (show 2663 ≤ 2791 by decide) rfl) rfl) ?_
    show mGd ar (D + 2) 0 2792 [.retAddr 150, .ref 0, .ref 185, .ref 198, .int (zI i), .int (zI k), .int (zI b)] [.long ((zI b).toInt64), .long (O1 0)] (zW K A2 O1 t1) = _
    refine Eq.trans (mG_st (i := .lcmp) (len := 1) (z := (2793, [.retAddr 150, .ref 0, .ref 185, .ref 198, .int (zI i), .int (zI k), .int (zI b)], [.int (lg_cmp (O1 0) ((zI b).toInt64))], zW K A2 O1 t1)) (f0_8 (show 2663 ≤ 2792 by decide) rfl) rfl) ?_
    rw [show O1 0 = (zI b).toInt64 from h8, lg_same]
    exact Eq.trans (mG_st (i := (.ifCond .eq 5)) (len := 3) (z := (2798, [.retAddr 150, .ref 0, .ref 185, .ref 198, .int (zI i), .int (zI k), .int (zI b)], [], zW K A2 O1 t1)) (f0_8 (show 2663 ≤ 2793 by decide) rfl) rfl) fin
  · rw [if_neg k0]; exact fin
set_option maxRecDepth 20000 in
theorem cs_led {i : Int} {u5 u6 : Value} (hL : (ar 150).1 ≤ 3072) (hi : 0 ≤ i ∧ i + 6 ≤ ((ar 150).1 : Int)) (hq : zWr ar K O t (D + 1) 208 [.ref 0, .int (zI (zScr ar (i + 1))), .int (zI (zScr ar (i + 2))), .ref 198, .double 0] 338 [.ref 185, .int (zI (zScr ar (i + 1))), .int (zI (zScr ar (i + 2))), .double 0] (fun b => (zI b).toInt64) A) : zNext ar K D i u5 u6 A O t 2801 := by
  obtain ⟨k, A1, O1, t1, h1, h2, h3, b, A2, h4, h5, h6, h7⟩ := hq
  refine ⟨A2, O1, t1, .int (zI k), .int (zI b), h2, h6, ?_⟩
  refine Eq.trans (mG_st (i := (.aload 1)) (len := 1) (z := (2802, [.retAddr 150, .ref 0, .ref 185, .ref 198, .int (zI i), u5, u6], [.ref 0], zW K A O t)) (f0_8 (show 2663 ≤ 2801 by decide) rfl) rfl) ?_
  refine Eq.trans (mG_st (i := (.aload 0)) (len := 1) (z := (2803, [.retAddr 150, .ref 0, .ref 185, .ref 198, .int (zI i), u5, u6], [.retAddr 150, .ref 0], zW K A O t)) (f0_8 (show 2663 ≤ 2802 by decide) rfl) rfl) ?_
  refine Eq.trans (mG_st (i := (.iload 4)) (len := 2) (z := (2805, [.retAddr 150, .ref 0, .ref 185, .ref 198, .int (zI i), u5, u6], [.int (zI i), .retAddr 150, .ref 0], zW K A O t)) (f0_8 (show 2663 ≤ 2803 by decide) rfl) rfl) ?_
  refine Eq.trans (mG_st (i := (.iconst 1)) (len := 1) (z := (2806, [.retAddr 150, .ref 0, .ref 185, .ref 198, .int (zI i), u5, u6], [.int (zI 1), .int (zI i), .retAddr 150, .ref 0], zW K A O t)) (f0_8 (show 2663 ≤ 2805 by decide) rfl) rfl) ?_
  refine Eq.trans (mG_st (i := .iadd) (len := 1) (z := (2807, [.retAddr 150, .ref 0, .ref 185, .ref 198, .int (zI i), u5, u6], [.int (zI (i + 1)), .retAddr 150, .ref 0], zW K A O t)) (f0_8 (show 2663 ≤ 2806 by decide) rfl) zs_add) ?_
  refine Eq.trans (mG_st (i := .iaload) (len := 1) (z := (2808, [.retAddr 150, .ref 0, .ref 185, .ref 198, .int (zI i), u5, u6], [.int (zI (zScr ar (i + 1))), .ref 0], zW K A O t)) (f0_8 (show 2663 ≤ 2807 by decide) rfl) (zM_scr (by omega) hL)) ?_
  refine Eq.trans (mG_st (i := (.aload 0)) (len := 1) (z := (2809, [.retAddr 150, .ref 0, .ref 185, .ref 198, .int (zI i), u5, u6], [.retAddr 150, .int (zI (zScr ar (i + 1))), .ref 0], zW K A O t)) (f0_8 (show 2663 ≤ 2808 by decide) rfl) rfl) ?_
  refine Eq.trans (mG_st (i := (.iload 4)) (len := 2) (z := (2811, [.retAddr 150, .ref 0, .ref 185, .ref 198, .int (zI i), u5, u6], [.int (zI i), .retAddr 150, .int (zI (zScr ar (i + 1))), .ref 0], zW K A O t)) (f0_8 (show 2663 ≤ 2809 by decide) rfl) rfl) ?_
  refine Eq.trans (mG_st (i := (.iconst 2)) (len := 1) (z := (2812, [.retAddr 150, .ref 0, .ref 185, .ref 198, .int (zI i), u5, u6], [.int (zI 2), .int (zI i), .retAddr 150, .int (zI (zScr ar (i + 1))), .ref 0], zW K A O t)) (f0_8 (show 2663 ≤ 2811 by decide) rfl) rfl) ?_
  refine Eq.trans (mG_st (i := .iadd) (len := 1) (z := (2813, [.retAddr 150, .ref 0, .ref 185, .ref 198, .int (zI i), u5, u6], [.int (zI (i + 2)), .retAddr 150, .int (zI (zScr ar (i + 1))), .ref 0], zW K A O t)) (f0_8 (show 2663 ≤ 2812 by decide) rfl) zs_add) ?_
  refine Eq.trans (mG_st (i := .iaload) (len := 1) (z := (2814, [.retAddr 150, .ref 0, .ref 185, .ref 198, .int (zI i), u5, u6], [.int (zI (zScr ar (i + 2))), .int (zI (zScr ar (i + 1))), .ref 0], zW K A O t)) (f0_8 (show 2663 ≤ 2813 by decide) rfl) (zM_scr (by omega) hL)) ?_
  refine Eq.trans (mG_st (i := (.aload 3)) (len := 1) (z := (2815, [.retAddr 150, .ref 0, .ref 185, .ref 198, .int (zI i), u5, u6], [.ref 198, .int (zI (zScr ar (i + 2))), .int (zI (zScr ar (i + 1))), .ref 0], zW K A O t)) (f0_8 (show 2663 ≤ 2814 by decide) rfl) rfl) ?_
  refine Eq.trans (mG_ok (i := (.invokestatic 208)) (len := 3) (M' := 208) (k := 4) (v := some (.int (zI k))) (w1 := zW K A1 O1 t1) (f0_8 (show 2663 ≤ 2815 by decide) rfl) rfl rfl h1) ?_
  show mGd ar (D + 2) 0 2818 [.retAddr 150, .ref 0, .ref 185, .ref 198, .int (zI i), u5, u6] [.int (zI k)] (zW K A1 O1 t1) = _
  refine Eq.trans (mG_st (i := (.istore 5)) (len := 2) (z := (2820, [.retAddr 150, .ref 0, .ref 185, .ref 198, .int (zI i), .int (zI k), u6], [], zW K A1 O1 t1)) (f0_8 (show 2663 ≤ 2818 by decide) rfl) rfl) ?_
  refine Eq.trans (mG_st (i := (.aload 2)) (len := 1) (z := (2821, [.retAddr 150, .ref 0, .ref 185, .ref 198, .int (zI i), .int (zI k), u6], [.ref 185], zW K A1 O1 t1)) (f0_8 (show 2663 ≤ 2820 by decide) rfl) rfl) ?_
  refine Eq.trans (mG_st (i := (.aload 0)) (len := 1) (z := (2822, [.retAddr 150, .ref 0, .ref 185, .ref 198, .int (zI i), .int (zI k), u6], [.retAddr 150, .ref 185], zW K A1 O1 t1)) (f0_8 (show 2663 ≤ 2821 by decide) rfl) rfl) ?_
  refine Eq.trans (mG_st (i := (.iload 4)) (len := 2) (z := (2824, [.retAddr 150, .ref 0, .ref 185, .ref 198, .int (zI i), .int (zI k), u6], [.int (zI i), .retAddr 150, .ref 185], zW K A1 O1 t1)) (f0_8 (show 2663 ≤ 2822 by decide) rfl) rfl) ?_
  refine Eq.trans (mG_st (i := (.iconst 1)) (len := 1) (z := (2825, [.retAddr 150, .ref 0, .ref 185, .ref 198, .int (zI i), .int (zI k), u6], [.int (zI 1), .int (zI i), .retAddr 150, .ref 185], zW K A1 O1 t1)) (f0_8 (show 2663 ≤ 2824 by decide) rfl) rfl) ?_
  refine Eq.trans (mG_st (i := .iadd) (len := 1) (z := (2826, [.retAddr 150, .ref 0, .ref 185, .ref 198, .int (zI i), .int (zI k), u6], [.int (zI (i + 1)), .retAddr 150, .ref 185], zW K A1 O1 t1)) (f0_8 (show 2663 ≤ 2825 by decide) rfl) zs_add) ?_
  refine Eq.trans (mG_st (i := .iaload) (len := 1) (z := (2827, [.retAddr 150, .ref 0, .ref 185, .ref 198, .int (zI i), .int (zI k), u6], [.int (zI (zScr ar (i + 1))), .ref 185], zW K A1 O1 t1)) (f0_8 (show 2663 ≤ 2826 by decide) rfl) (zM_scr (by omega) hL)) ?_
  refine Eq.trans (mG_st (i := (.aload 0)) (len := 1) (z := (2828, [.retAddr 150, .ref 0, .ref 185, .ref 198, .int (zI i), .int (zI k), u6], [.retAddr 150, .int (zI (zScr ar (i + 1))), .ref 185], zW K A1 O1 t1)) (f0_8 (show 2663 ≤ 2827 by decide) rfl) rfl) ?_
  refine Eq.trans (mG_st (i := (.iload 4)) (len := 2) (z := (2830, [.retAddr 150, .ref 0, .ref 185, .ref 198, .int (zI i), .int (zI k), u6], [.int (zI i), .retAddr 150, .int (zI (zScr ar (i + 1))), .ref 185], zW K A1 O1 t1)) (f0_8 (show 2663 ≤ 2828 by decide) rfl) rfl) ?_
  refine Eq.trans (mG_st (i := (.iconst 2)) (len := 1) (z := (2831, [.retAddr 150, .ref 0, .ref 185, .ref 198, .int (zI i), .int (zI k), u6], [.int (zI 2), .int (zI i), .retAddr 150, .int (zI (zScr ar (i + 1))), .ref 185], zW K A1 O1 t1)) (f0_8 (show 2663 ≤ 2830 by decide) rfl) rfl) ?_
  refine Eq.trans (mG_st (i := .iadd) (len := 1) (z := (2832, [.retAddr 150, .ref 0, .ref 185, .ref 198, .int (zI i), .int (zI k), u6], [.int (zI (i + 2)), .retAddr 150, .int (zI (zScr ar (i + 1))), .ref 185], zW K A1 O1 t1)) (f0_8 (show 2663 ≤ 2831 by decide) rfl) zs_add) ?_
  refine Eq.trans (mG_st (i := .iaload) (len := 1) (z := (2833, [.retAddr 150, .ref 0, .ref 185, .ref 198, .int (zI i), .int (zI k), u6], [.int (zI (zScr ar (i + 2))), .int (zI (zScr ar (i + 1))), .ref 185], zW K A1 O1 t1)) (f0_8 (show 2663 ≤ 2832 by decide) rfl) (zM_scr (by omega) hL)) ?_
  refine Eq.trans (mG_ok (i := (.invokeinterface 49 2)) (len := 3) (M' := 338) (k := 3) (v := some (.int (zI b))) (w1 := zW K A2 O1 t1) (f0_8 (show 2663 ≤ 2833 by decide) rfl) (mC_if sh_185 rfl rfl rfl) rfl h4) ?_
  show mGd ar (D + 2) 0 2836 [.retAddr 150, .ref 0, .ref 185, .ref 198, .int (zI i), .int (zI k), u6] [.int (zI b)] (zW K A2 O1 t1) = _
  refine Eq.trans (mG_st (i := (.istore 6)) (len := 2) (z := (2838, [.retAddr 150, .ref 0, .ref 185, .ref 198, .int (zI i), .int (zI k), .int (zI b)], [], zW K A2 O1 t1)) (f0_8 (show 2663 ≤ 2836 by decide) rfl) rfl) ?_
  refine Eq.trans (mG_st (i := (.aload 2)) (len := 1) (z := (2839, [.retAddr 150, .ref 0, .ref 185, .ref 198, .int (zI i), .int (zI k), .int (zI b)], [.ref 185], zW K A2 O1 t1)) (f0_8 (show 2663 ≤ 2838 by decide) rfl) rfl) ?_
  refine Eq.trans (mG_ok (i := (.invokeinterface 5 0)) (len := 3) (M' := 215) (k := 1) (v := some (.int (zI (A2 185 0)))) (w1 := zW K A2 O1 t1) (f0_8 (show 2663 ≤ 2839 by decide) rfl) (mC_if sh_185 rfl rfl rfl) rfl i215_0) ?_
  rw [h5]
  show mGd ar (D + 2) 0 2842 [.retAddr 150, .ref 0, .ref 185, .ref 198, .int (zI i), .int (zI k), .int (zI b)] [.int (zI k)] (zW K A2 O1 t1) = _
  refine Eq.trans (mG_st (i := (.iload 5)) (len := 2) (z := (2844, [.retAddr 150, .ref 0, .ref 185, .ref 198, .int (zI i), .int (zI k), .int (zI b)], [.int (zI k), .int (zI k)], zW K A2 O1 t1)) (f0_8 (show 2663 ≤ 2842 by decide) rfl) rfl) ?_
  refine Eq.trans (mG_st (i := (.if_icmp .eq 5)) (len := 3) (z := (if k = k then 2849 else 2847, [.retAddr 150, .ref 0, .ref 185, .ref 198, .int (zI i), .int (zI k), .int (zI b)], [], zW K A2 O1 t1)) (f0_8 (show 2663 ≤ 2844 by decide) rfl) (zs_ic_eq (by omega) (by omega))) ?_
  rw [if_pos rfl]
  show mGd ar (D + 2) 0 2849 [.retAddr 150, .ref 0, .ref 185, .ref 198, .int (zI i), .int (zI k), .int (zI b)] [] (zW K A2 O1 t1) = _
  refine Eq.trans (mG_st (i := (.iload 5)) (len := 2) (z := (2851, [.retAddr 150, .ref 0, .ref 185, .ref 198, .int (zI i), .int (zI k), .int (zI b)], [.int (zI k)], zW K A2 O1 t1)) (f0_8 (show 2663 ≤ 2849 by decide) rfl) rfl) ?_
  refine Eq.trans (mG_st (i := (.ifCond .ne 15)) (len := 3) (z := (if k = 0 then 2854 else 2866, [.retAddr 150, .ref 0, .ref 185, .ref 198, .int (zI i), .int (zI k), .int (zI b)], [], zW K A2 O1 t1)) (f0_8 (show 2663 ≤ 2851 by decide) rfl) (zs_if_ne (by omega))) ?_
  have fin : mGd ar (D + 2) 0 2866 [.retAddr 150, .ref 0, .ref 185, .ref 198, .int (zI i), .int (zI k), .int (zI b)] [] (zW K A2 O1 t1) = mGd ar (D + 2) 0 3037 [.retAddr 150, .ref 0, .ref 185, .ref 198, .int (zI i), .int (zI k), .int (zI b)] [] (zW K A2 O1 t1) :=
    mG_st (i := (.goto 171)) (len := 3) (z := (3037, [.retAddr 150, .ref 0, .ref 185, .ref 198, .int (zI i), .int (zI k), .int (zI b)], [], zW K A2 O1 t1)) (f0_8 (show 2663 ≤ 2866 by decide) rfl) rfl
  by_cases k0 : k = 0
  · rw [if_pos k0]
    obtain ⟨h8, h9⟩ := h7 k0
    show mGd ar (D + 2) 0 2854 [.retAddr 150, .ref 0, .ref 185, .ref 198, .int (zI i), .int (zI k), .int (zI b)] [] (zW K A2 O1 t1) = _
    refine Eq.trans (mG_st (i := (.aload 3)) (len := 1) (z := (2855, [.retAddr 150, .ref 0, .ref 185, .ref 198, .int (zI i), .int (zI k), .int (zI b)], [.ref 198], zW K A2 O1 t1)) (f0_8 (show 2663 ≤ 2854 by decide) rfl) rfl) ?_
    refine Eq.trans (mG_st (i := (.iconst 0)) (len := 1) (z := (2856, [.retAddr 150, .ref 0, .ref 185, .ref 198, .int (zI i), .int (zI k), .int (zI b)], [.int (zI 0), .ref 198], zW K A2 O1 t1)) (f0_8 (show 2663 ≤ 2855 by decide) rfl) rfl) ?_
    refine Eq.trans (mG_st (i := .laload) (len := 1) (z := (2857, [.retAddr 150, .ref 0, .ref 185, .ref 198, .int (zI i), .int (zI k), .int (zI b)], [.long (O1 0)], zW K A2 O1 t1)) (f0_8 (show 2663 ≤ 2856 by decide) rfl) zM_lald) ?_
    refine Eq.trans (mG_st (i := (.iload 6)) (len := 2) (z := (2859, [.retAddr 150, .ref 0, .ref 185, .ref 198, .int (zI i), .int (zI k), .int (zI b)], [.int (zI b), .long (O1 0)], zW K A2 O1 t1)) (f0_8 (show 2663 ≤ 2857 by decide) rfl) rfl) ?_
    refine Eq.trans (mG_st (i := .i2l) (len := 1) (z := (2860, [.retAddr 150, .ref 0, .ref 185, .ref 198, .int (zI i), .int (zI k), .int (zI b)], [.long ((zI b).toInt64), .long (O1 0)], zW K A2 O1 t1)) (f0_8 (show 2663 ≤ 2859 by decide) rfl) rfl) ?_
    show mGd ar (D + 2) 0 2860 [.retAddr 150, .ref 0, .ref 185, .ref 198, .int (zI i), .int (zI k), .int (zI b)] [.long ((zI b).toInt64), .long (O1 0)] (zW K A2 O1 t1) = _
    refine Eq.trans (mG_st (i := .lcmp) (len := 1) (z := (2861, [.retAddr 150, .ref 0, .ref 185, .ref 198, .int (zI i), .int (zI k), .int (zI b)], [.int (lg_cmp (O1 0) ((zI b).toInt64))], zW K A2 O1 t1)) (f0_8 (show 2663 ≤ 2860 by decide) rfl) rfl) ?_
    rw [show O1 0 = (zI b).toInt64 from h8, lg_same]
    exact Eq.trans (mG_st (i := (.ifCond .eq 5)) (len := 3) (z := (2866, [.retAddr 150, .ref 0, .ref 185, .ref 198, .int (zI i), .int (zI k), .int (zI b)], [], zW K A2 O1 t1)) (f0_8 (show 2663 ≤ 2861 by decide) rfl) rfl) fin
  · rw [if_neg k0]; exact fin
end CASE35
