/-! THE LAW, 3: the cases of its switch (by program: wip/gen/gen30.py) -/
section CASE7
variable {ar : Nat → Nat × (Nat → Int32)} {d D t : Nat} {K : Nat → Nat → Option Nat} {A : Nat → Int → Int} {O : Nat → Int64}

set_option maxRecDepth 20000 in
theorem cs_man {i : Int} {u5 u6 : Value} (hL : (ar 150).1 ≤ 3072) (hi : 0 ≤ i ∧ i + 6 ≤ ((ar 150).1 : Int)) (hq : zWr ar K O t (D + 1) 110 [.ref 0, .int (zI (zScr ar (i + 1))), .ref 198, .double 0] 261 [.ref 185, .int (zI (zScr ar (i + 1)))] (fun b => (zI b).toInt64) A) : zNext ar K D i u5 u6 A O t 587 := by
  obtain ⟨k, A1, O1, t1, h1, h2, h3, b, A2, h4, h5, h6, h7⟩ := hq
  refine ⟨A2, O1, t1, .int (zI k), .int (zI b), h2, h6, ?_⟩
  refine Eq.trans (mG_st (i := (.aload 1)) (len := 1) (z := (588, [.retAddr 150, .ref 0, .ref 185, .ref 198, .int (zI i), u5, u6], [.ref 0], zW K A O t)) (f0_1 (show 516 ≤ 587 by decide) rfl) rfl) ?_
  refine Eq.trans (mG_st (i := (.aload 0)) (len := 1) (z := (589, [.retAddr 150, .ref 0, .ref 185, .ref 198, .int (zI i), u5, u6], [.retAddr 150, .ref 0], zW K A O t)) (f0_1 (show 516 ≤ 588 by decide) rfl) rfl) ?_
  refine Eq.trans (mG_st (i := (.iload 4)) (len := 2) (z := (591, [.retAddr 150, .ref 0, .ref 185, .ref 198, .int (zI i), u5, u6], [.int (zI i), .retAddr 150, .ref 0], zW K A O t)) (f0_1 (show 516 ≤ 589 by decide) rfl) rfl) ?_
  refine Eq.trans (mG_st (i := (.iconst 1)) (len := 1) (z := (592, [.retAddr 150, .ref 0, .ref 185, .ref 198, .int (zI i), u5, u6], [.int (zI 1), .int (zI i), .retAddr 150, .ref 0], zW K A O t)) (f0_1 (show 516 ≤ 591 by decide) rfl) rfl) ?_
  refine Eq.trans (mG_st (i := .iadd) (len := 1) (z := (593, [.retAddr 150, .ref 0, .ref 185, .ref 198, .int (zI i), u5, u6], [.int (zI (i + 1)), .retAddr 150, .ref 0], zW K A O t)) (f0_1 (show 516 ≤ 592 by decide) rfl) zs_add) ?_
  refine Eq.trans (mG_st (i := .iaload) (len := 1) (z := (594, [.retAddr 150, .ref 0, .ref 185, .ref 198, .int (zI i), u5, u6], [.int (zI (zScr ar (i + 1))), .ref 0], zW K A O t)) (f0_1 (show 516 ≤ 593 by decide) rfl) (zM_scr (by omega) hL)) ?_
  refine Eq.trans (mG_st (i := (.aload 3)) (len := 1) (z := (595, [.retAddr 150, .ref 0, .ref 185, .ref 198, .int (zI i), u5, u6], [.ref 198, .int (zI (zScr ar (i + 1))), .ref 0], zW K A O t)) (f0_1 (show 516 ≤ 594 by decide) rfl) rfl) ?_
  refine Eq.trans (mG_ok (i := (.invokestatic 110)) (len := 3) (M' := 110) (k := 3) (v := some (.int (zI k))) (w1 := zW K A1 O1 t1) (f0_1 (show 516 ≤ 595 by decide) rfl) rfl rfl h1) ?_
  show mGd ar (D + 2) 0 598 [.retAddr 150, .ref 0, .ref 185, .ref 198, .int (zI i), u5, u6] [.int (zI k)] (zW K A1 O1 t1) = _
  refine Eq.trans (mG_st (i := (.istore 5)) (len := 2) (z := (600, [.retAddr 150, .ref 0, .ref 185, .ref 198, .int (zI i), .int (zI k), u6], [], zW K A1 O1 t1)) (f0_1 (show 516 ≤ 598 by decide) rfl) rfl) ?_
  refine Eq.trans (mG_st (i := (.aload 2)) (len := 1) (z := (601, [.retAddr 150, .ref 0, .ref 185, .ref 198, .int (zI i), .int (zI k), u6], [.ref 185], zW K A1 O1 t1)) (f0_1 (show 516 ≤ 600 by decide) rfl) rfl) ?_
  refine Eq.trans (mG_st (i := (.aload 0)) (len := 1) (z := (602, [.retAddr 150, .ref 0, .ref 185, .ref 198, .int (zI i), .int (zI k), u6], [.retAddr 150, .ref 185], zW K A1 O1 t1)) (f0_1 (show 516 ≤ 601 by decide) rfl) rfl) ?_
  refine Eq.trans (mG_st (i := (.iload 4)) (len := 2) (z := (604, [.retAddr 150, .ref 0, .ref 185, .ref 198, .int (zI i), .int (zI k), u6], [.int (zI i), .retAddr 150, .ref 185], zW K A1 O1 t1)) (f0_1 (show 516 ≤ 602 by decide) rfl) rfl) ?_
  refine Eq.trans (mG_st (i := (.iconst 1)) (len := 1) (z := (605, [.retAddr 150, .ref 0, .ref 185, .ref 198, .int (zI i), .int (zI k), u6], [.int (zI 1), .int (zI i), .retAddr 150, .ref 185], zW K A1 O1 t1)) (f0_1 (show 516 ≤ 604 by decide) rfl) rfl) ?_
  refine Eq.trans (mG_st (i := .iadd) (len := 1) (z := (606, [.retAddr 150, .ref 0, .ref 185, .ref 198, .int (zI i), .int (zI k), u6], [.int (zI (i + 1)), .retAddr 150, .ref 185], zW K A1 O1 t1)) (f0_1 (show 516 ≤ 605 by decide) rfl) zs_add) ?_
  refine Eq.trans (mG_st (i := .iaload) (len := 1) (z := (607, [.retAddr 150, .ref 0, .ref 185, .ref 198, .int (zI i), .int (zI k), u6], [.int (zI (zScr ar (i + 1))), .ref 185], zW K A1 O1 t1)) (f0_1 (show 516 ≤ 606 by decide) rfl) (zM_scr (by omega) hL)) ?_
  refine Eq.trans (mG_ok (i := (.invokeinterface 11 1)) (len := 3) (M' := 261) (k := 2) (v := some (.int (zI b))) (w1 := zW K A2 O1 t1) (f0_1 (show 516 ≤ 607 by decide) rfl) (mC_if sh_185 rfl rfl rfl) rfl h4) ?_
  show mGd ar (D + 2) 0 610 [.retAddr 150, .ref 0, .ref 185, .ref 198, .int (zI i), .int (zI k), u6] [.int (zI b)] (zW K A2 O1 t1) = _
  refine Eq.trans (mG_st (i := (.istore 6)) (len := 2) (z := (612, [.retAddr 150, .ref 0, .ref 185, .ref 198, .int (zI i), .int (zI k), .int (zI b)], [], zW K A2 O1 t1)) (f0_1 (show 516 ≤ 610 by decide) rfl) rfl) ?_
  refine Eq.trans (mG_st (i := (.aload 2)) (len := 1) (z := (613, [.retAddr 150, .ref 0, .ref 185, .ref 198, .int (zI i), .int (zI k), .int (zI b)], [.ref 185], zW K A2 O1 t1)) (f0_1 (show 516 ≤ 612 by decide) rfl) rfl) ?_
  refine Eq.trans (mG_ok (i := (.invokeinterface 5 0)) (len := 3) (M' := 215) (k := 1) (v := some (.int (zI (A2 185 0)))) (w1 := zW K A2 O1 t1) (f0_1 (show 516 ≤ 613 by decide) rfl) (mC_if sh_185 rfl rfl rfl) rfl i215_0) ?_
  rw [h5]
  show mGd ar (D + 2) 0 616 [.retAddr 150, .ref 0, .ref 185, .ref 198, .int (zI i), .int (zI k), .int (zI b)] [.int (zI k)] (zW K A2 O1 t1) = _
  refine Eq.trans (mG_st (i := (.iload 5)) (len := 2) (z := (618, [.retAddr 150, .ref 0, .ref 185, .ref 198, .int (zI i), .int (zI k), .int (zI b)], [.int (zI k), .int (zI k)], zW K A2 O1 t1)) (f0_1 (show 516 ≤ 616 by decide) rfl) rfl) ?_
  refine Eq.trans (mG_st (i := (.if_icmp .eq 5)) (len := 3) (z := (if k = k then 623 else 621, [.retAddr 150, .ref 0, .ref 185, .ref 198, .int (zI i), .int (zI k), .int (zI b)], [], zW K A2 O1 t1)) (f0_1 (show 516 ≤ 618 by decide) rfl) (zs_ic_eq (by omega) (by omega))) ?_
  rw [if_pos rfl]
  show mGd ar (D + 2) 0 623 [.retAddr 150, .ref 0, .ref 185, .ref 198, .int (zI i), .int (zI k), .int (zI b)] [] (zW K A2 O1 t1) = _
  refine Eq.trans (mG_st (i := (.iload 5)) (len := 2) (z := (625, [.retAddr 150, .ref 0, .ref 185, .ref 198, .int (zI i), .int (zI k), .int (zI b)], [.int (zI k)], zW K A2 O1 t1)) (f0_1 (show 516 ≤ 623 by decide) rfl) rfl) ?_
  refine Eq.trans (mG_st (i := (.ifCond .ne 15)) (len := 3) (z := (if k = 0 then 628 else 640, [.retAddr 150, .ref 0, .ref 185, .ref 198, .int (zI i), .int (zI k), .int (zI b)], [], zW K A2 O1 t1)) (f0_1 (show 516 ≤ 625 by decide) rfl) (zs_if_ne (by omega))) ?_
  have fin : mGd ar (D + 2) 0 640 [.retAddr 150, .ref 0, .ref 185, .ref 198, .int (zI i), .int (zI k), .int (zI b)] [] (zW K A2 O1 t1) = mGd ar (D + 2) 0 3037 [.retAddr 150, .ref 0, .ref 185, .ref 198, .int (zI i), .int (zI k), .int (zI b)] [] (zW K A2 O1 t1) :=
    mG_st (i := (.goto 2397)) (len := 3) (z := (3037, [.retAddr 150, .ref 0, .ref 185, .ref 198, .int (zI i), .int (zI k), .int (zI b)], [], zW K A2 O1 t1)) (f0_1 (show 516 ≤ 640 by decide) rfl) rfl
  by_cases k0 : k = 0
  · rw [if_pos k0]
    obtain ⟨h8, h9⟩ := h7 k0
    show mGd ar (D + 2) 0 628 [.retAddr 150, .ref 0, .ref 185, .ref 198, .int (zI i), .int (zI k), .int (zI b)] [] (zW K A2 O1 t1) = _
    refine Eq.trans (mG_st (i := (.aload 3)) (len := 1) (z := (629, [.retAddr 150, .ref 0, .ref 185, .ref 198, .int (zI i), .int (zI k), .int (zI b)], [.ref 198], zW K A2 O1 t1)) (f0_1 (show 516 ≤ 628 by decide) rfl) rfl) ?_
    refine Eq.trans (mG_st (i := (.iconst 0)) (len := 1) (z := (630, [.retAddr 150, .ref 0, .ref 185, .ref 198, .int (zI i), .int (zI k), .int (zI b)], [.int (zI 0), .ref 198], zW K A2 O1 t1)) (f0_1 (show 516 ≤ 629 by decide) rfl) rfl) ?_
    refine Eq.trans (mG_st (i := .laload) (len := 1) (z := (631, [.retAddr 150, .ref 0, .ref 185, .ref 198, .int (zI i), .int (zI k), .int (zI b)], [.long (O1 0)], zW K A2 O1 t1)) (f0_1 (show 516 ≤ 630 by decide) rfl) zM_lald) ?_
    refine Eq.trans (mG_st (i := (.iload 6)) (len := 2) (z := (633, [.retAddr 150, .ref 0, .ref 185, .ref 198, .int (zI i), .int (zI k), .int (zI b)], [.int (zI b), .long (O1 0)], zW K A2 O1 t1)) (f0_1 (show 516 ≤ 631 by decide) rfl) rfl) ?_
    refine Eq.trans (mG_st (i := .i2l) (len := 1) (z := (634, [.retAddr 150, .ref 0, .ref 185, .ref 198, .int (zI i), .int (zI k), .int (zI b)], [.long ((zI b).toInt64), .long (O1 0)], zW K A2 O1 t1)) (f0_1 (show 516 ≤ 633 by decide) rfl) rfl) ?_
    show mGd ar (D + 2) 0 634 [.retAddr 150, .ref 0, .ref 185, .ref 198, .int (zI i), .int (zI k), .int (zI b)] [.long ((zI b).toInt64), .long (O1 0)] (zW K A2 O1 t1) = _
    refine Eq.trans (mG_st (i := .lcmp) (len := 1) (z := (635, [.retAddr 150, .ref 0, .ref 185, .ref 198, .int (zI i), .int (zI k), .int (zI b)], [.int (lg_cmp (O1 0) ((zI b).toInt64))], zW K A2 O1 t1)) (f0_1 (show 516 ≤ 634 by decide) rfl) rfl) ?_
    rw [show O1 0 = (zI b).toInt64 from h8, lg_same]
    exact Eq.trans (mG_st (i := (.ifCond .eq 5)) (len := 3) (z := (640, [.retAddr 150, .ref 0, .ref 185, .ref 198, .int (zI i), .int (zI k), .int (zI b)], [], zW K A2 O1 t1)) (f0_1 (show 516 ≤ 635 by decide) rfl) rfl) fin
  · rw [if_neg k0]; exact fin
set_option maxRecDepth 20000 in
theorem cs_middle {i : Int} {u5 u6 : Value} (hL : (ar 150).1 ≤ 3072) (hi : 0 ≤ i ∧ i + 6 ≤ ((ar 150).1 : Int)) (hq : zWr ar K O t (D + 1) 112 [.ref 0, .int (zI (zScr ar (i + 1))), .int (zI (zScr ar (i + 2))), .ref 198, .double 0] 262 [.ref 185, .int (zI (zScr ar (i + 1))), .int (zI (zScr ar (i + 2)))] (fun b => (zI b).toInt64) A) : zNext ar K D i u5 u6 A O t 643 := by
  obtain ⟨k, A1, O1, t1, h1, h2, h3, b, A2, h4, h5, h6, h7⟩ := hq
  refine ⟨A2, O1, t1, .int (zI k), .int (zI b), h2, h6, ?_⟩
  refine Eq.trans (mG_st (i := (.aload 1)) (len := 1) (z := (644, [.retAddr 150, .ref 0, .ref 185, .ref 198, .int (zI i), u5, u6], [.ref 0], zW K A O t)) (f0_1 (show 516 ≤ 643 by decide) rfl) rfl) ?_
  refine Eq.trans (mG_st (i := (.aload 0)) (len := 1) (z := (645, [.retAddr 150, .ref 0, .ref 185, .ref 198, .int (zI i), u5, u6], [.retAddr 150, .ref 0], zW K A O t)) (f0_1 (show 516 ≤ 644 by decide) rfl) rfl) ?_
  refine Eq.trans (mG_st (i := (.iload 4)) (len := 2) (z := (647, [.retAddr 150, .ref 0, .ref 185, .ref 198, .int (zI i), u5, u6], [.int (zI i), .retAddr 150, .ref 0], zW K A O t)) (f0_1 (show 516 ≤ 645 by decide) rfl) rfl) ?_
  refine Eq.trans (mG_st (i := (.iconst 1)) (len := 1) (z := (648, [.retAddr 150, .ref 0, .ref 185, .ref 198, .int (zI i), u5, u6], [.int (zI 1), .int (zI i), .retAddr 150, .ref 0], zW K A O t)) (f0_1 (show 516 ≤ 647 by decide) rfl) rfl) ?_
  refine Eq.trans (mG_st (i := .iadd) (len := 1) (z := (649, [.retAddr 150, .ref 0, .ref 185, .ref 198, .int (zI i), u5, u6], [.int (zI (i + 1)), .retAddr 150, .ref 0], zW K A O t)) (f0_1 (show 516 ≤ 648 by decide) rfl) zs_add) ?_
  refine Eq.trans (mG_st (i := .iaload) (len := 1) (z := (650, [.retAddr 150, .ref 0, .ref 185, .ref 198, .int (zI i), u5, u6], [.int (zI (zScr ar (i + 1))), .ref 0], zW K A O t)) (f0_1 (show 516 ≤ 649 by decide) rfl) (zM_scr (by omega) hL)) ?_
  refine Eq.trans (mG_st (i := (.aload 0)) (len := 1) (z := (651, [.retAddr 150, .ref 0, .ref 185, .ref 198, .int (zI i), u5, u6], [.retAddr 150, .int (zI (zScr ar (i + 1))), .ref 0], zW K A O t)) (f0_1 (show 516 ≤ 650 by decide) rfl) rfl) ?_
  refine Eq.trans (mG_st (i := (.iload 4)) (len := 2) (z := (653, [.retAddr 150, .ref 0, .ref 185, .ref 198, .int (zI i), u5, u6], [.int (zI i), .retAddr 150, .int (zI (zScr ar (i + 1))), .ref 0], zW K A O t)) (f0_1 (show 516 ≤ 651 by decide) rfl) rfl) ?_
  refine Eq.trans (mG_st (i := (.iconst 2)) (len := 1) (z := (654, [.retAddr 150, .ref 0, .ref 185, .ref 198, .int (zI i), u5, u6], [.int (zI 2), .int (zI i), .retAddr 150, .int (zI (zScr ar (i + 1))), .ref 0], zW K A O t)) (f0_1 (show 516 ≤ 653 by decide) rfl) rfl) ?_
  refine Eq.trans (mG_st (i := .iadd) (len := 1) (z := (655, [.retAddr 150, .ref 0, .ref 185, .ref 198, .int (zI i), u5, u6], [.int (zI (i + 2)), .retAddr 150, .int (zI (zScr ar (i + 1))), .ref 0], zW K A O t)) (f0_1 (show 516 ≤ 654 by decide) rfl) zs_add) ?_
  refine Eq.trans (mG_st (i := .iaload) (len := 1) (z := (656, [.retAddr 150, .ref 0, .ref 185, .ref 198, .int (zI i), u5, u6], [.int (zI (zScr ar (i + 2))), .int (zI (zScr ar (i + 1))), .ref 0], zW K A O t)) (f0_1 (show 516 ≤ 655 by decide) rfl) (zM_scr (by omega) hL)) ?_
  refine Eq.trans (mG_st (i := (.aload 3)) (len := 1) (z := (657, [.retAddr 150, .ref 0, .ref 185, .ref 198, .int (zI i), u5, u6], [.ref 198, .int (zI (zScr ar (i + 2))), .int (zI (zScr ar (i + 1))), .ref 0], zW K A O t)) (f0_1 (show 516 ≤ 656 by decide) rfl) rfl) ?_
  refine Eq.trans (mG_ok (i := (.invokestatic 112)) (len := 3) (M' := 112) (k := 4) (v := some (.int (zI k))) (w1 := zW K A1 O1 t1) (f0_1 (show 516 ≤ 657 by decide) rfl) rfl rfl h1) ?_
  show mGd ar (D + 2) 0 660 [.retAddr 150, .ref 0, .ref 185, .ref 198, .int (zI i), u5, u6] [.int (zI k)] (zW K A1 O1 t1) = _
  refine Eq.trans (mG_st (i := (.istore 5)) (len := 2) (z := (662, [.retAddr 150, .ref 0, .ref 185, .ref 198, .int (zI i), .int (zI k), u6], [], zW K A1 O1 t1)) (f0_1 (show 516 ≤ 660 by decide) rfl) rfl) ?_
  refine Eq.trans (mG_st (i := (.aload 2)) (len := 1) (z := (663, [.retAddr 150, .ref 0, .ref 185, .ref 198, .int (zI i), .int (zI k), u6], [.ref 185], zW K A1 O1 t1)) (f0_1 (show 516 ≤ 662 by decide) rfl) rfl) ?_
  refine Eq.trans (mG_st (i := (.aload 0)) (len := 1) (z := (664, [.retAddr 150, .ref 0, .ref 185, .ref 198, .int (zI i), .int (zI k), u6], [.retAddr 150, .ref 185], zW K A1 O1 t1)) (f0_1 (show 516 ≤ 663 by decide) rfl) rfl) ?_
  refine Eq.trans (mG_st (i := (.iload 4)) (len := 2) (z := (666, [.retAddr 150, .ref 0, .ref 185, .ref 198, .int (zI i), .int (zI k), u6], [.int (zI i), .retAddr 150, .ref 185], zW K A1 O1 t1)) (f0_1 (show 516 ≤ 664 by decide) rfl) rfl) ?_
  refine Eq.trans (mG_st (i := (.iconst 1)) (len := 1) (z := (667, [.retAddr 150, .ref 0, .ref 185, .ref 198, .int (zI i), .int (zI k), u6], [.int (zI 1), .int (zI i), .retAddr 150, .ref 185], zW K A1 O1 t1)) (f0_1 (show 516 ≤ 666 by decide) rfl) rfl) ?_
  refine Eq.trans (mG_st (i := .iadd) (len := 1) (z := (668, [.retAddr 150, .ref 0, .ref 185, .ref 198, .int (zI i), .int (zI k), u6], [.int (zI (i + 1)), .retAddr 150, .ref 185], zW K A1 O1 t1)) (f0_1 (show 516 ≤ 667 by decide) rfl) zs_add) ?_
  refine Eq.trans (mG_st (i := .iaload) (len := 1) (z := (669, [.retAddr 150, .ref 0, .ref 185, .ref 198, .int (zI i), .int (zI k), u6], [.int (zI (zScr ar (i + 1))), .ref 185], zW K A1 O1 t1)) (f0_1 (show 516 ≤ 668 by decide) rfl) (zM_scr (by omega) hL)) ?_
  refine Eq.trans (mG_st (i := (.aload 0)) (len := 1) (z := (670, [.retAddr 150, .ref 0, .ref 185, .ref 198, .int (zI i), .int (zI k), u6], [.retAddr 150, .int (zI (zScr ar (i + 1))), .ref 185], zW K A1 O1 t1)) (f0_1 (show 516 ≤ 669 by decide) rfl) rfl) ?_
  refine Eq.trans (mG_st (i := (.iload 4)) (len := 2) (z := (672, [.retAddr 150, .ref 0, .ref 185, .ref 198, .int (zI i), .int (zI k), u6], [.int (zI i), .retAddr 150, .int (zI (zScr ar (i + 1))), .ref 185], zW K A1 O1 t1)) (f0_1 (show 516 ≤ 670 by decide) rfl) rfl) ?_
  refine Eq.trans (mG_st (i := (.iconst 2)) (len := 1) (z := (673, [.retAddr 150, .ref 0, .ref 185, .ref 198, .int (zI i), .int (zI k), u6], [.int (zI 2), .int (zI i), .retAddr 150, .int (zI (zScr ar (i + 1))), .ref 185], zW K A1 O1 t1)) (f0_1 (show 516 ≤ 672 by decide) rfl) rfl) ?_
  refine Eq.trans (mG_st (i := .iadd) (len := 1) (z := (674, [.retAddr 150, .ref 0, .ref 185, .ref 198, .int (zI i), .int (zI k), u6], [.int (zI (i + 2)), .retAddr 150, .int (zI (zScr ar (i + 1))), .ref 185], zW K A1 O1 t1)) (f0_1 (show 516 ≤ 673 by decide) rfl) zs_add) ?_
  refine Eq.trans (mG_st (i := .iaload) (len := 1) (z := (675, [.retAddr 150, .ref 0, .ref 185, .ref 198, .int (zI i), .int (zI k), u6], [.int (zI (zScr ar (i + 2))), .int (zI (zScr ar (i + 1))), .ref 185], zW K A1 O1 t1)) (f0_1 (show 516 ≤ 674 by decide) rfl) (zM_scr (by omega) hL)) ?_
  refine Eq.trans (mG_ok (i := (.invokeinterface 12 2)) (len := 3) (M' := 262) (k := 3) (v := some (.int (zI b))) (w1 := zW K A2 O1 t1) (f0_1 (show 516 ≤ 675 by decide) rfl) (mC_if sh_185 rfl rfl rfl) rfl h4) ?_
  show mGd ar (D + 2) 0 678 [.retAddr 150, .ref 0, .ref 185, .ref 198, .int (zI i), .int (zI k), u6] [.int (zI b)] (zW K A2 O1 t1) = _
  refine Eq.trans (mG_st (i := (.istore 6)) (len := 2) (z := (680, [.retAddr 150, .ref 0, .ref 185, .ref 198, .int (zI i), .int (zI k), .int (zI b)], [], zW K A2 O1 t1)) (f0_1 (show 516 ≤ 678 by decide) rfl) rfl) ?_
  refine Eq.trans (mG_st (i := (.aload 2)) (len := 1) (z := (681, [.retAddr 150, .ref 0, .ref 185, .ref 198, .int (zI i), .int (zI k), .int (zI b)], [.ref 185], zW K A2 O1 t1)) (f0_1 (show 516 ≤ 680 by decide) rfl) rfl) ?_
  refine Eq.trans (mG_ok (i := (.invokeinterface 5 0)) (len := 3) (M' := 215) (k := 1) (v := some (.int (zI (A2 185 0)))) (w1 := zW K A2 O1 t1) (f0_1 (show 516 ≤ 681 by decide) rfl) (mC_if sh_185 rfl rfl rfl) rfl i215_0) ?_
  rw [h5]
  show mGd ar (D + 2) 0 684 [.retAddr 150, .ref 0, .ref 185, .ref 198, .int (zI i), .int (zI k), .int (zI b)] [.int (zI k)] (zW K A2 O1 t1) = _
  refine Eq.trans (mG_st (i := (.iload 5)) (len := 2) (z := (686, [.retAddr 150, .ref 0, .ref 185, .ref 198, .int (zI i), .int (zI k), .int (zI b)], [.int (zI k), .int (zI k)], zW K A2 O1 t1)) (f0_1 (show 516 ≤ 684 by decide) rfl) rfl) ?_
  refine Eq.trans (mG_st (i := (.if_icmp .eq 5)) (len := 3) (z := (if k = k then 691 else 689, [.retAddr 150, .ref 0, .ref 185, .ref 198, .int (zI i), .int (zI k), .int (zI b)], [], zW K A2 O1 t1)) (f0_1 (show 516 ≤ 686 by decide) rfl) (zs_ic_eq (by omega) (by omega))) ?_
  rw [if_pos rfl]
  show mGd ar (D + 2) 0 691 [.retAddr 150, .ref 0, .ref 185, .ref 198, .int (zI i), .int (zI k), .int (zI b)] [] (zW K A2 O1 t1) = _
  refine Eq.trans (mG_st (i := (.iload 5)) (len := 2) (z := (693, [.retAddr 150, .ref 0, .ref 185, .ref 198, .int (zI i), .int (zI k), .int (zI b)], [.int (zI k)], zW K A2 O1 t1)) (f0_1 (show 516 ≤ 691 by decide) rfl) rfl) ?_
  refine Eq.trans (mG_st (i := (.ifCond .ne 15)) (len := 3) (z := (if k = 0 then 696 else 708, [.retAddr 150, .ref 0, .ref 185, .ref 198, .int (zI i), .int (zI k), .int (zI b)], [], zW K A2 O1 t1)) (f0_1 (show 516 ≤ 693 by decide) rfl) (zs_if_ne (by omega))) ?_
  have fin : mGd ar (D + 2) 0 708 [.retAddr 150, .ref 0, .ref 185, .ref 198, .int (zI i), .int (zI k), .int (zI b)] [] (zW K A2 O1 t1) = mGd ar (D + 2) 0 3037 [.retAddr 150, .ref 0, .ref 185, .ref 198, .int (zI i), .int (zI k), .int (zI b)] [] (zW K A2 O1 t1) :=
    mG_st (i := (.goto 2329)) (len := 3) (z := (3037, [.retAddr 150, .ref 0, .ref 185, .ref 198, .int (zI i), .int (zI k), .int (zI b)], [], zW K A2 O1 t1)) (f0_1 (show 516 ≤ 708 by decide) rfl) rfl
  by_cases k0 : k = 0
  · rw [if_pos k0]
    obtain ⟨h8, h9⟩ := h7 k0
    show mGd ar (D + 2) 0 696 [.retAddr 150, .ref 0, .ref 185, .ref 198, .int (zI i), .int (zI k), .int (zI b)] [] (zW K A2 O1 t1) = _
    refine Eq.trans (mG_st (i := (.aload 3)) (len := 1) (z := (697, [.retAddr 150, .ref 0, .ref 185, .ref 198, .int (zI i), .int (zI k), .int (zI b)], [.ref 198], zW K A2 O1 t1)) (f0_1 (show 516 ≤ 696 by decide) rfl) rfl) ?_
    refine Eq.trans (mG_st (i := (.iconst 0)) (len := 1) (z := (698, [.retAddr 150, .ref 0, .ref 185, .ref 198, .int (zI i), .int (zI k), .int (zI b)], [.int (zI 0), .ref 198], zW K A2 O1 t1)) (f0_1 (show 516 ≤ 697 by decide) rfl) rfl) ?_
    refine Eq.trans (mG_st (i := .laload) (len := 1) (z := (699, [.retAddr 150, .ref 0, .ref 185, .ref 198, .int (zI i), .int (zI k), .int (zI b)], [.long (O1 0)], zW K A2 O1 t1)) (f0_1 (show 516 ≤ 698 by decide) rfl) zM_lald) ?_
    refine Eq.trans (mG_st (i := (.iload 6)) (len := 2) (z := (701, [.retAddr 150, .ref 0, .ref 185, .ref 198, .int (zI i), .int (zI k), .int (zI b)], [.int (zI b), .long (O1 0)], zW K A2 O1 t1)) (f0_1 (show 516 ≤ 699 by decide) rfl) rfl) ?_
    refine Eq.trans (mG_st (i := .i2l) (len := 1) (z := (702, [.retAddr 150, .ref 0, .ref 185, .ref 198, .int (zI i), .int (zI k), .int (zI b)], [.long ((zI b).toInt64), .long (O1 0)], zW K A2 O1 t1)) (f0_1 (show 516 ≤ 701 by decide) rfl) rfl) ?_
    show mGd ar (D + 2) 0 702 [.retAddr 150, .ref 0, .ref 185, .ref 198, .int (zI i), .int (zI k), .int (zI b)] [.long ((zI b).toInt64), .long (O1 0)] (zW K A2 O1 t1) = _
    refine Eq.trans (mG_st (i := .lcmp) (len := 1) (z := (703, [.retAddr 150, .ref 0, .ref 185, .ref 198, .int (zI i), .int (zI k), .int (zI b)], [.int (lg_cmp (O1 0) ((zI b).toInt64))], zW K A2 O1 t1)) (f0_1 (show 516 ≤ 702 by decide) rfl) rfl) ?_
    rw [show O1 0 = (zI b).toInt64 from h8, lg_same]
    exact Eq.trans (mG_st (i := (.ifCond .eq 5)) (len := 3) (z := (708, [.retAddr 150, .ref 0, .ref 185, .ref 198, .int (zI i), .int (zI k), .int (zI b)], [], zW K A2 O1 t1)) (f0_1 (show 516 ≤ 703 by decide) rfl) rfl) fin
  · rw [if_neg k0]; exact fin
set_option maxRecDepth 20000 in
theorem cs_goes {i : Int} {u5 u6 : Value} (hL : (ar 150).1 ≤ 3072) (hi : 0 ≤ i ∧ i + 6 ≤ ((ar 150).1 : Int)) (hq : zWr ar K O t (D + 1) 116 [.ref 0, .int (zI (zScr ar (i + 1))), .int (zI (zScr ar (i + 2))), .ref 198, .double 0] 271 [.ref 185, .int (zI (zScr ar (i + 1))), .int (zI (zScr ar (i + 2)))] (fun b => (zI b).toInt64) A) : zNext ar K D i u5 u6 A O t 711 := by
  obtain ⟨k, A1, O1, t1, h1, h2, h3, b, A2, h4, h5, h6, h7⟩ := hq
  refine ⟨A2, O1, t1, .int (zI k), .int (zI b), h2, h6, ?_⟩
  refine Eq.trans (mG_st (i := (.aload 1)) (len := 1) (z := (712, [.retAddr 150, .ref 0, .ref 185, .ref 198, .int (zI i), u5, u6], [.ref 0], zW K A O t)) (f0_1 (show 516 ≤ 711 by decide) rfl) rfl) ?_
  refine Eq.trans (mG_st (i := (.aload 0)) (len := 1) (z := (713, [.retAddr 150, .ref 0, .ref 185, .ref 198, .int (zI i), u5, u6], [.retAddr 150, .ref 0], zW K A O t)) (f0_1 (show 516 ≤ 712 by decide) rfl) rfl) ?_
  refine Eq.trans (mG_st (i := (.iload 4)) (len := 2) (z := (715, [.retAddr 150, .ref 0, .ref 185, .ref 198, .int (zI i), u5, u6], [.int (zI i), .retAddr 150, .ref 0], zW K A O t)) (f0_1 (show 516 ≤ 713 by decide) rfl) rfl) ?_
  refine Eq.trans (mG_st (i := (.iconst 1)) (len := 1) (z := (716, [.retAddr 150, .ref 0, .ref 185, .ref 198, .int (zI i), u5, u6], [.int (zI 1), .int (zI i), .retAddr 150, .ref 0], zW K A O t)) (f0_1 (show 516 ≤ 715 by decide) rfl) rfl) ?_
  refine Eq.trans (mG_st (i := .iadd) (len := 1) (z := (717, [.retAddr 150, .ref 0, .ref 185, .ref 198, .int (zI i), u5, u6], [.int (zI (i + 1)), .retAddr 150, .ref 0], zW K A O t)) (f0_1 (show 516 ≤ 716 by decide) rfl) zs_add) ?_
  refine Eq.trans (mG_st (i := .iaload) (len := 1) (z := (718, [.retAddr 150, .ref 0, .ref 185, .ref 198, .int (zI i), u5, u6], [.int (zI (zScr ar (i + 1))), .ref 0], zW K A O t)) (f0_1 (show 516 ≤ 717 by decide) rfl) (zM_scr (by omega) hL)) ?_
  refine Eq.trans (mG_st (i := (.aload 0)) (len := 1) (z := (719, [.retAddr 150, .ref 0, .ref 185, .ref 198, .int (zI i), u5, u6], [.retAddr 150, .int (zI (zScr ar (i + 1))), .ref 0], zW K A O t)) (f0_1 (show 516 ≤ 718 by decide) rfl) rfl) ?_
  refine Eq.trans (mG_st (i := (.iload 4)) (len := 2) (z := (721, [.retAddr 150, .ref 0, .ref 185, .ref 198, .int (zI i), u5, u6], [.int (zI i), .retAddr 150, .int (zI (zScr ar (i + 1))), .ref 0], zW K A O t)) (f0_1 (show 516 ≤ 719 by decide) rfl) rfl) ?_
  refine Eq.trans (mG_st (i := (.iconst 2)) (len := 1) (z := (722, [.retAddr 150, .ref 0, .ref 185, .ref 198, .int (zI i), u5, u6], [.int (zI 2), .int (zI i), .retAddr 150, .int (zI (zScr ar (i + 1))), .ref 0], zW K A O t)) (f0_1 (show 516 ≤ 721 by decide) rfl) rfl) ?_
  refine Eq.trans (mG_st (i := .iadd) (len := 1) (z := (723, [.retAddr 150, .ref 0, .ref 185, .ref 198, .int (zI i), u5, u6], [.int (zI (i + 2)), .retAddr 150, .int (zI (zScr ar (i + 1))), .ref 0], zW K A O t)) (f0_1 (show 516 ≤ 722 by decide) rfl) zs_add) ?_
  refine Eq.trans (mG_st (i := .iaload) (len := 1) (z := (724, [.retAddr 150, .ref 0, .ref 185, .ref 198, .int (zI i), u5, u6], [.int (zI (zScr ar (i + 2))), .int (zI (zScr ar (i + 1))), .ref 0], zW K A O t)) (f0_1 (show 516 ≤ 723 by decide) rfl) (zM_scr (by omega) hL)) ?_
  refine Eq.trans (mG_st (i := (.aload 3)) (len := 1) (z := (725, [.retAddr 150, .ref 0, .ref 185, .ref 198, .int (zI i), u5, u6], [.ref 198, .int (zI (zScr ar (i + 2))), .int (zI (zScr ar (i + 1))), .ref 0], zW K A O t)) (f0_1 (show 516 ≤ 724 by decide) rfl) rfl) ?_
  refine Eq.trans (mG_ok (i := (.invokestatic 116)) (len := 3) (M' := 116) (k := 4) (v := some (.int (zI k))) (w1 := zW K A1 O1 t1) (f0_1 (show 516 ≤ 725 by decide) rfl) rfl rfl h1) ?_
  show mGd ar (D + 2) 0 728 [.retAddr 150, .ref 0, .ref 185, .ref 198, .int (zI i), u5, u6] [.int (zI k)] (zW K A1 O1 t1) = _
  refine Eq.trans (mG_st (i := (.istore 5)) (len := 2) (z := (730, [.retAddr 150, .ref 0, .ref 185, .ref 198, .int (zI i), .int (zI k), u6], [], zW K A1 O1 t1)) (f0_1 (show 516 ≤ 728 by decide) rfl) rfl) ?_
  refine Eq.trans (mG_st (i := (.aload 2)) (len := 1) (z := (731, [.retAddr 150, .ref 0, .ref 185, .ref 198, .int (zI i), .int (zI k), u6], [.ref 185], zW K A1 O1 t1)) (f0_1 (show 516 ≤ 730 by decide) rfl) rfl) ?_
  refine Eq.trans (mG_st (i := (.aload 0)) (len := 1) (z := (732, [.retAddr 150, .ref 0, .ref 185, .ref 198, .int (zI i), .int (zI k), u6], [.retAddr 150, .ref 185], zW K A1 O1 t1)) (f0_1 (show 516 ≤ 731 by decide) rfl) rfl) ?_
  refine Eq.trans (mG_st (i := (.iload 4)) (len := 2) (z := (734, [.retAddr 150, .ref 0, .ref 185, .ref 198, .int (zI i), .int (zI k), u6], [.int (zI i), .retAddr 150, .ref 185], zW K A1 O1 t1)) (f0_1 (show 516 ≤ 732 by decide) rfl) rfl) ?_
  refine Eq.trans (mG_st (i := (.iconst 1)) (len := 1) (z := (735, [.retAddr 150, .ref 0, .ref 185, .ref 198, .int (zI i), .int (zI k), u6], [.int (zI 1), .int (zI i), .retAddr 150, .ref 185], zW K A1 O1 t1)) (f0_1 (show 516 ≤ 734 by decide) rfl) rfl) ?_
  refine Eq.trans (mG_st (i := .iadd) (len := 1) (z := (736, [.retAddr 150, .ref 0, .ref 185, .ref 198, .int (zI i), .int (zI k), u6], [.int (zI (i + 1)), .retAddr 150, .ref 185], zW K A1 O1 t1)) (f0_1 (show 516 ≤ 735 by decide) rfl) zs_add) ?_
  refine Eq.trans (mG_st (i := .iaload) (len := 1) (z := (737, [.retAddr 150, .ref 0, .ref 185, .ref 198, .int (zI i), .int (zI k), u6], [.int (zI (zScr ar (i + 1))), .ref 185], zW K A1 O1 t1)) (f0_1 (show 516 ≤ 736 by decide) rfl) (zM_scr (by omega) hL)) ?_
  refine Eq.trans (mG_st (i := (.aload 0)) (len := 1) (z := (738, [.retAddr 150, .ref 0, .ref 185, .ref 198, .int (zI i), .int (zI k), u6], [.retAddr 150, .int (zI (zScr ar (i + 1))), .ref 185], zW K A1 O1 t1)) (f0_1 (show 516 ≤ 737 by decide) rfl) rfl) ?_
  refine Eq.trans (mG_st (i := (.iload 4)) (len := 2) (z := (740, [.retAddr 150, .ref 0, .ref 185, .ref 198, .int (zI i), .int (zI k), u6], [.int (zI i), .retAddr 150, .int (zI (zScr ar (i + 1))), .ref 185], zW K A1 O1 t1)) (f0_1 (show 516 ≤ 738 by decide) rfl) rfl) ?_
  refine Eq.trans (mG_st (i := (.iconst 2)) (len := 1) (z := (741, [.retAddr 150, .ref 0, .ref 185, .ref 198, .int (zI i), .int (zI k), u6], [.int (zI 2), .int (zI i), .retAddr 150, .int (zI (zScr ar (i + 1))), .ref 185], zW K A1 O1 t1)) (f0_1 (show 516 ≤ 740 by decide) rfl) rfl) ?_
  refine Eq.trans (mG_st (i := .iadd) (len := 1) (z := (742, [.retAddr 150, .ref 0, .ref 185, .ref 198, .int (zI i), .int (zI k), u6], [.int (zI (i + 2)), .retAddr 150, .int (zI (zScr ar (i + 1))), .ref 185], zW K A1 O1 t1)) (f0_1 (show 516 ≤ 741 by decide) rfl) zs_add) ?_
  refine Eq.trans (mG_st (i := .iaload) (len := 1) (z := (743, [.retAddr 150, .ref 0, .ref 185, .ref 198, .int (zI i), .int (zI k), u6], [.int (zI (zScr ar (i + 2))), .int (zI (zScr ar (i + 1))), .ref 185], zW K A1 O1 t1)) (f0_1 (show 516 ≤ 742 by decide) rfl) (zM_scr (by omega) hL)) ?_
  refine Eq.trans (mG_ok (i := (.invokeinterface 13 2)) (len := 3) (M' := 271) (k := 3) (v := some (.int (zI b))) (w1 := zW K A2 O1 t1) (f0_1 (show 516 ≤ 743 by decide) rfl) (mC_if sh_185 rfl rfl rfl) rfl h4) ?_
  show mGd ar (D + 2) 0 746 [.retAddr 150, .ref 0, .ref 185, .ref 198, .int (zI i), .int (zI k), u6] [.int (zI b)] (zW K A2 O1 t1) = _
  refine Eq.trans (mG_st (i := (.istore 6)) (len := 2) (z := (748, [.retAddr 150, .ref 0, .ref 185, .ref 198, .int (zI i), .int (zI k), .int (zI b)], [], zW K A2 O1 t1)) (f0_1 (show 516 ≤ 746 by decide) rfl) rfl) ?_
  refine Eq.trans (mG_st (i := (.aload 2)) (len := 1) (z := (749, [.retAddr 150, .ref 0, .ref 185, .ref 198, .int (zI i), .int (zI k), .int (zI b)], [.ref 185], zW K A2 O1 t1)) (f0_1 (show 516 ≤ 748 by decide) rfl) rfl) ?_
  refine Eq.trans (mG_ok (i := (.invokeinterface 5 0)) (len := 3) (M' := 215) (k := 1) (v := some (.int (zI (A2 185 0)))) (w1 := zW K A2 O1 t1) (f0_1 (show 516 ≤ 749 by decide) rfl) (mC_if sh_185 rfl rfl rfl) rfl i215_0) ?_
  rw [h5]
  show mGd ar (D + 2) 0 752 [.retAddr 150, .ref 0, .ref 185, .ref 198, .int (zI i), .int (zI k), .int (zI b)] [.int (zI k)] (zW K A2 O1 t1) = _
  refine Eq.trans (mG_st (i := (.iload 5)) (len := 2) (z := (754, [.retAddr 150, .ref 0, .ref 185, .ref 198, .int (zI i), .int (zI k), .int (zI b)], [.int (zI k), .int (zI k)], zW K A2 O1 t1)) (f0_1 (show 516 ≤ 752 by decide) rfl) rfl) ?_
  refine Eq.trans (mG_st (i := (.if_icmp .eq 5)) (len := 3) (z := (if k = k then 759 else 757, [.retAddr 150, .ref 0, .ref 185, .ref 198, .int (zI i), .int (zI k), .int (zI b)], [], zW K A2 O1 t1)) (f0_1 (show 516 ≤ 754 by decide) rfl) (zs_ic_eq (by omega) (by omega))) ?_
  rw [if_pos rfl]
  show mGd ar (D + 2) 0 759 [.retAddr 150, .ref 0, .ref 185, .ref 198, .int (zI i), .int (zI k), .int (zI b)] [] (zW K A2 O1 t1) = _
  refine Eq.trans (mG_st (i := (.iload 5)) (len := 2) (z := (761, [.retAddr 150, .ref 0, .ref 185, .ref 198, .int (zI i), .int (zI k), .int (zI b)], [.int (zI k)], zW K A2 O1 t1)) (f0_1 (show 516 ≤ 759 by decide) rfl) rfl) ?_
  refine Eq.trans (mG_st (i := (.ifCond .ne 15)) (len := 3) (z := (if k = 0 then 764 else 776, [.retAddr 150, .ref 0, .ref 185, .ref 198, .int (zI i), .int (zI k), .int (zI b)], [], zW K A2 O1 t1)) (f0_1 (show 516 ≤ 761 by decide) rfl) (zs_if_ne (by omega))) ?_
  have fin : mGd ar (D + 2) 0 776 [.retAddr 150, .ref 0, .ref 185, .ref 198, .int (zI i), .int (zI k), .int (zI b)] [] (zW K A2 O1 t1) = mGd ar (D + 2) 0 3037 [.retAddr 150, .ref 0, .ref 185, .ref 198, .int (zI i), .int (zI k), .int (zI b)] [] (zW K A2 O1 t1) :=
    mG_st (i := (.goto 2261)) (len := 3) (z := (3037, [.retAddr 150, .ref 0, .ref 185, .ref 198, .int (zI i), .int (zI k), .int (zI b)], [], zW K A2 O1 t1)) (f0_1 (show 516 ≤ 776 by decide) rfl) rfl
  by_cases k0 : k = 0
  · rw [if_pos k0]
    obtain ⟨h8, h9⟩ := h7 k0
    show mGd ar (D + 2) 0 764 [.retAddr 150, .ref 0, .ref 185, .ref 198, .int (zI i), .int (zI k), .int (zI b)] [] (zW K A2 O1 t1) = _
    refine Eq.trans (mG_st (i := (.aload 3)) (len := 1) (z := (765, [.retAddr 150, .ref 0, .ref 185, .ref 198, .int (zI i), .int (zI k), .int (zI b)], [.ref 198], zW K A2 O1 t1)) (f0_1 (show 516 ≤ 764 by decide) rfl) rfl) ?_
    refine Eq.trans (mG_st (i := (.iconst 0)) (len := 1) (z := (766, [.retAddr 150, .ref 0, .ref 185, .ref 198, .int (zI i), .int (zI k), .int (zI b)], [.int (zI 0), .ref 198], zW K A2 O1 t1)) (f0_1 (show 516 ≤ 765 by decide) rfl) rfl) ?_
    refine Eq.trans (mG_st (i := .laload) (len := 1) (z := (767, [.retAddr 150, .ref 0, .ref 185, .ref 198, .int (zI i), .int (zI k), .int (zI b)], [.long (O1 0)], zW K A2 O1 t1)) (f0_1 (show 516 ≤ 766 by decide) rfl) zM_lald) ?_
    refine Eq.trans (mG_st (i := (.iload 6)) (len := 2) (z := (769, [.retAddr 150, .ref 0, .ref 185, .ref 198, .int (zI i), .int (zI k), .int (zI b)], [.int (zI b), .long (O1 0)], zW K A2 O1 t1)) (f0_1 (show 516 ≤ 767 by decide) rfl) rfl) ?_
    refine Eq.trans (mG_st (i := .i2l) (len := 1) (z := (770, [.retAddr 150, .ref 0, .ref 185, .ref 198, .int (zI i), .int (zI k), .int (zI b)], [.long ((zI b).toInt64), .long (O1 0)], zW K A2 O1 t1)) (f0_1 (show 516 ≤ 769 by decide) rfl) rfl) ?_
    show mGd ar (D + 2) 0 770 [.retAddr 150, .ref 0, .ref 185, .ref 198, .int (zI i), .int (zI k), .int (zI b)] [.long ((zI b).toInt64), .long (O1 0)] (zW K A2 O1 t1) = _
    refine Eq.trans (mG_st (i := .lcmp) (len := 1) (z := (771, [.retAddr 150, .ref 0, .ref 185, .ref 198, .int (zI i), .int (zI k), .int (zI b)], [.int (lg_cmp (O1 0) ((zI b).toInt64))], zW K A2 O1 t1)) (f0_1 (show 516 ≤ 770 by decide) rfl) rfl) ?_
    rw [show O1 0 = (zI b).toInt64 from h8, lg_same]
    exact Eq.trans (mG_st (i := (.ifCond .eq 5)) (len := 3) (z := (776, [.retAddr 150, .ref 0, .ref 185, .ref 198, .int (zI i), .int (zI k), .int (zI b)], [], zW K A2 O1 t1)) (f0_1 (show 516 ≤ 771 by decide) rfl) rfl) fin
  · rw [if_neg k0]; exact fin
set_option maxRecDepth 20000 in
theorem cs_tell {i : Int} {u5 u6 : Value} (hL : (ar 150).1 ≤ 3072) (hi : 0 ≤ i ∧ i + 6 ≤ ((ar 150).1 : Int)) (hq : zWr ar K O t (D + 1) 118 [.ref 0, .int (zI (zScr ar (i + 1))), .int (zI (zScr ar (i + 2))), .int (zI (zScr ar (i + 3))), .ref 198, .double 0] 276 [.ref 185, .int (zI (zScr ar (i + 1))), .int (zI (zScr ar (i + 2))), .int (zI (zScr ar (i + 3))), .double 0] (fun b => (zI b).toInt64) A) : zNext ar K D i u5 u6 A O t 779 := by
  obtain ⟨k, A1, O1, t1, h1, h2, h3, b, A2, h4, h5, h6, h7⟩ := hq
  refine ⟨A2, O1, t1, .int (zI k), .int (zI b), h2, h6, ?_⟩
  refine Eq.trans (mG_st (i := (.aload 1)) (len := 1) (z := (780, [.retAddr 150, .ref 0, .ref 185, .ref 198, .int (zI i), u5, u6], [.ref 0], zW K A O t)) (f0_1 (show 516 ≤ 779 by decide) rfl) rfl) ?_
  refine Eq.trans (mG_st (i := (.aload 0)) (len := 1) (z := (781, [.retAddr 150, .ref 0, .ref 185, .ref 198, .int (zI i), u5, u6], [.retAddr 150, .ref 0], zW K A O t)) (f0_1 (show 516 ≤ 780 by decide) rfl) rfl) ?_
  refine Eq.trans (mG_st (i := (.iload 4)) (len := 2) (z := (783, [.retAddr 150, .ref 0, .ref 185, .ref 198, .int (zI i), u5, u6], [.int (zI i), .retAddr 150, .ref 0], zW K A O t)) (f0_1 (show 516 ≤ 781 by decide) rfl) rfl) ?_
  refine Eq.trans (mG_st (i := (.iconst 1)) (len := 1) (z := (784, [.retAddr 150, .ref 0, .ref 185, .ref 198, .int (zI i), u5, u6], [.int (zI 1), .int (zI i), .retAddr 150, .ref 0], zW K A O t)) (f0_1 (show 516 ≤ 783 by decide) rfl) rfl) ?_
  refine Eq.trans (mG_st (i := .iadd) (len := 1) (z := (785, [.retAddr 150, .ref 0, .ref 185, .ref 198, .int (zI i), u5, u6], [.int (zI (i + 1)), .retAddr 150, .ref 0], zW K A O t)) (f0_1 (show 516 ≤ 784 by decide) rfl) zs_add) ?_
  refine Eq.trans (mG_st (i := .iaload) (len := 1) (z := (786, [.retAddr 150, .ref 0, .ref 185, .ref 198, .int (zI i), u5, u6], [.int (zI (zScr ar (i + 1))), .ref 0], zW K A O t)) (f0_1 (show 516 ≤ 785 by decide) rfl) (zM_scr (by omega) hL)) ?_
  refine Eq.trans (mG_st (i := (.aload 0)) (len := 1) (z := (787, [.retAddr 150, .ref 0, .ref 185, .ref 198, .int (zI i), u5, u6], [.retAddr 150, .int (zI (zScr ar (i + 1))), .ref 0], zW K A O t)) (f0_1 (show 516 ≤ 786 by decide) rfl) rfl) ?_
  refine Eq.trans (mG_st (i := (.iload 4)) (len := 2) (z := (789, [.retAddr 150, .ref 0, .ref 185, .ref 198, .int (zI i), u5, u6], [.int (zI i), .retAddr 150, .int (zI (zScr ar (i + 1))), .ref 0], zW K A O t)) (f0_1 (show 516 ≤ 787 by decide) rfl) rfl) ?_
  refine Eq.trans (mG_st (i := (.iconst 2)) (len := 1) (z := (790, [.retAddr 150, .ref 0, .ref 185, .ref 198, .int (zI i), u5, u6], [.int (zI 2), .int (zI i), .retAddr 150, .int (zI (zScr ar (i + 1))), .ref 0], zW K A O t)) (f0_1 (show 516 ≤ 789 by decide) rfl) rfl) ?_
  refine Eq.trans (mG_st (i := .iadd) (len := 1) (z := (791, [.retAddr 150, .ref 0, .ref 185, .ref 198, .int (zI i), u5, u6], [.int (zI (i + 2)), .retAddr 150, .int (zI (zScr ar (i + 1))), .ref 0], zW K A O t)) (f0_1 (show 516 ≤ 790 by decide) rfl) zs_add) ?_
  refine Eq.trans (mG_st (i := .iaload) (len := 1) (z := (792, [.retAddr 150, .ref 0, .ref 185, .ref 198, .int (zI i), u5, u6], [.int (zI (zScr ar (i + 2))), .int (zI (zScr ar (i + 1))), .ref 0], zW K A O t)) (f0_1 (show 516 ≤ 791 by decide) rfl) (zM_scr (by omega) hL)) ?_
  refine Eq.trans (mG_st (i := (.aload 0)) (len := 1) (z := (793, [.retAddr 150, .ref 0, .ref 185, .ref 198, .int (zI i), u5, u6], [.retAddr 150, .int (zI (zScr ar (i + 2))), .int (zI (zScr ar (i + 1))), .ref 0], zW K A O t)) (f0_1 (show 516 ≤ 792 by decide) rfl) rfl) ?_
  refine Eq.trans (mG_st (i := (.iload 4)) (len := 2) (z := (795, [.retAddr 150, .ref 0, .ref 185, .ref 198, .int (zI i), u5, u6], [.int (zI i), .retAddr 150, .int (zI (zScr ar (i + 2))), .int (zI (zScr ar (i + 1))), .ref 0], zW K A O t)) (f0_1 (show 516 ≤ 793 by decide) rfl) rfl) ?_
  refine Eq.trans (mG_st (i := (.iconst 3)) (len := 1) (z := (796, [.retAddr 150, .ref 0, .ref 185, .ref 198, .int (zI i), u5, u6], [.int (zI 3), .int (zI i), .retAddr 150, .int (zI (zScr ar (i + 2))), .int (zI (zScr ar (i + 1))), .ref 0], zW K A O t)) (f0_1 (show 516 ≤ 795 by decide) rfl) rfl) ?_
  refine Eq.trans (mG_st (i := .iadd) (len := 1) (z := (797, [.retAddr 150, .ref 0, .ref 185, .ref 198, .int (zI i), u5, u6], [.int (zI (i + 3)), .retAddr 150, .int (zI (zScr ar (i + 2))), .int (zI (zScr ar (i + 1))), .ref 0], zW K A O t)) (f0_1 (show 516 ≤ 796 by decide) rfl) zs_add) ?_
  refine Eq.trans (mG_st (i := .iaload) (len := 1) (z := (798, [.retAddr 150, .ref 0, .ref 185, .ref 198, .int (zI i), u5, u6], [.int (zI (zScr ar (i + 3))), .int (zI (zScr ar (i + 2))), .int (zI (zScr ar (i + 1))), .ref 0], zW K A O t)) (f0_1 (show 516 ≤ 797 by decide) rfl) (zM_scr (by omega) hL)) ?_
  refine Eq.trans (mG_st (i := (.aload 3)) (len := 1) (z := (799, [.retAddr 150, .ref 0, .ref 185, .ref 198, .int (zI i), u5, u6], [.ref 198, .int (zI (zScr ar (i + 3))), .int (zI (zScr ar (i + 2))), .int (zI (zScr ar (i + 1))), .ref 0], zW K A O t)) (f0_1 (show 516 ≤ 798 by decide) rfl) rfl) ?_
  refine Eq.trans (mG_ok (i := (.invokestatic 118)) (len := 3) (M' := 118) (k := 5) (v := some (.int (zI k))) (w1 := zW K A1 O1 t1) (f0_1 (show 516 ≤ 799 by decide) rfl) rfl rfl h1) ?_
  show mGd ar (D + 2) 0 802 [.retAddr 150, .ref 0, .ref 185, .ref 198, .int (zI i), u5, u6] [.int (zI k)] (zW K A1 O1 t1) = _
  refine Eq.trans (mG_st (i := (.istore 5)) (len := 2) (z := (804, [.retAddr 150, .ref 0, .ref 185, .ref 198, .int (zI i), .int (zI k), u6], [], zW K A1 O1 t1)) (f0_1 (show 516 ≤ 802 by decide) rfl) rfl) ?_
  refine Eq.trans (mG_st (i := (.aload 2)) (len := 1) (z := (805, [.retAddr 150, .ref 0, .ref 185, .ref 198, .int (zI i), .int (zI k), u6], [.ref 185], zW K A1 O1 t1)) (f0_1 (show 516 ≤ 804 by decide) rfl) rfl) ?_
  refine Eq.trans (mG_st (i := (.aload 0)) (len := 1) (z := (806, [.retAddr 150, .ref 0, .ref 185, .ref 198, .int (zI i), .int (zI k), u6], [.retAddr 150, .ref 185], zW K A1 O1 t1)) (f0_1 (show 516 ≤ 805 by decide) rfl) rfl) ?_
  refine Eq.trans (mG_st (i := (.iload 4)) (len := 2) (z := (808, [.retAddr 150, .ref 0, .ref 185, .ref 198, .int (zI i), .int (zI k), u6], [.int (zI i), .retAddr 150, .ref 185], zW K A1 O1 t1)) (f0_1 (show 516 ≤ 806 by decide) rfl) rfl) ?_
  refine Eq.trans (mG_st (i := (.iconst 1)) (len := 1) (z := (809, [.retAddr 150, .ref 0, .ref 185, .ref 198, .int (zI i), .int (zI k), u6], [.int (zI 1), .int (zI i), .retAddr 150, .ref 185], zW K A1 O1 t1)) (f0_1 (show 516 ≤ 808 by decide) rfl) rfl) ?_
  refine Eq.trans (mG_st (i := .iadd) (len := 1) (z := (810, [.retAddr 150, .ref 0, .ref 185, .ref 198, .int (zI i), .int (zI k), u6], [.int (zI (i + 1)), .retAddr 150, .ref 185], zW K A1 O1 t1)) (f0_1 (show 516 ≤ 809 by decide) rfl) zs_add) ?_
  refine Eq.trans (mG_st (i := .iaload) (len := 1) (z := (811, [.retAddr 150, .ref 0, .ref 185, .ref 198, .int (zI i), .int (zI k), u6], [.int (zI (zScr ar (i + 1))), .ref 185], zW K A1 O1 t1)) (f0_1 (show 516 ≤ 810 by decide) rfl) (zM_scr (by omega) hL)) ?_
  refine Eq.trans (mG_st (i := (.aload 0)) (len := 1) (z := (812, [.retAddr 150, .ref 0, .ref 185, .ref 198, .int (zI i), .int (zI k), u6], [.retAddr 150, .int (zI (zScr ar (i + 1))), .ref 185], zW K A1 O1 t1)) (f0_1 (show 516 ≤ 811 by decide) rfl) rfl) ?_
  refine Eq.trans (mG_st (i := (.iload 4)) (len := 2) (z := (814, [.retAddr 150, .ref 0, .ref 185, .ref 198, .int (zI i), .int (zI k), u6], [.int (zI i), .retAddr 150, .int (zI (zScr ar (i + 1))), .ref 185], zW K A1 O1 t1)) (f0_1 (show 516 ≤ 812 by decide) rfl) rfl) ?_
  refine Eq.trans (mG_st (i := (.iconst 2)) (len := 1) (z := (815, [.retAddr 150, .ref 0, .ref 185, .ref 198, .int (zI i), .int (zI k), u6], [.int (zI 2), .int (zI i), .retAddr 150, .int (zI (zScr ar (i + 1))), .ref 185], zW K A1 O1 t1)) (f0_1 (show 516 ≤ 814 by decide) rfl) rfl) ?_
  refine Eq.trans (mG_st (i := .iadd) (len := 1) (z := (816, [.retAddr 150, .ref 0, .ref 185, .ref 198, .int (zI i), .int (zI k), u6], [.int (zI (i + 2)), .retAddr 150, .int (zI (zScr ar (i + 1))), .ref 185], zW K A1 O1 t1)) (f0_1 (show 516 ≤ 815 by decide) rfl) zs_add) ?_
  refine Eq.trans (mG_st (i := .iaload) (len := 1) (z := (817, [.retAddr 150, .ref 0, .ref 185, .ref 198, .int (zI i), .int (zI k), u6], [.int (zI (zScr ar (i + 2))), .int (zI (zScr ar (i + 1))), .ref 185], zW K A1 O1 t1)) (f0_2 (show 816 ≤ 816 by decide) rfl) (zM_scr (by omega) hL)) ?_
  refine Eq.trans (mG_st (i := (.aload 0)) (len := 1) (z := (818, [.retAddr 150, .ref 0, .ref 185, .ref 198, .int (zI i), .int (zI k), u6], [.retAddr 150, .int (zI (zScr ar (i + 2))), .int (zI (zScr ar (i + 1))), .ref 185], zW K A1 O1 t1)) (f0_2 (show 816 ≤ 817 by decide) rfl) rfl) ?_
  refine Eq.trans (mG_st (i := (.iload 4)) (len := 2) (z := (820, [.retAddr 150, .ref 0, .ref 185, .ref 198, .int (zI i), .int (zI k), u6], [.int (zI i), .retAddr 150, .int (zI (zScr ar (i + 2))), .int (zI (zScr ar (i + 1))), .ref 185], zW K A1 O1 t1)) (f0_2 (show 816 ≤ 818 by decide) rfl) rfl) ?_
  refine Eq.trans (mG_st (i := (.iconst 3)) (len := 1) (z := (821, [.retAddr 150, .ref 0, .ref 185, .ref 198, .int (zI i), .int (zI k), u6], [.int (zI 3), .int (zI i), .retAddr 150, .int (zI (zScr ar (i + 2))), .int (zI (zScr ar (i + 1))), .ref 185], zW K A1 O1 t1)) (f0_2 (show 816 ≤ 820 by decide) rfl) rfl) ?_
  refine Eq.trans (mG_st (i := .iadd) (len := 1) (z := (822, [.retAddr 150, .ref 0, .ref 185, .ref 198, .int (zI i), .int (zI k), u6], [.int (zI (i + 3)), .retAddr 150, .int (zI (zScr ar (i + 2))), .int (zI (zScr ar (i + 1))), .ref 185], zW K A1 O1 t1)) (f0_2 (show 816 ≤ 821 by decide) rfl) zs_add) ?_
  refine Eq.trans (mG_st (i := .iaload) (len := 1) (z := (823, [.retAddr 150, .ref 0, .ref 185, .ref 198, .int (zI i), .int (zI k), u6], [.int (zI (zScr ar (i + 3))), .int (zI (zScr ar (i + 2))), .int (zI (zScr ar (i + 1))), .ref 185], zW K A1 O1 t1)) (f0_2 (show 816 ≤ 822 by decide) rfl) (zM_scr (by omega) hL)) ?_
  refine Eq.trans (mG_ok (i := (.invokeinterface 14 3)) (len := 3) (M' := 276) (k := 4) (v := some (.int (zI b))) (w1 := zW K A2 O1 t1) (f0_2 (show 816 ≤ 823 by decide) rfl) (mC_if sh_185 rfl rfl rfl) rfl h4) ?_
  show mGd ar (D + 2) 0 826 [.retAddr 150, .ref 0, .ref 185, .ref 198, .int (zI i), .int (zI k), u6] [.int (zI b)] (zW K A2 O1 t1) = _
  refine Eq.trans (mG_st (i := (.istore 6)) (len := 2) (z := (828, [.retAddr 150, .ref 0, .ref 185, .ref 198, .int (zI i), .int (zI k), .int (zI b)], [], zW K A2 O1 t1)) (f0_2 (show 816 ≤ 826 by decide) rfl) rfl) ?_
  refine Eq.trans (mG_st (i := (.aload 2)) (len := 1) (z := (829, [.retAddr 150, .ref 0, .ref 185, .ref 198, .int (zI i), .int (zI k), .int (zI b)], [.ref 185], zW K A2 O1 t1)) (f0_2 (show 816 ≤ 828 by decide) rfl) rfl) ?_
  refine Eq.trans (mG_ok (i := (.invokeinterface 5 0)) (len := 3) (M' := 215) (k := 1) (v := some (.int (zI (A2 185 0)))) (w1 := zW K A2 O1 t1) (f0_2 (show 816 ≤ 829 by decide) rfl) (mC_if sh_185 rfl rfl rfl) rfl i215_0) ?_
  rw [h5]
  show mGd ar (D + 2) 0 832 [.retAddr 150, .ref 0, .ref 185, .ref 198, .int (zI i), .int (zI k), .int (zI b)] [.int (zI k)] (zW K A2 O1 t1) = _
  refine Eq.trans (mG_st (i := (.iload 5)) (len := 2) (z := (834, [.retAddr 150, .ref 0, .ref 185, .ref 198, .int (zI i), .int (zI k), .int (zI b)], [.int (zI k), .int (zI k)], zW K A2 O1 t1)) (f0_2 (show 816 ≤ 832 by decide) rfl) rfl) ?_
  refine Eq.trans (mG_st (i := (.if_icmp .eq 5)) (len := 3) (z := (if k = k then 839 else 837, [.retAddr 150, .ref 0, .ref 185, .ref 198, .int (zI i), .int (zI k), .int (zI b)], [], zW K A2 O1 t1)) (f0_2 (show 816 ≤ 834 by decide) rfl) (zs_ic_eq (by omega) (by omega))) ?_
  rw [if_pos rfl]
  show mGd ar (D + 2) 0 839 [.retAddr 150, .ref 0, .ref 185, .ref 198, .int (zI i), .int (zI k), .int (zI b)] [] (zW K A2 O1 t1) = _
  refine Eq.trans (mG_st (i := (.iload 5)) (len := 2) (z := (841, [.retAddr 150, .ref 0, .ref 185, .ref 198, .int (zI i), .int (zI k), .int (zI b)], [.int (zI k)], zW K A2 O1 t1)) (f0_2 (show 816 ≤ 839 by decide) rfl) rfl) ?_
  refine Eq.trans (mG_st (i := (.ifCond .ne 15)) (len := 3) (z := (if k = 0 then 844 else 856, [.retAddr 150, .ref 0, .ref 185, .ref 198, .int (zI i), .int (zI k), .int (zI b)], [], zW K A2 O1 t1)) (f0_2 (show 816 ≤ 841 by decide) rfl) (zs_if_ne (by omega))) ?_
  have fin : mGd ar (D + 2) 0 856 [.retAddr 150, .ref 0, .ref 185, .ref 198, .int (zI i), .int (zI k), .int (zI b)] [] (zW K A2 O1 t1) = mGd ar (D + 2) 0 3037 [.retAddr 150, .ref 0, .ref 185, .ref 198, .int (zI i), .int (zI k), .int (zI b)] [] (zW K A2 O1 t1) :=
    mG_st (i := (.goto 2181)) (len := 3) (z := (3037, [.retAddr 150, .ref 0, .ref 185, .ref 198, .int (zI i), .int (zI k), .int (zI b)], [], zW K A2 O1 t1)) (f0_2 (show 816 ≤ 856 by decide) rfl) rfl
  by_cases k0 : k = 0
  · rw [if_pos k0]
    obtain ⟨h8, h9⟩ := h7 k0
    show mGd ar (D + 2) 0 844 [.retAddr 150, .ref 0, .ref 185, .ref 198, .int (zI i), .int (zI k), .int (zI b)] [] (zW K A2 O1 t1) = _
    refine Eq.trans (mG_st (i := (.aload 3)) (len := 1) (z := (845, [.retAddr 150, .ref 0, .ref 185, .ref 198, .int (zI i), .int (zI k), .int (zI b)], [.ref 198], zW K A2 O1 t1)) (f0_2 (show 816 ≤ 844 by decide) rfl) rfl) ?_
    refine Eq.trans (mG_st (i := (.iconst 0)) (len := 1) (z := (846, [.retAddr 150, .ref 0, .ref 185, .ref 198, .int (zI i), .int (zI k), .int (zI b)], [.int (zI 0), .ref 198], zW K A2 O1 t1)) (f0_2 (show 816 ≤ 845 by decide) rfl) rfl) ?_
    refine Eq.trans (mG_st (i := .laload) (len := 1) (z := (847, [.retAddr 150, .ref 0, .ref 185, .ref 198, .int (zI i), .int (zI k), .int (zI b)], [.long (O1 0)], zW K A2 O1 t1)) (f0_2 (show 816 ≤ 846 by decide) rfl) zM_lald) ?_
    refine Eq.trans (mG_st (i := (.iload 6)) (len := 2) (z := (849, [.retAddr 150, .ref 0, .ref 185, .ref 198, .int (zI i), .int (zI k), .int (zI b)], [.int (zI b), .long (O1 0)], zW K A2 O1 t1)) (f0_2 (show 816 ≤ 847 by decide) rfl) rfl) ?_
    refine Eq.trans (mG_st (i := .i2l) (len := 1) (z := (850, [.retAddr 150, .ref 0, .ref 185, .ref 198, .int (zI i), .int (zI k), .int (zI b)], [.long ((zI b).toInt64), .long (O1 0)], zW K A2 O1 t1)) (f0_2 (show 816 ≤ 849 by decide) rfl) rfl) ?_
    show mGd ar (D + 2) 0 850 [.retAddr 150, .ref 0, .ref 185, .ref 198, .int (zI i), .int (zI k), .int (zI b)] [.long ((zI b).toInt64), .long (O1 0)] (zW K A2 O1 t1) = _
    refine Eq.trans (mG_st (i := .lcmp) (len := 1) (z := (851, [.retAddr 150, .ref 0, .ref 185, .ref 198, .int (zI i), .int (zI k), .int (zI b)], [.int (lg_cmp (O1 0) ((zI b).toInt64))], zW K A2 O1 t1)) (f0_2 (show 816 ≤ 850 by decide) rfl) rfl) ?_
    rw [show O1 0 = (zI b).toInt64 from h8, lg_same]
    exact Eq.trans (mG_st (i := (.ifCond .eq 5)) (len := 3) (z := (856, [.retAddr 150, .ref 0, .ref 185, .ref 198, .int (zI i), .int (zI k), .int (zI b)], [], zW K A2 O1 t1)) (f0_2 (show 816 ≤ 851 by decide) rfl) rfl) fin
  · rw [if_neg k0]; exact fin
set_option maxRecDepth 20000 in
theorem cs_rule {i : Int} {u5 u6 : Value} (hL : (ar 150).1 ≤ 3072) (hi : 0 ≤ i ∧ i + 6 ≤ ((ar 150).1 : Int)) (hq : zWr ar K O t (D + 1) 122 [.ref 0, .int (zI (zScr ar (i + 1))), .int (zI (zScr ar (i + 2))), .ref 198, .double 0] 279 [.ref 185, .int (zI (zScr ar (i + 1))), .int (zI (zScr ar (i + 2))), .double 0] (fun b => (zI b).toInt64) A) : zNext ar K D i u5 u6 A O t 859 := by
  obtain ⟨k, A1, O1, t1, h1, h2, h3, b, A2, h4, h5, h6, h7⟩ := hq
  refine ⟨A2, O1, t1, .int (zI k), .int (zI b), h2, h6, ?_⟩
  refine Eq.trans (mG_st (i := (.aload 1)) (len := 1) (z := (860, [.retAddr 150, .ref 0, .ref 185, .ref 198, .int (zI i), u5, u6], [.ref 0], zW K A O t)) (f0_2 (show 816 ≤ 859 by decide) rfl) rfl) ?_
  refine Eq.trans (mG_st (i := (.aload 0)) (len := 1) (z := (861, [.retAddr 150, .ref 0, .ref 185, .ref 198, .int (zI i), u5, u6], [.retAddr 150, .ref 0], zW K A O t)) (f0_2 (show 816 ≤ 860 by decide) rfl) rfl) ?_
  refine Eq.trans (mG_st (i := (.iload 4)) (len := 2) (z := (863, [.retAddr 150, .ref 0, .ref 185, .ref 198, .int (zI i), u5, u6], [.int (zI i), .retAddr 150, .ref 0], zW K A O t)) (f0_2 (show 816 ≤ 861 by decide) rfl) rfl) ?_
  refine Eq.trans (mG_st (i := (.iconst 1)) (len := 1) (z := (864, [.retAddr 150, .ref 0, .ref 185, .ref 198, .int (zI i), u5, u6], [.int (zI 1), .int (zI i), .retAddr 150, .ref 0], zW K A O t)) (f0_2 (show 816 ≤ 863 by decide) rfl) rfl) ?_
  refine Eq.trans (mG_st (i := .iadd) (len := 1) (z := (865, [.retAddr 150, .ref 0, .ref 185, .ref 198, .int (zI i), u5, u6], [.int (zI (i + 1)), .retAddr 150, .ref 0], zW K A O t)) (f0_2 (show 816 ≤ 864 by decide) rfl) zs_add) ?_
  refine Eq.trans (mG_st (i := .iaload) (len := 1) (z := (866, [.retAddr 150, .ref 0, .ref 185, .ref 198, .int (zI i), u5, u6], [.int (zI (zScr ar (i + 1))), .ref 0], zW K A O t)) (f0_2 (show 816 ≤ 865 by decide) rfl) (zM_scr (by omega) hL)) ?_
  refine Eq.trans (mG_st (i := (.aload 0)) (len := 1) (z := (867, [.retAddr 150, .ref 0, .ref 185, .ref 198, .int (zI i), u5, u6], [.retAddr 150, .int (zI (zScr ar (i + 1))), .ref 0], zW K A O t)) (f0_2 (show 816 ≤ 866 by decide) rfl) rfl) ?_
  refine Eq.trans (mG_st (i := (.iload 4)) (len := 2) (z := (869, [.retAddr 150, .ref 0, .ref 185, .ref 198, .int (zI i), u5, u6], [.int (zI i), .retAddr 150, .int (zI (zScr ar (i + 1))), .ref 0], zW K A O t)) (f0_2 (show 816 ≤ 867 by decide) rfl) rfl) ?_
  refine Eq.trans (mG_st (i := (.iconst 2)) (len := 1) (z := (870, [.retAddr 150, .ref 0, .ref 185, .ref 198, .int (zI i), u5, u6], [.int (zI 2), .int (zI i), .retAddr 150, .int (zI (zScr ar (i + 1))), .ref 0], zW K A O t)) (f0_2 (show 816 ≤ 869 by decide) rfl) rfl) ?_
  refine Eq.trans (mG_st (i := .iadd) (len := 1) (z := (871, [.retAddr 150, .ref 0, .ref 185, .ref 198, .int (zI i), u5, u6], [.int (zI (i + 2)), .retAddr 150, .int (zI (zScr ar (i + 1))), .ref 0], zW K A O t)) (f0_2 (show 816 ≤ 870 by decide) rfl) zs_add) ?_
  refine Eq.trans (mG_st (i := .iaload) (len := 1) (z := (872, [.retAddr 150, .ref 0, .ref 185, .ref 198, .int (zI i), u5, u6], [.int (zI (zScr ar (i + 2))), .int (zI (zScr ar (i + 1))), .ref 0], zW K A O t)) (f0_2 (show 816 ≤ 871 by decide) rfl) (zM_scr (by omega) hL)) ?_
  refine Eq.trans (mG_st (i := (.aload 3)) (len := 1) (z := (873, [.retAddr 150, .ref 0, .ref 185, .ref 198, .int (zI i), u5, u6], [.ref 198, .int (zI (zScr ar (i + 2))), .int (zI (zScr ar (i + 1))), .ref 0], zW K A O t)) (f0_2 (show 816 ≤ 872 by decide) rfl) rfl) ?_
  refine Eq.trans (mG_ok (i := (.invokestatic 122)) (len := 3) (M' := 122) (k := 4) (v := some (.int (zI k))) (w1 := zW K A1 O1 t1) (f0_2 (show 816 ≤ 873 by decide) rfl) rfl rfl h1) ?_
  show mGd ar (D + 2) 0 876 [.retAddr 150, .ref 0, .ref 185, .ref 198, .int (zI i), u5, u6] [.int (zI k)] (zW K A1 O1 t1) = _
  refine Eq.trans (mG_st (i := (.istore 5)) (len := 2) (z := (878, [.retAddr 150, .ref 0, .ref 185, .ref 198, .int (zI i), .int (zI k), u6], [], zW K A1 O1 t1)) (f0_2 (show 816 ≤ 876 by decide) rfl) rfl) ?_
  refine Eq.trans (mG_st (i := (.aload 2)) (len := 1) (z := (879, [.retAddr 150, .ref 0, .ref 185, .ref 198, .int (zI i), .int (zI k), u6], [.ref 185], zW K A1 O1 t1)) (f0_2 (show 816 ≤ 878 by decide) rfl) rfl) ?_
  refine Eq.trans (mG_st (i := (.aload 0)) (len := 1) (z := (880, [.retAddr 150, .ref 0, .ref 185, .ref 198, .int (zI i), .int (zI k), u6], [.retAddr 150, .ref 185], zW K A1 O1 t1)) (f0_2 (show 816 ≤ 879 by decide) rfl) rfl) ?_
  refine Eq.trans (mG_st (i := (.iload 4)) (len := 2) (z := (882, [.retAddr 150, .ref 0, .ref 185, .ref 198, .int (zI i), .int (zI k), u6], [.int (zI i), .retAddr 150, .ref 185], zW K A1 O1 t1)) (f0_2 (show 816 ≤ 880 by decide) rfl) rfl) ?_
  refine Eq.trans (mG_st (i := (.iconst 1)) (len := 1) (z := (883, [.retAddr 150, .ref 0, .ref 185, .ref 198, .int (zI i), .int (zI k), u6], [.int (zI 1), .int (zI i), .retAddr 150, .ref 185], zW K A1 O1 t1)) (f0_2 (show 816 ≤ 882 by decide) rfl) rfl) ?_
  refine Eq.trans (mG_st (i := .iadd) (len := 1) (z := (884, [.retAddr 150, .ref 0, .ref 185, .ref 198, .int (zI i), .int (zI k), u6], [.int (zI (i + 1)), .retAddr 150, .ref 185], zW K A1 O1 t1)) (f0_2 (show 816 ≤ 883 by decide) rfl) zs_add) ?_
  refine Eq.trans (mG_st (i := .iaload) (len := 1) (z := (885, [.retAddr 150, .ref 0, .ref 185, .ref 198, .int (zI i), .int (zI k), u6], [.int (zI (zScr ar (i + 1))), .ref 185], zW K A1 O1 t1)) (f0_2 (show 816 ≤ 884 by decide) rfl) (zM_scr (by omega) hL)) ?_
  refine Eq.trans (mG_st (i := (.aload 0)) (len := 1) (z := (886, [.retAddr 150, .ref 0, .ref 185, .ref 198, .int (zI i), .int (zI k), u6], [.retAddr 150, .int (zI (zScr ar (i + 1))), .ref 185], zW K A1 O1 t1)) (f0_2 (show 816 ≤ 885 by decide) rfl) rfl) ?_
  refine Eq.trans (mG_st (i := (.iload 4)) (len := 2) (z := (888, [.retAddr 150, .ref 0, .ref 185, .ref 198, .int (zI i), .int (zI k), u6], [.int (zI i), .retAddr 150, .int (zI (zScr ar (i + 1))), .ref 185], zW K A1 O1 t1)) (f0_2 (show 816 ≤ 886 by decide) rfl) rfl) ?_
  refine Eq.trans (mG_st (i := (.iconst 2)) (len := 1) (z := (889, [.retAddr 150, .ref 0, .ref 185, .ref 198, .int (zI i), .int (zI k), u6], [.int (zI 2), .int (zI i), .retAddr 150, .int (zI (zScr ar (i + 1))), .ref 185], zW K A1 O1 t1)) (f0_2 (show 816 ≤ 888 by decide) rfl) rfl) ?_
  refine Eq.trans (mG_st (i := .iadd) (len := 1) (z := (890, [.retAddr 150, .ref 0, .ref 185, .ref 198, .int (zI i), .int (zI k), u6], [.int (zI (i + 2)), .retAddr 150, .int (zI (zScr ar (i + 1))), .ref 185], zW K A1 O1 t1)) (f0_2 (show 816 ≤ 889 by decide) rfl) zs_add) ?_
  refine Eq.trans (mG_st (i := .iaload) (len := 1) (z := (891, [.retAddr 150, .ref 0, .ref 185, .ref 198, .int (zI i), .int (zI k), u6], [.int (zI (zScr ar (i + 2))), .int (zI (zScr ar (i + 1))), .ref 185], zW K A1 O1 t1)) (f0_2 (show 816 ≤ 890 by decide) rfl) (zM_scr (by omega) hL)) ?_
  refine Eq.trans (mG_ok (i := (.invokeinterface 15 2)) (len := 3) (M' := 279) (k := 3) (v := some (.int (zI b))) (w1 := zW K A2 O1 t1) (f0_2 (show 816 ≤ 891 by decide) rfl) (mC_if sh_185 rfl rfl rfl) rfl h4) ?_
  show mGd ar (D + 2) 0 894 [.retAddr 150, .ref 0, .ref 185, .ref 198, .int (zI i), .int (zI k), u6] [.int (zI b)] (zW K A2 O1 t1) = _
  refine Eq.trans (mG_st (i := (.istore 6)) (len := 2) (z := (896, [.retAddr 150, .ref 0, .ref 185, .ref 198, .int (zI i), .int (zI k), .int (zI b)], [], zW K A2 O1 t1)) (f0_2 (show 816 ≤ 894 by decide) rfl) rfl) ?_
  refine Eq.trans (mG_st (i := (.aload 2)) (len := 1) (z := (897, [.retAddr 150, .ref 0, .ref 185, .ref 198, .int (zI i), .int (zI k), .int (zI b)], [.ref 185], zW K A2 O1 t1)) (f0_2 (show 816 ≤ 896 by decide) rfl) rfl) ?_
  refine Eq.trans (mG_ok (i := (.invokeinterface 5 0)) (len := 3) (M' := 215) (k := 1) (v := some (.int (zI (A2 185 0)))) (w1 := zW K A2 O1 t1) (f0_2 (show 816 ≤ 897 by decide) rfl) (mC_if sh_185 rfl rfl rfl) rfl i215_0) ?_
  rw [h5]
  show mGd ar (D + 2) 0 900 [.retAddr 150, .ref 0, .ref 185, .ref 198, .int (zI i), .int (zI k), .int (zI b)] [.int (zI k)] (zW K A2 O1 t1) = _
  refine Eq.trans (mG_st (i := (.iload 5)) (len := 2) (z := (902, [.retAddr 150, .ref 0, .ref 185, .ref 198, .int (zI i), .int (zI k), .int (zI b)], [.int (zI k), .int (zI k)], zW K A2 O1 t1)) (f0_2 (show 816 ≤ 900 by decide) rfl) rfl) ?_
  refine Eq.trans (mG_st (i := (.if_icmp .eq 5)) (len := 3) (z := (if k = k then 907 else 905, [.retAddr 150, .ref 0, .ref 185, .ref 198, .int (zI i), .int (zI k), .int (zI b)], [], zW K A2 O1 t1)) (f0_2 (show 816 ≤ 902 by decide) rfl) (zs_ic_eq (by omega) (by omega))) ?_
  rw [if_pos rfl]
  show mGd ar (D + 2) 0 907 [.retAddr 150, .ref 0, .ref 185, .ref 198, .int (zI i), .int (zI k), .int (zI b)] [] (zW K A2 O1 t1) = _
  refine Eq.trans (mG_st (i := (.iload 5)) (len := 2) (z := (909, [.retAddr 150, .ref 0, .ref 185, .ref 198, .int (zI i), .int (zI k), .int (zI b)], [.int (zI k)], zW K A2 O1 t1)) (f0_2 (show 816 ≤ 907 by decide) rfl) rfl) ?_
  refine Eq.trans (mG_st (i := (.ifCond .ne 15)) (len := 3) (z := (if k = 0 then 912 else 924, [.retAddr 150, .ref 0, .ref 185, .ref 198, .int (zI i), .int (zI k), .int (zI b)], [], zW K A2 O1 t1)) (f0_2 (show 816 ≤ 909 by decide) rfl) (zs_if_ne (by omega))) ?_
  have fin : mGd ar (D + 2) 0 924 [.retAddr 150, .ref 0, .ref 185, .ref 198, .int (zI i), .int (zI k), .int (zI b)] [] (zW K A2 O1 t1) = mGd ar (D + 2) 0 3037 [.retAddr 150, .ref 0, .ref 185, .ref 198, .int (zI i), .int (zI k), .int (zI b)] [] (zW K A2 O1 t1) :=
    mG_st (i := (.goto 2113)) (len := 3) (z := (3037, [.retAddr 150, .ref 0, .ref 185, .ref 198, .int (zI i), .int (zI k), .int (zI b)], [], zW K A2 O1 t1)) (f0_2 (show 816 ≤ 924 by decide) rfl) rfl
  by_cases k0 : k = 0
  · rw [if_pos k0]
    obtain ⟨h8, h9⟩ := h7 k0
    show mGd ar (D + 2) 0 912 [.retAddr 150, .ref 0, .ref 185, .ref 198, .int (zI i), .int (zI k), .int (zI b)] [] (zW K A2 O1 t1) = _
    refine Eq.trans (mG_st (i := (.aload 3)) (len := 1) (z := (913, [.retAddr 150, .ref 0, .ref 185, .ref 198, .int (zI i), .int (zI k), .int (zI b)], [.ref 198], zW K A2 O1 t1)) (f0_2 (show 816 ≤ 912 by decide) rfl) rfl) ?_
    refine Eq.trans (mG_st (i := (.iconst 0)) (len := 1) (z := (914, [.retAddr 150, .ref 0, .ref 185, .ref 198, .int (zI i), .int (zI k), .int (zI b)], [.int (zI 0), .ref 198], zW K A2 O1 t1)) (f0_2 (show 816 ≤ 913 by decide) rfl) rfl) ?_
    refine Eq.trans (mG_st (i := .laload) (len := 1) (z := (915, [.retAddr 150, .ref 0, .ref 185, .ref 198, .int (zI i), .int (zI k), .int (zI b)], [.long (O1 0)], zW K A2 O1 t1)) (f0_2 (show 816 ≤ 914 by decide) rfl) zM_lald) ?_
    refine Eq.trans (mG_st (i := (.iload 6)) (len := 2) (z := (917, [.retAddr 150, .ref 0, .ref 185, .ref 198, .int (zI i), .int (zI k), .int (zI b)], [.int (zI b), .long (O1 0)], zW K A2 O1 t1)) (f0_2 (show 816 ≤ 915 by decide) rfl) rfl) ?_
    refine Eq.trans (mG_st (i := .i2l) (len := 1) (z := (918, [.retAddr 150, .ref 0, .ref 185, .ref 198, .int (zI i), .int (zI k), .int (zI b)], [.long ((zI b).toInt64), .long (O1 0)], zW K A2 O1 t1)) (f0_2 (show 816 ≤ 917 by decide) rfl) rfl) ?_
    show mGd ar (D + 2) 0 918 [.retAddr 150, .ref 0, .ref 185, .ref 198, .int (zI i), .int (zI k), .int (zI b)] [.long ((zI b).toInt64), .long (O1 0)] (zW K A2 O1 t1) = _
    refine Eq.trans (mG_st (i := .lcmp) (len := 1) (z := (919, [.retAddr 150, .ref 0, .ref 185, .ref 198, .int (zI i), .int (zI k), .int (zI b)], [.int (lg_cmp (O1 0) ((zI b).toInt64))], zW K A2 O1 t1)) (f0_2 (show 816 ≤ 918 by decide) rfl) rfl) ?_
    rw [show O1 0 = (zI b).toInt64 from h8, lg_same]
    exact Eq.trans (mG_st (i := (.ifCond .eq 5)) (len := 3) (z := (924, [.retAddr 150, .ref 0, .ref 185, .ref 198, .int (zI i), .int (zI k), .int (zI b)], [], zW K A2 O1 t1)) (f0_2 (show 816 ≤ 919 by decide) rfl) rfl) fin
  · rw [if_neg k0]; exact fin
set_option maxRecDepth 20000 in
theorem cs_stubborn {i : Int} {u5 u6 : Value} (hL : (ar 150).1 ≤ 3072) (hi : 0 ≤ i ∧ i + 6 ≤ ((ar 150).1 : Int)) (hq : zWr ar K O t (D + 1) 124 [.ref 0, .int (zI (zScr ar (i + 1))), .int (zI (if zScr ar (i + 2) = 0 then 0 else 1)), .ref 198, .double 0] 281 [.ref 185, .int (zI (zScr ar (i + 1))), .int (zI (if zScr ar (i + 2) = 0 then 0 else 1)), .double 0] (zTlg) A) : zNext ar K D i u5 u6 A O t 927 := by
  obtain ⟨k, A1, O1, t1, h1, h2, h3, b, A2, h4, h5, h6, h7⟩ := hq
  refine ⟨A2, O1, t1, .int (zI k), .int (zI b), h2, h6, ?_⟩
  refine Eq.trans (mG_st (i := (.aload 1)) (len := 1) (z := (928, [.retAddr 150, .ref 0, .ref 185, .ref 198, .int (zI i), u5, u6], [.ref 0], zW K A O t)) (f0_2 (show 816 ≤ 927 by decide) rfl) rfl) ?_
  refine Eq.trans (mG_st (i := (.aload 0)) (len := 1) (z := (929, [.retAddr 150, .ref 0, .ref 185, .ref 198, .int (zI i), u5, u6], [.retAddr 150, .ref 0], zW K A O t)) (f0_2 (show 816 ≤ 928 by decide) rfl) rfl) ?_
  refine Eq.trans (mG_st (i := (.iload 4)) (len := 2) (z := (931, [.retAddr 150, .ref 0, .ref 185, .ref 198, .int (zI i), u5, u6], [.int (zI i), .retAddr 150, .ref 0], zW K A O t)) (f0_2 (show 816 ≤ 929 by decide) rfl) rfl) ?_
  refine Eq.trans (mG_st (i := (.iconst 1)) (len := 1) (z := (932, [.retAddr 150, .ref 0, .ref 185, .ref 198, .int (zI i), u5, u6], [.int (zI 1), .int (zI i), .retAddr 150, .ref 0], zW K A O t)) (f0_2 (show 816 ≤ 931 by decide) rfl) rfl) ?_
  refine Eq.trans (mG_st (i := .iadd) (len := 1) (z := (933, [.retAddr 150, .ref 0, .ref 185, .ref 198, .int (zI i), u5, u6], [.int (zI (i + 1)), .retAddr 150, .ref 0], zW K A O t)) (f0_2 (show 816 ≤ 932 by decide) rfl) zs_add) ?_
  refine Eq.trans (mG_st (i := .iaload) (len := 1) (z := (934, [.retAddr 150, .ref 0, .ref 185, .ref 198, .int (zI i), u5, u6], [.int (zI (zScr ar (i + 1))), .ref 0], zW K A O t)) (f0_2 (show 816 ≤ 933 by decide) rfl) (zM_scr (by omega) hL)) ?_
  refine Eq.trans (mG_st (i := (.aload 0)) (len := 1) (z := (935, [.retAddr 150, .ref 0, .ref 185, .ref 198, .int (zI i), u5, u6], [.retAddr 150, .int (zI (zScr ar (i + 1))), .ref 0], zW K A O t)) (f0_2 (show 816 ≤ 934 by decide) rfl) rfl) ?_
  refine Eq.trans (mG_st (i := (.iload 4)) (len := 2) (z := (937, [.retAddr 150, .ref 0, .ref 185, .ref 198, .int (zI i), u5, u6], [.int (zI i), .retAddr 150, .int (zI (zScr ar (i + 1))), .ref 0], zW K A O t)) (f0_2 (show 816 ≤ 935 by decide) rfl) rfl) ?_
  refine Eq.trans (mG_st (i := (.iconst 2)) (len := 1) (z := (938, [.retAddr 150, .ref 0, .ref 185, .ref 198, .int (zI i), u5, u6], [.int (zI 2), .int (zI i), .retAddr 150, .int (zI (zScr ar (i + 1))), .ref 0], zW K A O t)) (f0_2 (show 816 ≤ 937 by decide) rfl) rfl) ?_
  refine Eq.trans (mG_st (i := .iadd) (len := 1) (z := (939, [.retAddr 150, .ref 0, .ref 185, .ref 198, .int (zI i), u5, u6], [.int (zI (i + 2)), .retAddr 150, .int (zI (zScr ar (i + 1))), .ref 0], zW K A O t)) (f0_2 (show 816 ≤ 938 by decide) rfl) zs_add) ?_
  refine Eq.trans (mG_st (i := .iaload) (len := 1) (z := (940, [.retAddr 150, .ref 0, .ref 185, .ref 198, .int (zI i), u5, u6], [.int (zI (zScr ar (i + 2))), .int (zI (zScr ar (i + 1))), .ref 0], zW K A O t)) (f0_2 (show 816 ≤ 939 by decide) rfl) (zM_scr (by omega) hL)) ?_
  refine Eq.trans (mG_bool (f0_2 (show 816 ≤ 940 by decide) rfl) (f0_2 (show 816 ≤ 943 by decide) rfl) (f0_2 (show 816 ≤ 944 by decide) rfl) (f0_2 (show 816 ≤ 947 by decide) rfl) zScr_r) ?_
  show mGd ar (D + 2) 0 948 [.retAddr 150, .ref 0, .ref 185, .ref 198, .int (zI i), u5, u6] [.int (zI (if zScr ar (i + 2) = 0 then 0 else 1)), .int (zI (zScr ar (i + 1))), .ref 0] (zW K A O t) = _
  refine Eq.trans (mG_st (i := (.aload 3)) (len := 1) (z := (949, [.retAddr 150, .ref 0, .ref 185, .ref 198, .int (zI i), u5, u6], [.ref 198, .int (zI (if zScr ar (i + 2) = 0 then 0 else 1)), .int (zI (zScr ar (i + 1))), .ref 0], zW K A O t)) (f0_2 (show 816 ≤ 948 by decide) rfl) rfl) ?_
  refine Eq.trans (mG_ok (i := (.invokestatic 124)) (len := 3) (M' := 124) (k := 4) (v := some (.int (zI k))) (w1 := zW K A1 O1 t1) (f0_2 (show 816 ≤ 949 by decide) rfl) rfl rfl h1) ?_
  show mGd ar (D + 2) 0 952 [.retAddr 150, .ref 0, .ref 185, .ref 198, .int (zI i), u5, u6] [.int (zI k)] (zW K A1 O1 t1) = _
  refine Eq.trans (mG_st (i := (.istore 5)) (len := 2) (z := (954, [.retAddr 150, .ref 0, .ref 185, .ref 198, .int (zI i), .int (zI k), u6], [], zW K A1 O1 t1)) (f0_2 (show 816 ≤ 952 by decide) rfl) rfl) ?_
  refine Eq.trans (mG_st (i := (.aload 2)) (len := 1) (z := (955, [.retAddr 150, .ref 0, .ref 185, .ref 198, .int (zI i), .int (zI k), u6], [.ref 185], zW K A1 O1 t1)) (f0_2 (show 816 ≤ 954 by decide) rfl) rfl) ?_
  refine Eq.trans (mG_st (i := (.aload 0)) (len := 1) (z := (956, [.retAddr 150, .ref 0, .ref 185, .ref 198, .int (zI i), .int (zI k), u6], [.retAddr 150, .ref 185], zW K A1 O1 t1)) (f0_2 (show 816 ≤ 955 by decide) rfl) rfl) ?_
  refine Eq.trans (mG_st (i := (.iload 4)) (len := 2) (z := (958, [.retAddr 150, .ref 0, .ref 185, .ref 198, .int (zI i), .int (zI k), u6], [.int (zI i), .retAddr 150, .ref 185], zW K A1 O1 t1)) (f0_2 (show 816 ≤ 956 by decide) rfl) rfl) ?_
  refine Eq.trans (mG_st (i := (.iconst 1)) (len := 1) (z := (959, [.retAddr 150, .ref 0, .ref 185, .ref 198, .int (zI i), .int (zI k), u6], [.int (zI 1), .int (zI i), .retAddr 150, .ref 185], zW K A1 O1 t1)) (f0_2 (show 816 ≤ 958 by decide) rfl) rfl) ?_
  refine Eq.trans (mG_st (i := .iadd) (len := 1) (z := (960, [.retAddr 150, .ref 0, .ref 185, .ref 198, .int (zI i), .int (zI k), u6], [.int (zI (i + 1)), .retAddr 150, .ref 185], zW K A1 O1 t1)) (f0_2 (show 816 ≤ 959 by decide) rfl) zs_add) ?_
  refine Eq.trans (mG_st (i := .iaload) (len := 1) (z := (961, [.retAddr 150, .ref 0, .ref 185, .ref 198, .int (zI i), .int (zI k), u6], [.int (zI (zScr ar (i + 1))), .ref 185], zW K A1 O1 t1)) (f0_2 (show 816 ≤ 960 by decide) rfl) (zM_scr (by omega) hL)) ?_
  refine Eq.trans (mG_st (i := (.aload 0)) (len := 1) (z := (962, [.retAddr 150, .ref 0, .ref 185, .ref 198, .int (zI i), .int (zI k), u6], [.retAddr 150, .int (zI (zScr ar (i + 1))), .ref 185], zW K A1 O1 t1)) (f0_2 (show 816 ≤ 961 by decide) rfl) rfl) ?_
  refine Eq.trans (mG_st (i := (.iload 4)) (len := 2) (z := (964, [.retAddr 150, .ref 0, .ref 185, .ref 198, .int (zI i), .int (zI k), u6], [.int (zI i), .retAddr 150, .int (zI (zScr ar (i + 1))), .ref 185], zW K A1 O1 t1)) (f0_2 (show 816 ≤ 962 by decide) rfl) rfl) ?_
  refine Eq.trans (mG_st (i := (.iconst 2)) (len := 1) (z := (965, [.retAddr 150, .ref 0, .ref 185, .ref 198, .int (zI i), .int (zI k), u6], [.int (zI 2), .int (zI i), .retAddr 150, .int (zI (zScr ar (i + 1))), .ref 185], zW K A1 O1 t1)) (f0_2 (show 816 ≤ 964 by decide) rfl) rfl) ?_
  refine Eq.trans (mG_st (i := .iadd) (len := 1) (z := (966, [.retAddr 150, .ref 0, .ref 185, .ref 198, .int (zI i), .int (zI k), u6], [.int (zI (i + 2)), .retAddr 150, .int (zI (zScr ar (i + 1))), .ref 185], zW K A1 O1 t1)) (f0_2 (show 816 ≤ 965 by decide) rfl) zs_add) ?_
  refine Eq.trans (mG_st (i := .iaload) (len := 1) (z := (967, [.retAddr 150, .ref 0, .ref 185, .ref 198, .int (zI i), .int (zI k), u6], [.int (zI (zScr ar (i + 2))), .int (zI (zScr ar (i + 1))), .ref 185], zW K A1 O1 t1)) (f0_2 (show 816 ≤ 966 by decide) rfl) (zM_scr (by omega) hL)) ?_
  refine Eq.trans (mG_bool (f0_2 (show 816 ≤ 967 by decide) rfl) (f0_2 (show 816 ≤ 970 by decide) rfl) (f0_2 (show 816 ≤ 971 by decide) rfl) (f0_2 (show 816 ≤ 974 by decide) rfl) zScr_r) ?_
  show mGd ar (D + 2) 0 975 [.retAddr 150, .ref 0, .ref 185, .ref 198, .int (zI i), .int (zI k), u6] [.int (zI (if zScr ar (i + 2) = 0 then 0 else 1)), .int (zI (zScr ar (i + 1))), .ref 185] (zW K A1 O1 t1) = _
  refine Eq.trans (mG_ok (i := (.invokeinterface 16 2)) (len := 3) (M' := 281) (k := 3) (v := some (.int (zI b))) (w1 := zW K A2 O1 t1) (f0_2 (show 816 ≤ 975 by decide) rfl) (mC_if sh_185 rfl rfl rfl) rfl h4) ?_
  show mGd ar (D + 2) 0 978 [.retAddr 150, .ref 0, .ref 185, .ref 198, .int (zI i), .int (zI k), u6] [.int (zI b)] (zW K A2 O1 t1) = _
  refine Eq.trans (mG_st (i := (.istore 6)) (len := 2) (z := (980, [.retAddr 150, .ref 0, .ref 185, .ref 198, .int (zI i), .int (zI k), .int (zI b)], [], zW K A2 O1 t1)) (f0_2 (show 816 ≤ 978 by decide) rfl) rfl) ?_
  refine Eq.trans (mG_st (i := (.aload 2)) (len := 1) (z := (981, [.retAddr 150, .ref 0, .ref 185, .ref 198, .int (zI i), .int (zI k), .int (zI b)], [.ref 185], zW K A2 O1 t1)) (f0_2 (show 816 ≤ 980 by decide) rfl) rfl) ?_
  refine Eq.trans (mG_ok (i := (.invokeinterface 5 0)) (len := 3) (M' := 215) (k := 1) (v := some (.int (zI (A2 185 0)))) (w1 := zW K A2 O1 t1) (f0_2 (show 816 ≤ 981 by decide) rfl) (mC_if sh_185 rfl rfl rfl) rfl i215_0) ?_
  rw [h5]
  show mGd ar (D + 2) 0 984 [.retAddr 150, .ref 0, .ref 185, .ref 198, .int (zI i), .int (zI k), .int (zI b)] [.int (zI k)] (zW K A2 O1 t1) = _
  refine Eq.trans (mG_st (i := (.iload 5)) (len := 2) (z := (986, [.retAddr 150, .ref 0, .ref 185, .ref 198, .int (zI i), .int (zI k), .int (zI b)], [.int (zI k), .int (zI k)], zW K A2 O1 t1)) (f0_2 (show 816 ≤ 984 by decide) rfl) rfl) ?_
  refine Eq.trans (mG_st (i := (.if_icmp .eq 5)) (len := 3) (z := (if k = k then 991 else 989, [.retAddr 150, .ref 0, .ref 185, .ref 198, .int (zI i), .int (zI k), .int (zI b)], [], zW K A2 O1 t1)) (f0_2 (show 816 ≤ 986 by decide) rfl) (zs_ic_eq (by omega) (by omega))) ?_
  rw [if_pos rfl]
  show mGd ar (D + 2) 0 991 [.retAddr 150, .ref 0, .ref 185, .ref 198, .int (zI i), .int (zI k), .int (zI b)] [] (zW K A2 O1 t1) = _
  refine Eq.trans (mG_st (i := (.iload 5)) (len := 2) (z := (993, [.retAddr 150, .ref 0, .ref 185, .ref 198, .int (zI i), .int (zI k), .int (zI b)], [.int (zI k)], zW K A2 O1 t1)) (f0_2 (show 816 ≤ 991 by decide) rfl) rfl) ?_
  refine Eq.trans (mG_st (i := (.ifCond .ne 22)) (len := 3) (z := (if k = 0 then 996 else 1015, [.retAddr 150, .ref 0, .ref 185, .ref 198, .int (zI i), .int (zI k), .int (zI b)], [], zW K A2 O1 t1)) (f0_2 (show 816 ≤ 993 by decide) rfl) (zs_if_ne (by omega))) ?_
  have fin : mGd ar (D + 2) 0 1015 [.retAddr 150, .ref 0, .ref 185, .ref 198, .int (zI i), .int (zI k), .int (zI b)] [] (zW K A2 O1 t1) = mGd ar (D + 2) 0 3037 [.retAddr 150, .ref 0, .ref 185, .ref 198, .int (zI i), .int (zI k), .int (zI b)] [] (zW K A2 O1 t1) :=
    mG_st (i := (.goto 2022)) (len := 3) (z := (3037, [.retAddr 150, .ref 0, .ref 185, .ref 198, .int (zI i), .int (zI k), .int (zI b)], [], zW K A2 O1 t1)) (f0_2 (show 816 ≤ 1015 by decide) rfl) rfl
  by_cases k0 : k = 0
  · rw [if_pos k0]
    obtain ⟨h8, h9⟩ := h7 k0
    show mGd ar (D + 2) 0 996 [.retAddr 150, .ref 0, .ref 185, .ref 198, .int (zI i), .int (zI k), .int (zI b)] [] (zW K A2 O1 t1) = _
    refine Eq.trans (mG_st (i := (.aload 3)) (len := 1) (z := (997, [.retAddr 150, .ref 0, .ref 185, .ref 198, .int (zI i), .int (zI k), .int (zI b)], [.ref 198], zW K A2 O1 t1)) (f0_2 (show 816 ≤ 996 by decide) rfl) rfl) ?_
    refine Eq.trans (mG_st (i := (.iconst 0)) (len := 1) (z := (998, [.retAddr 150, .ref 0, .ref 185, .ref 198, .int (zI i), .int (zI k), .int (zI b)], [.int (zI 0), .ref 198], zW K A2 O1 t1)) (f0_2 (show 816 ≤ 997 by decide) rfl) rfl) ?_
    refine Eq.trans (mG_st (i := .laload) (len := 1) (z := (999, [.retAddr 150, .ref 0, .ref 185, .ref 198, .int (zI i), .int (zI k), .int (zI b)], [.long (O1 0)], zW K A2 O1 t1)) (f0_2 (show 816 ≤ 998 by decide) rfl) zM_lald) ?_
    refine Eq.trans (mG_st (i := (.iload 6)) (len := 2) (z := (1001, [.retAddr 150, .ref 0, .ref 185, .ref 198, .int (zI i), .int (zI k), .int (zI b)], [.int (zI b), .long (O1 0)], zW K A2 O1 t1)) (f0_2 (show 816 ≤ 999 by decide) rfl) rfl) ?_
    refine Eq.trans (mG_lb (f0_2 (show 816 ≤ 1001 by decide) rfl) (f0_2 (show 816 ≤ 1004 by decide) rfl) (f0_2 (show 816 ≤ 1005 by decide) rfl) (f0_2 (show 816 ≤ 1008 by decide) rfl) h9) ?_
    show mGd ar (D + 2) 0 1009 [.retAddr 150, .ref 0, .ref 185, .ref 198, .int (zI i), .int (zI k), .int (zI b)] [.long (zTlg b), .long (O1 0)] (zW K A2 O1 t1) = _
    refine Eq.trans (mG_st (i := .lcmp) (len := 1) (z := (1010, [.retAddr 150, .ref 0, .ref 185, .ref 198, .int (zI i), .int (zI k), .int (zI b)], [.int (lg_cmp (O1 0) (zTlg b))], zW K A2 O1 t1)) (f0_2 (show 816 ≤ 1009 by decide) rfl) rfl) ?_
    rw [show O1 0 = zTlg b from h8, lg_same]
    exact Eq.trans (mG_st (i := (.ifCond .eq 5)) (len := 3) (z := (1015, [.retAddr 150, .ref 0, .ref 185, .ref 198, .int (zI i), .int (zI k), .int (zI b)], [], zW K A2 O1 t1)) (f0_2 (show 816 ≤ 1010 by decide) rfl) rfl) fin
  · rw [if_neg k0]; exact fin
set_option maxRecDepth 20000 in
theorem cs_leave {i : Int} {u5 u6 : Value} (hL : (ar 150).1 ≤ 3072) (hi : 0 ≤ i ∧ i + 6 ≤ ((ar 150).1 : Int)) (hq : zWr ar K O t (D + 1) 126 [.ref 0, .int (zI (zScr ar (i + 1))), .ref 198, .double 0] 282 [.ref 185, .int (zI (zScr ar (i + 1))), .double 0] (fun b => (zI b).toInt64) A) : zNext ar K D i u5 u6 A O t 1018 := by
  obtain ⟨k, A1, O1, t1, h1, h2, h3, b, A2, h4, h5, h6, h7⟩ := hq
  refine ⟨A2, O1, t1, .int (zI k), .int (zI b), h2, h6, ?_⟩
  refine Eq.trans (mG_st (i := (.aload 1)) (len := 1) (z := (1019, [.retAddr 150, .ref 0, .ref 185, .ref 198, .int (zI i), u5, u6], [.ref 0], zW K A O t)) (f0_2 (show 816 ≤ 1018 by decide) rfl) rfl) ?_
  refine Eq.trans (mG_st (i := (.aload 0)) (len := 1) (z := (1020, [.retAddr 150, .ref 0, .ref 185, .ref 198, .int (zI i), u5, u6], [.retAddr 150, .ref 0], zW K A O t)) (f0_2 (show 816 ≤ 1019 by decide) rfl) rfl) ?_
  refine Eq.trans (mG_st (i := (.iload 4)) (len := 2) (z := (1022, [.retAddr 150, .ref 0, .ref 185, .ref 198, .int (zI i), u5, u6], [.int (zI i), .retAddr 150, .ref 0], zW K A O t)) (f0_2 (show 816 ≤ 1020 by decide) rfl) rfl) ?_
  refine Eq.trans (mG_st (i := (.iconst 1)) (len := 1) (z := (1023, [.retAddr 150, .ref 0, .ref 185, .ref 198, .int (zI i), u5, u6], [.int (zI 1), .int (zI i), .retAddr 150, .ref 0], zW K A O t)) (f0_2 (show 816 ≤ 1022 by decide) rfl) rfl) ?_
  refine Eq.trans (mG_st (i := .iadd) (len := 1) (z := (1024, [.retAddr 150, .ref 0, .ref 185, .ref 198, .int (zI i), u5, u6], [.int (zI (i + 1)), .retAddr 150, .ref 0], zW K A O t)) (f0_2 (show 816 ≤ 1023 by decide) rfl) zs_add) ?_
  refine Eq.trans (mG_st (i := .iaload) (len := 1) (z := (1025, [.retAddr 150, .ref 0, .ref 185, .ref 198, .int (zI i), u5, u6], [.int (zI (zScr ar (i + 1))), .ref 0], zW K A O t)) (f0_2 (show 816 ≤ 1024 by decide) rfl) (zM_scr (by omega) hL)) ?_
  refine Eq.trans (mG_st (i := (.aload 3)) (len := 1) (z := (1026, [.retAddr 150, .ref 0, .ref 185, .ref 198, .int (zI i), u5, u6], [.ref 198, .int (zI (zScr ar (i + 1))), .ref 0], zW K A O t)) (f0_2 (show 816 ≤ 1025 by decide) rfl) rfl) ?_
  refine Eq.trans (mG_ok (i := (.invokestatic 126)) (len := 3) (M' := 126) (k := 3) (v := some (.int (zI k))) (w1 := zW K A1 O1 t1) (f0_2 (show 816 ≤ 1026 by decide) rfl) rfl rfl h1) ?_
  show mGd ar (D + 2) 0 1029 [.retAddr 150, .ref 0, .ref 185, .ref 198, .int (zI i), u5, u6] [.int (zI k)] (zW K A1 O1 t1) = _
  refine Eq.trans (mG_st (i := (.istore 5)) (len := 2) (z := (1031, [.retAddr 150, .ref 0, .ref 185, .ref 198, .int (zI i), .int (zI k), u6], [], zW K A1 O1 t1)) (f0_2 (show 816 ≤ 1029 by decide) rfl) rfl) ?_
  refine Eq.trans (mG_st (i := (.aload 2)) (len := 1) (z := (1032, [.retAddr 150, .ref 0, .ref 185, .ref 198, .int (zI i), .int (zI k), u6], [.ref 185], zW K A1 O1 t1)) (f0_2 (show 816 ≤ 1031 by decide) rfl) rfl) ?_
  refine Eq.trans (mG_st (i := (.aload 0)) (len := 1) (z := (1033, [.retAddr 150, .ref 0, .ref 185, .ref 198, .int (zI i), .int (zI k), u6], [.retAddr 150, .ref 185], zW K A1 O1 t1)) (f0_2 (show 816 ≤ 1032 by decide) rfl) rfl) ?_
  refine Eq.trans (mG_st (i := (.iload 4)) (len := 2) (z := (1035, [.retAddr 150, .ref 0, .ref 185, .ref 198, .int (zI i), .int (zI k), u6], [.int (zI i), .retAddr 150, .ref 185], zW K A1 O1 t1)) (f0_2 (show 816 ≤ 1033 by decide) rfl) rfl) ?_
  refine Eq.trans (mG_st (i := (.iconst 1)) (len := 1) (z := (1036, [.retAddr 150, .ref 0, .ref 185, .ref 198, .int (zI i), .int (zI k), u6], [.int (zI 1), .int (zI i), .retAddr 150, .ref 185], zW K A1 O1 t1)) (f0_2 (show 816 ≤ 1035 by decide) rfl) rfl) ?_
  refine Eq.trans (mG_st (i := .iadd) (len := 1) (z := (1037, [.retAddr 150, .ref 0, .ref 185, .ref 198, .int (zI i), .int (zI k), u6], [.int (zI (i + 1)), .retAddr 150, .ref 185], zW K A1 O1 t1)) (f0_2 (show 816 ≤ 1036 by decide) rfl) zs_add) ?_
  refine Eq.trans (mG_st (i := .iaload) (len := 1) (z := (1038, [.retAddr 150, .ref 0, .ref 185, .ref 198, .int (zI i), .int (zI k), u6], [.int (zI (zScr ar (i + 1))), .ref 185], zW K A1 O1 t1)) (f0_2 (show 816 ≤ 1037 by decide) rfl) (zM_scr (by omega) hL)) ?_
  refine Eq.trans (mG_ok (i := (.invokeinterface 17 1)) (len := 3) (M' := 282) (k := 2) (v := some (.int (zI b))) (w1 := zW K A2 O1 t1) (f0_2 (show 816 ≤ 1038 by decide) rfl) (mC_if sh_185 rfl rfl rfl) rfl h4) ?_
  show mGd ar (D + 2) 0 1041 [.retAddr 150, .ref 0, .ref 185, .ref 198, .int (zI i), .int (zI k), u6] [.int (zI b)] (zW K A2 O1 t1) = _
  refine Eq.trans (mG_st (i := (.istore 6)) (len := 2) (z := (1043, [.retAddr 150, .ref 0, .ref 185, .ref 198, .int (zI i), .int (zI k), .int (zI b)], [], zW K A2 O1 t1)) (f0_2 (show 816 ≤ 1041 by decide) rfl) rfl) ?_
  refine Eq.trans (mG_st (i := (.aload 2)) (len := 1) (z := (1044, [.retAddr 150, .ref 0, .ref 185, .ref 198, .int (zI i), .int (zI k), .int (zI b)], [.ref 185], zW K A2 O1 t1)) (f0_2 (show 816 ≤ 1043 by decide) rfl) rfl) ?_
  refine Eq.trans (mG_ok (i := (.invokeinterface 5 0)) (len := 3) (M' := 215) (k := 1) (v := some (.int (zI (A2 185 0)))) (w1 := zW K A2 O1 t1) (f0_2 (show 816 ≤ 1044 by decide) rfl) (mC_if sh_185 rfl rfl rfl) rfl i215_0) ?_
  rw [h5]
  show mGd ar (D + 2) 0 1047 [.retAddr 150, .ref 0, .ref 185, .ref 198, .int (zI i), .int (zI k), .int (zI b)] [.int (zI k)] (zW K A2 O1 t1) = _
  refine Eq.trans (mG_st (i := (.iload 5)) (len := 2) (z := (1049, [.retAddr 150, .ref 0, .ref 185, .ref 198, .int (zI i), .int (zI k), .int (zI b)], [.int (zI k), .int (zI k)], zW K A2 O1 t1)) (f0_2 (show 816 ≤ 1047 by decide) rfl) rfl) ?_
  refine Eq.trans (mG_st (i := (.if_icmp .eq 5)) (len := 3) (z := (if k = k then 1054 else 1052, [.retAddr 150, .ref 0, .ref 185, .ref 198, .int (zI i), .int (zI k), .int (zI b)], [], zW K A2 O1 t1)) (f0_2 (show 816 ≤ 1049 by decide) rfl) (zs_ic_eq (by omega) (by omega))) ?_
  rw [if_pos rfl]
  show mGd ar (D + 2) 0 1054 [.retAddr 150, .ref 0, .ref 185, .ref 198, .int (zI i), .int (zI k), .int (zI b)] [] (zW K A2 O1 t1) = _
  refine Eq.trans (mG_st (i := (.iload 5)) (len := 2) (z := (1056, [.retAddr 150, .ref 0, .ref 185, .ref 198, .int (zI i), .int (zI k), .int (zI b)], [.int (zI k)], zW K A2 O1 t1)) (f0_2 (show 816 ≤ 1054 by decide) rfl) rfl) ?_
  refine Eq.trans (mG_st (i := (.ifCond .ne 15)) (len := 3) (z := (if k = 0 then 1059 else 1071, [.retAddr 150, .ref 0, .ref 185, .ref 198, .int (zI i), .int (zI k), .int (zI b)], [], zW K A2 O1 t1)) (f0_2 (show 816 ≤ 1056 by decide) rfl) (zs_if_ne (by omega))) ?_
  have fin : mGd ar (D + 2) 0 1071 [.retAddr 150, .ref 0, .ref 185, .ref 198, .int (zI i), .int (zI k), .int (zI b)] [] (zW K A2 O1 t1) = mGd ar (D + 2) 0 3037 [.retAddr 150, .ref 0, .ref 185, .ref 198, .int (zI i), .int (zI k), .int (zI b)] [] (zW K A2 O1 t1) :=
    mG_st (i := (.goto 1966)) (len := 3) (z := (3037, [.retAddr 150, .ref 0, .ref 185, .ref 198, .int (zI i), .int (zI k), .int (zI b)], [], zW K A2 O1 t1)) (f0_2 (show 816 ≤ 1071 by decide) rfl) rfl
  by_cases k0 : k = 0
  · rw [if_pos k0]
    obtain ⟨h8, h9⟩ := h7 k0
    show mGd ar (D + 2) 0 1059 [.retAddr 150, .ref 0, .ref 185, .ref 198, .int (zI i), .int (zI k), .int (zI b)] [] (zW K A2 O1 t1) = _
    refine Eq.trans (mG_st (i := (.aload 3)) (len := 1) (z := (1060, [.retAddr 150, .ref 0, .ref 185, .ref 198, .int (zI i), .int (zI k), .int (zI b)], [.ref 198], zW K A2 O1 t1)) (f0_2 (show 816 ≤ 1059 by decide) rfl) rfl) ?_
    refine Eq.trans (mG_st (i := (.iconst 0)) (len := 1) (z := (1061, [.retAddr 150, .ref 0, .ref 185, .ref 198, .int (zI i), .int (zI k), .int (zI b)], [.int (zI 0), .ref 198], zW K A2 O1 t1)) (f0_2 (show 816 ≤ 1060 by decide) rfl) rfl) ?_
    refine Eq.trans (mG_st (i := .laload) (len := 1) (z := (1062, [.retAddr 150, .ref 0, .ref 185, .ref 198, .int (zI i), .int (zI k), .int (zI b)], [.long (O1 0)], zW K A2 O1 t1)) (f0_2 (show 816 ≤ 1061 by decide) rfl) zM_lald) ?_
    refine Eq.trans (mG_st (i := (.iload 6)) (len := 2) (z := (1064, [.retAddr 150, .ref 0, .ref 185, .ref 198, .int (zI i), .int (zI k), .int (zI b)], [.int (zI b), .long (O1 0)], zW K A2 O1 t1)) (f0_2 (show 816 ≤ 1062 by decide) rfl) rfl) ?_
    refine Eq.trans (mG_st (i := .i2l) (len := 1) (z := (1065, [.retAddr 150, .ref 0, .ref 185, .ref 198, .int (zI i), .int (zI k), .int (zI b)], [.long ((zI b).toInt64), .long (O1 0)], zW K A2 O1 t1)) (f0_2 (show 816 ≤ 1064 by decide) rfl) rfl) ?_
    show mGd ar (D + 2) 0 1065 [.retAddr 150, .ref 0, .ref 185, .ref 198, .int (zI i), .int (zI k), .int (zI b)] [.long ((zI b).toInt64), .long (O1 0)] (zW K A2 O1 t1) = _
    refine Eq.trans (mG_st (i := .lcmp) (len := 1) (z := (1066, [.retAddr 150, .ref 0, .ref 185, .ref 198, .int (zI i), .int (zI k), .int (zI b)], [.int (lg_cmp (O1 0) ((zI b).toInt64))], zW K A2 O1 t1)) (f0_2 (show 816 ≤ 1065 by decide) rfl) rfl) ?_
    rw [show O1 0 = (zI b).toInt64 from h8, lg_same]
    exact Eq.trans (mG_st (i := (.ifCond .eq 5)) (len := 3) (z := (1071, [.retAddr 150, .ref 0, .ref 185, .ref 198, .int (zI i), .int (zI k), .int (zI b)], [], zW K A2 O1 t1)) (f0_2 (show 816 ≤ 1066 by decide) rfl) rfl) fin
  · rw [if_neg k0]; exact fin
end CASE7
