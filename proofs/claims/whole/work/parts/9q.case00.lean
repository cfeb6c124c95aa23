/-! THE LAW, 3: the cases of its switch (by program: wip/gen/gen30.py) -/
/-- a case comes to the end of its round -/
def zNext (ar : Nat → Nat × (Nat → Int32)) (K : Nat → Nat → Option Nat) (D : Nat) (i : Int) (u5 u6 : Value) (A : Nat → Int → Int) (O : Nat → Int64) (t pc : Nat) : Prop :=
  ∃ (A' : Nat → Int → Int) (O' : Nat → Int64) (t' : Nat) (v5 v6 : Value), t' ≤ t + 1 ∧ zInv A' ∧ mGd ar (D + 2) 0 pc [.retAddr 150, .ref 0, .ref 185, .ref 198, .int (zI i), u5, u6] [] (zW K A O t) = mGd ar (D + 2) 0 3037 [.retAddr 150, .ref 0, .ref 185, .ref 198, .int (zI i), v5, v6] [] (zW K A' O' t')
section CASE0
variable {ar : Nat → Nat × (Nat → Int32)} {d D t : Nat} {K : Nat → Nat → Option Nat} {A : Nat → Int → Int} {O : Nat → Int64}

set_option maxRecDepth 20000 in
theorem cs_feed {i : Int} {u5 u6 : Value} (hL : (ar 150).1 ≤ 3072) (hi : 0 ≤ i ∧ i + 6 ≤ ((ar 150).1 : Int)) (hq : zQ ar K O t (D + 1) 13 [.ref 0, .int (zI (zScr ar (i + 1))), .int (zI (zScr ar (i + 2))), .int (zI (zScr ar (i + 3))), .int (zI (zScr ar (i + 4))), .int (zI (zScr ar (i + 5)))] 220 [.ref 185, .int (zI (zScr ar (i + 1))), .int (zI (zScr ar (i + 2))), .int (zI (zScr ar (i + 3))), .int (zI (zScr ar (i + 4))), .int (zI (zScr ar (i + 5))), .double 0] (fun _ => 0) A) : zNext ar K D i u5 u6 A O t 252 := by
  obtain ⟨A1, ⟨b, h1, h2, h3⟩ | ⟨E, -, h2, -⟩⟩ := hq
  case inr => exact absurd h2.1 (by simp)
  obtain ⟨A2, h4, -, h6⟩ := h3 O t
  refine ⟨A2, O, t, u5, u6, by omega, h6, ?_⟩
  refine Eq.trans (mG_st (i := (.aload 1)) (len := 1) (z := (253, [.retAddr 150, .ref 0, .ref 185, .ref 198, .int (zI i), u5, u6], [.ref 0], zW K A O t)) (f0_0 rfl) rfl) ?_
  refine Eq.trans (mG_st (i := (.aload 0)) (len := 1) (z := (254, [.retAddr 150, .ref 0, .ref 185, .ref 198, .int (zI i), u5, u6], [.retAddr 150, .ref 0], zW K A O t)) (f0_0 rfl) rfl) ?_
  refine Eq.trans (mG_st (i := (.iload 4)) (len := 2) (z := (256, [.retAddr 150, .ref 0, .ref 185, .ref 198, .int (zI i), u5, u6], [.int (zI i), .retAddr 150, .ref 0], zW K A O t)) (f0_0 rfl) rfl) ?_
  refine Eq.trans (mG_st (i := (.iconst 1)) (len := 1) (z := (257, [.retAddr 150, .ref 0, .ref 185, .ref 198, .int (zI i), u5, u6], [.int (zI 1), .int (zI i), .retAddr 150, .ref 0], zW K A O t)) (f0_0 rfl) rfl) ?_
  refine Eq.trans (mG_st (i := .iadd) (len := 1) (z := (258, [.retAddr 150, .ref 0, .ref 185, .ref 198, .int (zI i), u5, u6], [.int (zI (i + 1)), .retAddr 150, .ref 0], zW K A O t)) (f0_0 rfl) zs_add) ?_
  refine Eq.trans (mG_st (i := .iaload) (len := 1) (z := (259, [.retAddr 150, .ref 0, .ref 185, .ref 198, .int (zI i), u5, u6], [.int (zI (zScr ar (i + 1))), .ref 0], zW K A O t)) (f0_0 rfl) (zM_scr (by omega) hL)) ?_
  refine Eq.trans (mG_st (i := (.aload 0)) (len := 1) (z := (260, [.retAddr 150, .ref 0, .ref 185, .ref 198, .int (zI i), u5, u6], [.retAddr 150, .int (zI (zScr ar (i + 1))), .ref 0], zW K A O t)) (f0_0 rfl) rfl) ?_
  refine Eq.trans (mG_st (i := (.iload 4)) (len := 2) (z := (262, [.retAddr 150, .ref 0, .ref 185, .ref 198, .int (zI i), u5, u6], [.int (zI i), .retAddr 150, .int (zI (zScr ar (i + 1))), .ref 0], zW K A O t)) (f0_0 rfl) rfl) ?_
  refine Eq.trans (mG_st (i := (.iconst 2)) (len := 1) (z := (263, [.retAddr 150, .ref 0, .ref 185, .ref 198, .int (zI i), u5, u6], [.int (zI 2), .int (zI i), .retAddr 150, .int (zI (zScr ar (i + 1))), .ref 0], zW K A O t)) (f0_0 rfl) rfl) ?_
  refine Eq.trans (mG_st (i := .iadd) (len := 1) (z := (264, [.retAddr 150, .ref 0, .ref 185, .ref 198, .int (zI i), u5, u6], [.int (zI (i + 2)), .retAddr 150, .int (zI (zScr ar (i + 1))), .ref 0], zW K A O t)) (f0_0 rfl) zs_add) ?_
  refine Eq.trans (mG_st (i := .iaload) (len := 1) (z := (265, [.retAddr 150, .ref 0, .ref 185, .ref 198, .int (zI i), u5, u6], [.int (zI (zScr ar (i + 2))), .int (zI (zScr ar (i + 1))), .ref 0], zW K A O t)) (f0_0 rfl) (zM_scr (by omega) hL)) ?_
  refine Eq.trans (mG_st (i := (.aload 0)) (len := 1) (z := (266, [.retAddr 150, .ref 0, .ref 185, .ref 198, .int (zI i), u5, u6], [.retAddr 150, .int (zI (zScr ar (i + 2))), .int (zI (zScr ar (i + 1))), .ref 0], zW K A O t)) (f0_0 rfl) rfl) ?_
  refine Eq.trans (mG_st (i := (.iload 4)) (len := 2) (z := (268, [.retAddr 150, .ref 0, .ref 185, .ref 198, .int (zI i), u5, u6], [.int (zI i), .retAddr 150, .int (zI (zScr ar (i + 2))), .int (zI (zScr ar (i + 1))), .ref 0], zW K A O t)) (f0_0 rfl) rfl) ?_
  refine Eq.trans (mG_st (i := (.iconst 3)) (len := 1) (z := (269, [.retAddr 150, .ref 0, .ref 185, .ref 198, .int (zI i), u5, u6], [.int (zI 3), .int (zI i), .retAddr 150, .int (zI (zScr ar (i + 2))), .int (zI (zScr ar (i + 1))), .ref 0], zW K A O t)) (f0_0 rfl) rfl) ?_
  refine Eq.trans (mG_st (i := .iadd) (len := 1) (z := (270, [.retAddr 150, .ref 0, .ref 185, .ref 198, .int (zI i), u5, u6], [.int (zI (i + 3)), .retAddr 150, .int (zI (zScr ar (i + 2))), .int (zI (zScr ar (i + 1))), .ref 0], zW K A O t)) (f0_0 rfl) zs_add) ?_
  refine Eq.trans (mG_st (i := .iaload) (len := 1) (z := (271, [.retAddr 150, .ref 0, .ref 185, .ref 198, .int (zI i), u5, u6], [.int (zI (zScr ar (i + 3))), .int (zI (zScr ar (i + 2))), .int (zI (zScr ar (i + 1))), .ref 0], zW K A O t)) (f0_0 rfl) (zM_scr (by omega) hL)) ?_
  refine Eq.trans (mG_st (i := (.aload 0)) (len := 1) (z := (272, [.retAddr 150, .ref 0, .ref 185, .ref 198, .int (zI i), u5, u6], [.retAddr 150, .int (zI (zScr ar (i + 3))), .int (zI (zScr ar (i + 2))), .int (zI (zScr ar (i + 1))), .ref 0], zW K A O t)) (f0_0 rfl) rfl) ?_
  refine Eq.trans (mG_st (i := (.iload 4)) (len := 2) (z := (274, [.retAddr 150, .ref 0, .ref 185, .ref 198, .int (zI i), u5, u6], [.int (zI i), .retAddr 150, .int (zI (zScr ar (i + 3))), .int (zI (zScr ar (i + 2))), .int (zI (zScr ar (i + 1))), .ref 0], zW K A O t)) (f0_0 rfl) rfl) ?_
  refine Eq.trans (mG_st (i := (.iconst 4)) (len := 1) (z := (275, [.retAddr 150, .ref 0, .ref 185, .ref 198, .int (zI i), u5, u6], [.int (zI 4), .int (zI i), .retAddr 150, .int (zI (zScr ar (i + 3))), .int (zI (zScr ar (i + 2))), .int (zI (zScr ar (i + 1))), .ref 0], zW K A O t)) (f0_0 rfl) rfl) ?_
  refine Eq.trans (mG_st (i := .iadd) (len := 1) (z := (276, [.retAddr 150, .ref 0, .ref 185, .ref 198, .int (zI i), u5, u6], [.int (zI (i + 4)), .retAddr 150, .int (zI (zScr ar (i + 3))), .int (zI (zScr ar (i + 2))), .int (zI (zScr ar (i + 1))), .ref 0], zW K A O t)) (f0_0 rfl) zs_add) ?_
  refine Eq.trans (mG_st (i := .iaload) (len := 1) (z := (277, [.retAddr 150, .ref 0, .ref 185, .ref 198, .int (zI i), u5, u6], [.int (zI (zScr ar (i + 4))), .int (zI (zScr ar (i + 3))), .int (zI (zScr ar (i + 2))), .int (zI (zScr ar (i + 1))), .ref 0], zW K A O t)) (f0_0 rfl) (zM_scr (by omega) hL)) ?_
  refine Eq.trans (mG_st (i := (.aload 0)) (len := 1) (z := (278, [.retAddr 150, .ref 0, .ref 185, .ref 198, .int (zI i), u5, u6], [.retAddr 150, .int (zI (zScr ar (i + 4))), .int (zI (zScr ar (i + 3))), .int (zI (zScr ar (i + 2))), .int (zI (zScr ar (i + 1))), .ref 0], zW K A O t)) (f0_0 rfl) rfl) ?_
  refine Eq.trans (mG_st (i := (.iload 4)) (len := 2) (z := (280, [.retAddr 150, .ref 0, .ref 185, .ref 198, .int (zI i), u5, u6], [.int (zI i), .retAddr 150, .int (zI (zScr ar (i + 4))), .int (zI (zScr ar (i + 3))), .int (zI (zScr ar (i + 2))), .int (zI (zScr ar (i + 1))), .ref 0], zW K A O t)) (f0_0 rfl) rfl) ?_
  refine Eq.trans (mG_st (i := (.iconst 5)) (len := 1) (z := (281, [.retAddr 150, .ref 0, .ref 185, .ref 198, .int (zI i), u5, u6], [.int (zI 5), .int (zI i), .retAddr 150, .int (zI (zScr ar (i + 4))), .int (zI (zScr ar (i + 3))), .int (zI (zScr ar (i + 2))), .int (zI (zScr ar (i + 1))), .ref 0], zW K A O t)) (f0_0 rfl) rfl) ?_
  refine Eq.trans (mG_st (i := .iadd) (len := 1) (z := (282, [.retAddr 150, .ref 0, .ref 185, .ref 198, .int (zI i), u5, u6], [.int (zI (i + 5)), .retAddr 150, .int (zI (zScr ar (i + 4))), .int (zI (zScr ar (i + 3))), .int (zI (zScr ar (i + 2))), .int (zI (zScr ar (i + 1))), .ref 0], zW K A O t)) (f0_0 rfl) zs_add) ?_
  refine Eq.trans (mG_st (i := .iaload) (len := 1) (z := (283, [.retAddr 150, .ref 0, .ref 185, .ref 198, .int (zI i), u5, u6], [.int (zI (zScr ar (i + 5))), .int (zI (zScr ar (i + 4))), .int (zI (zScr ar (i + 3))), .int (zI (zScr ar (i + 2))), .int (zI (zScr ar (i + 1))), .ref 0], zW K A O t)) (f0_0 rfl) (zM_scr (by omega) hL)) ?_
  refine Eq.trans (mG_ok (i := (.invokeinterface 0 5)) (len := 3) (M' := 13) (k := 6) (v := some (.int (zI b))) (w1 := zW K A1 O t) (f0_0 rfl) (mC_if sh_0 rfl rfl rfl) rfl h1) ?_
  show mGd ar (D + 2) 0 286 [.retAddr 150, .ref 0, .ref 185, .ref 198, .int (zI i), u5, u6] [.int (zI b)] (zW K A1 O t) = _
  refine Eq.trans (mG_st (i := (.aload 2)) (len := 1) (z := (287, [.retAddr 150, .ref 0, .ref 185, .ref 198, .int (zI i), u5, u6], [.ref 185, .int (zI b)], zW K A1 O t)) (f0_0 rfl) rfl) ?_
  refine Eq.trans (mG_st (i := (.aload 0)) (len := 1) (z := (288, [.retAddr 150, .ref 0, .ref 185, .ref 198, .int (zI i), u5, u6], [.retAddr 150, .ref 185, .int (zI b)], zW K A1 O t)) (f0_0 rfl) rfl) ?_
  refine Eq.trans (mG_st (i := (.iload 4)) (len := 2) (z := (290, [.retAddr 150, .ref 0, .ref 185, .ref 198, .int (zI i), u5, u6], [.int (zI i), .retAddr 150, .ref 185, .int (zI b)], zW K A1 O t)) (f0_0 rfl) rfl) ?_
  refine Eq.trans (mG_st (i := (.iconst 1)) (len := 1) (z := (291, [.retAddr 150, .ref 0, .ref 185, .ref 198, .int (zI i), u5, u6], [.int (zI 1), .int (zI i), .retAddr 150, .ref 185, .int (zI b)], zW K A1 O t)) (f0_0 rfl) rfl) ?_
  refine Eq.trans (mG_st (i := .iadd) (len := 1) (z := (292, [.retAddr 150, .ref 0, .ref 185, .ref 198, .int (zI i), u5, u6], [.int (zI (i + 1)), .retAddr 150, .ref 185, .int (zI b)], zW K A1 O t)) (f0_0 rfl) zs_add) ?_
  refine Eq.trans (mG_st (i := .iaload) (len := 1) (z := (293, [.retAddr 150, .ref 0, .ref 185, .ref 198, .int (zI i), u5, u6], [.int (zI (zScr ar (i + 1))), .ref 185, .int (zI b)], zW K A1 O t)) (f0_0 rfl) (zM_scr (by omega) hL)) ?_
  refine Eq.trans (mG_st (i := (.aload 0)) (len := 1) (z := (294, [.retAddr 150, .ref 0, .ref 185, .ref 198, .int (zI i), u5, u6], [.retAddr 150, .int (zI (zScr ar (i + 1))), .ref 185, .int (zI b)], zW K A1 O t)) (f0_0 rfl) rfl) ?_
  refine Eq.trans (mG_st (i := (.iload 4)) (len := 2) (z := (296, [.retAddr 150, .ref 0, .ref 185, .ref 198, .int (zI i), u5, u6], [.int (zI i), .retAddr 150, .int (zI (zScr ar (i + 1))), .ref 185, .int (zI b)], zW K A1 O t)) (f0_0 rfl) rfl) ?_
  refine Eq.trans (mG_st (i := (.iconst 2)) (len := 1) (z := (297, [.retAddr 150, .ref 0, .ref 185, .ref 198, .int (zI i), u5, u6], [.int (zI 2), .int (zI i), .retAddr 150, .int (zI (zScr ar (i + 1))), .ref 185, .int (zI b)], zW K A1 O t)) (f0_0 rfl) rfl) ?_
  refine Eq.trans (mG_st (i := .iadd) (len := 1) (z := (298, [.retAddr 150, .ref 0, .ref 185, .ref 198, .int (zI i), u5, u6], [.int (zI (i + 2)), .retAddr 150, .int (zI (zScr ar (i + 1))), .ref 185, .int (zI b)], zW K A1 O t)) (f0_0 rfl) zs_add) ?_
  refine Eq.trans (mG_st (i := .iaload) (len := 1) (z := (299, [.retAddr 150, .ref 0, .ref 185, .ref 198, .int (zI i), u5, u6], [.int (zI (zScr ar (i + 2))), .int (zI (zScr ar (i + 1))), .ref 185, .int (zI b)], zW K A1 O t)) (f0_0 rfl) (zM_scr (by omega) hL)) ?_
  refine Eq.trans (mG_st (i := (.aload 0)) (len := 1) (z := (300, [.retAddr 150, .ref 0, .ref 185, .ref 198, .int (zI i), u5, u6], [.retAddr 150, .int (zI (zScr ar (i + 2))), .int (zI (zScr ar (i + 1))), .ref 185, .int (zI b)], zW K A1 O t)) (f0_0 rfl) rfl) ?_
  refine Eq.trans (mG_st (i := (.iload 4)) (len := 2) (z := (302, [.retAddr 150, .ref 0, .ref 185, .ref 198, .int (zI i), u5, u6], [.int (zI i), .retAddr 150, .int (zI (zScr ar (i + 2))), .int (zI (zScr ar (i + 1))), .ref 185, .int (zI b)], zW K A1 O t)) (f0_0 rfl) rfl) ?_
  refine Eq.trans (mG_st (i := (.iconst 3)) (len := 1) (z := (303, [.retAddr 150, .ref 0, .ref 185, .ref 198, .int (zI i), u5, u6], [.int (zI 3), .int (zI i), .retAddr 150, .int (zI (zScr ar (i + 2))), .int (zI (zScr ar (i + 1))), .ref 185, .int (zI b)], zW K A1 O t)) (f0_0 rfl) rfl) ?_
  refine Eq.trans (mG_st (i := .iadd) (len := 1) (z := (304, [.retAddr 150, .ref 0, .ref 185, .ref 198, .int (zI i), u5, u6], [.int (zI (i + 3)), .retAddr 150, .int (zI (zScr ar (i + 2))), .int (zI (zScr ar (i + 1))), .ref 185, .int (zI b)], zW K A1 O t)) (f0_0 rfl) zs_add) ?_
  refine Eq.trans (mG_st (i := .iaload) (len := 1) (z := (305, [.retAddr 150, .ref 0, .ref 185, .ref 198, .int (zI i), u5, u6], [.int (zI (zScr ar (i + 3))), .int (zI (zScr ar (i + 2))), .int (zI (zScr ar (i + 1))), .ref 185, .int (zI b)], zW K A1 O t)) (f0_0 rfl) (zM_scr (by omega) hL)) ?_
  refine Eq.trans (mG_st (i := (.aload 0)) (len := 1) (z := (306, [.retAddr 150, .ref 0, .ref 185, .ref 198, .int (zI i), u5, u6], [.retAddr 150, .int (zI (zScr ar (i + 3))), .int (zI (zScr ar (i + 2))), .int (zI (zScr ar (i + 1))), .ref 185, .int (zI b)], zW K A1 O t)) (f0_0 rfl) rfl) ?_
  refine Eq.trans (mG_st (i := (.iload 4)) (len := 2) (z := (308, [.retAddr 150, .ref 0, .ref 185, .ref 198, .int (zI i), u5, u6], [.int (zI i), .retAddr 150, .int (zI (zScr ar (i + 3))), .int (zI (zScr ar (i + 2))), .int (zI (zScr ar (i + 1))), .ref 185, .int (zI b)], zW K A1 O t)) (f0_0 rfl) rfl) ?_
  refine Eq.trans (mG_st (i := (.iconst 4)) (len := 1) (z := (309, [.retAddr 150, .ref 0, .ref 185, .ref 198, .int (zI i), u5, u6], [.int (zI 4), .int (zI i), .retAddr 150, .int (zI (zScr ar (i + 3))), .int (zI (zScr ar (i + 2))), .int (zI (zScr ar (i + 1))), .ref 185, .int (zI b)], zW K A1 O t)) (f0_0 rfl) rfl) ?_
  refine Eq.trans (mG_st (i := .iadd) (len := 1) (z := (310, [.retAddr 150, .ref 0, .ref 185, .ref 198, .int (zI i), u5, u6], [.int (zI (i + 4)), .retAddr 150, .int (zI (zScr ar (i + 3))), .int (zI (zScr ar (i + 2))), .int (zI (zScr ar (i + 1))), .ref 185, .int (zI b)], zW K A1 O t)) (f0_0 rfl) zs_add) ?_
  refine Eq.trans (mG_st (i := .iaload) (len := 1) (z := (311, [.retAddr 150, .ref 0, .ref 185, .ref 198, .int (zI i), u5, u6], [.int (zI (zScr ar (i + 4))), .int (zI (zScr ar (i + 3))), .int (zI (zScr ar (i + 2))), .int (zI (zScr ar (i + 1))), .ref 185, .int (zI b)], zW K A1 O t)) (f0_0 rfl) (zM_scr (by omega) hL)) ?_
  refine Eq.trans (mG_st (i := (.aload 0)) (len := 1) (z := (312, [.retAddr 150, .ref 0, .ref 185, .ref 198, .int (zI i), u5, u6], [.retAddr 150, .int (zI (zScr ar (i + 4))), .int (zI (zScr ar (i + 3))), .int (zI (zScr ar (i + 2))), .int (zI (zScr ar (i + 1))), .ref 185, .int (zI b)], zW K A1 O t)) (f0_0 rfl) rfl) ?_
  refine Eq.trans (mG_st (i := (.iload 4)) (len := 2) (z := (314, [.retAddr 150, .ref 0, .ref 185, .ref 198, .int (zI i), u5, u6], [.int (zI i), .retAddr 150, .int (zI (zScr ar (i + 4))), .int (zI (zScr ar (i + 3))), .int (zI (zScr ar (i + 2))), .int (zI (zScr ar (i + 1))), .ref 185, .int (zI b)], zW K A1 O t)) (f0_0 rfl) rfl) ?_
  refine Eq.trans (mG_st (i := (.iconst 5)) (len := 1) (z := (315, [.retAddr 150, .ref 0, .ref 185, .ref 198, .int (zI i), u5, u6], [.int (zI 5), .int (zI i), .retAddr 150, .int (zI (zScr ar (i + 4))), .int (zI (zScr ar (i + 3))), .int (zI (zScr ar (i + 2))), .int (zI (zScr ar (i + 1))), .ref 185, .int (zI b)], zW K A1 O t)) (f0_0 rfl) rfl) ?_
  refine Eq.trans (mG_st (i := .iadd) (len := 1) (z := (316, [.retAddr 150, .ref 0, .ref 185, .ref 198, .int (zI i), u5, u6], [.int (zI (i + 5)), .retAddr 150, .int (zI (zScr ar (i + 4))), .int (zI (zScr ar (i + 3))), .int (zI (zScr ar (i + 2))), .int (zI (zScr ar (i + 1))), .ref 185, .int (zI b)], zW K A1 O t)) (f0_0 rfl) zs_add) ?_
  refine Eq.trans (mG_st (i := .iaload) (len := 1) (z := (317, [.retAddr 150, .ref 0, .ref 185, .ref 198, .int (zI i), u5, u6], [.int (zI (zScr ar (i + 5))), .int (zI (zScr ar (i + 4))), .int (zI (zScr ar (i + 3))), .int (zI (zScr ar (i + 2))), .int (zI (zScr ar (i + 1))), .ref 185, .int (zI b)], zW K A1 O t)) (f0_0 rfl) (zM_scr (by omega) hL)) ?_
  refine Eq.trans (mG_ok (i := (.invokeinterface 1 5)) (len := 3) (M' := 220) (k := 6) (v := some (.int (zI b))) (w1 := zW K A2 O t) (f0_0 rfl) (mC_if sh_185 rfl rfl rfl) rfl h4) ?_
  show mGd ar (D + 2) 0 320 [.retAddr 150, .ref 0, .ref 185, .ref 198, .int (zI i), u5, u6] [.int (zI b), .int (zI b)] (zW K A2 O t) = _
  refine Eq.trans (mG_st (i := (.if_icmp .eq 2717)) (len := 3) (z := (if b = b then 3037 else 323, [.retAddr 150, .ref 0, .ref 185, .ref 198, .int (zI i), u5, u6], [], zW K A2 O t)) (f0_0 rfl) (zs_ic_eq h2 h2)) ?_
  rw [if_pos rfl]
set_option maxRecDepth 20000 in
theorem cs_end {i : Int} {u5 u6 : Value} (hL : (ar 150).1 ≤ 3072) (hi : 0 ≤ i ∧ i + 6 ≤ ((ar 150).1 : Int)) (hq : zQ ar K O t (D + 1) 16 [.ref 0, .int (zI (zScr ar (i + 1)))] 221 [.ref 185, .int (zI (zScr ar (i + 1)))] (fun _ => 0) A) : zNext ar K D i u5 u6 A O t 325 := by
  obtain ⟨A1, ⟨b, h1, h2, h3⟩ | ⟨E, -, h2, -⟩⟩ := hq
  case inr => exact absurd h2.1 (by simp)
  obtain ⟨A2, h4, -, h6⟩ := h3 O t
  refine ⟨A2, O, t, u5, u6, by omega, h6, ?_⟩
  refine Eq.trans (mG_st (i := (.aload 1)) (len := 1) (z := (326, [.retAddr 150, .ref 0, .ref 185, .ref 198, .int (zI i), u5, u6], [.ref 0], zW K A O t)) (f0_0 rfl) rfl) ?_
  refine Eq.trans (mG_st (i := (.aload 0)) (len := 1) (z := (327, [.retAddr 150, .ref 0, .ref 185, .ref 198, .int (zI i), u5, u6], [.retAddr 150, .ref 0], zW K A O t)) (f0_0 rfl) rfl) ?_
  refine Eq.trans (mG_st (i := (.iload 4)) (len := 2) (z := (329, [.retAddr 150, .ref 0, .ref 185, .ref 198, .int (zI i), u5, u6], [.int (zI i), .retAddr 150, .ref 0], zW K A O t)) (f0_0 rfl) rfl) ?_
  refine Eq.trans (mG_st (i := (.iconst 1)) (len := 1) (z := (330, [.retAddr 150, .ref 0, .ref 185, .ref 198, .int (zI i), u5, u6], [.int (zI 1), .int (zI i), .retAddr 150, .ref 0], zW K A O t)) (f0_0 rfl) rfl) ?_
  refine Eq.trans (mG_st (i := .iadd) (len := 1) (z := (331, [.retAddr 150, .ref 0, .ref 185, .ref 198, .int (zI i), u5, u6], [.int (zI (i + 1)), .retAddr 150, .ref 0], zW K A O t)) (f0_0 rfl) zs_add) ?_
  refine Eq.trans (mG_st (i := .iaload) (len := 1) (z := (332, [.retAddr 150, .ref 0, .ref 185, .ref 198, .int (zI i), u5, u6], [.int (zI (zScr ar (i + 1))), .ref 0], zW K A O t)) (f0_0 rfl) (zM_scr (by omega) hL)) ?_
  refine Eq.trans (mG_ok (i := (.invokeinterface 2 1)) (len := 3) (M' := 16) (k := 2) (v := some (.int (zI b))) (w1 := zW K A1 O t) (f0_0 rfl) (mC_if sh_0 rfl rfl rfl) rfl h1) ?_
  show mGd ar (D + 2) 0 335 [.retAddr 150, .ref 0, .ref 185, .ref 198, .int (zI i), u5, u6] [.int (zI b)] (zW K A1 O t) = _
  refine Eq.trans (mG_st (i := (.aload 2)) (len := 1) (z := (336, [.retAddr 150, .ref 0, .ref 185, .ref 198, .int (zI i), u5, u6], [.ref 185, .int (zI b)], zW K A1 O t)) (f0_0 rfl) rfl) ?_
  refine Eq.trans (mG_st (i := (.aload 0)) (len := 1) (z := (337, [.retAddr 150, .ref 0, .ref 185, .ref 198, .int (zI i), u5, u6], [.retAddr 150, .ref 185, .int (zI b)], zW K A1 O t)) (f0_0 rfl) rfl) ?_
  refine Eq.trans (mG_st (i := (.iload 4)) (len := 2) (z := (339, [.retAddr 150, .ref 0, .ref 185, .ref 198, .int (zI i), u5, u6], [.int (zI i), .retAddr 150, .ref 185, .int (zI b)], zW K A1 O t)) (f0_0 rfl) rfl) ?_
  refine Eq.trans (mG_st (i := (.iconst 1)) (len := 1) (z := (340, [.retAddr 150, .ref 0, .ref 185, .ref 198, .int (zI i), u5, u6], [.int (zI 1), .int (zI i), .retAddr 150, .ref 185, .int (zI b)], zW K A1 O t)) (f0_0 rfl) rfl) ?_
  refine Eq.trans (mG_st (i := .iadd) (len := 1) (z := (341, [.retAddr 150, .ref 0, .ref 185, .ref 198, .int (zI i), u5, u6], [.int (zI (i + 1)), .retAddr 150, .ref 185, .int (zI b)], zW K A1 O t)) (f0_0 rfl) zs_add) ?_
  refine Eq.trans (mG_st (i := .iaload) (len := 1) (z := (342, [.retAddr 150, .ref 0, .ref 185, .ref 198, .int (zI i), u5, u6], [.int (zI (zScr ar (i + 1))), .ref 185, .int (zI b)], zW K A1 O t)) (f0_0 rfl) (zM_scr (by omega) hL)) ?_
  refine Eq.trans (mG_ok (i := (.invokeinterface 3 1)) (len := 3) (M' := 221) (k := 2) (v := some (.int (zI b))) (w1 := zW K A2 O t) (f0_0 rfl) (mC_if sh_185 rfl rfl rfl) rfl h4) ?_
  show mGd ar (D + 2) 0 345 [.retAddr 150, .ref 0, .ref 185, .ref 198, .int (zI i), u5, u6] [.int (zI b), .int (zI b)] (zW K A2 O t) = _
  refine Eq.trans (mG_st (i := (.if_icmp .eq 2692)) (len := 3) (z := (if b = b then 3037 else 348, [.retAddr 150, .ref 0, .ref 185, .ref 198, .int (zI i), u5, u6], [], zW K A2 O t)) (f0_0 rfl) (zs_ic_eq h2 h2)) ?_
  rw [if_pos rfl]
set_option maxRecDepth 20000 in
theorem cs_hall {i : Int} {u5 u6 : Value} (hL : (ar 150).1 ≤ 3072) (hi : 0 ≤ i ∧ i + 6 ≤ ((ar 150).1 : Int)) (hq : zWr ar K O t (D + 1) 64 [.ref 0, .ref 198, .double 0] 223 [.ref 185, .double 0, .double 0] (fun b => (zI b).toInt64) A) : zNext ar K D i u5 u6 A O t 350 := by
  obtain ⟨k, A1, O1, t1, h1, h2, h3, b, A2, h4, h5, h6, h7⟩ := hq
  refine ⟨A2, O1, t1, .int (zI k), .int (zI b), h2, h6, ?_⟩
  refine Eq.trans (mG_st (i := (.aload 1)) (len := 1) (z := (351, [.retAddr 150, .ref 0, .ref 185, .ref 198, .int (zI i), u5, u6], [.ref 0], zW K A O t)) (f0_0 rfl) rfl) ?_
  refine Eq.trans (mG_st (i := (.aload 3)) (len := 1) (z := (352, [.retAddr 150, .ref 0, .ref 185, .ref 198, .int (zI i), u5, u6], [.ref 198, .ref 0], zW K A O t)) (f0_0 rfl) rfl) ?_
  refine Eq.trans (mG_ok (i := (.invokestatic 64)) (len := 3) (M' := 64) (k := 2) (v := some (.int (zI k))) (w1 := zW K A1 O1 t1) (f0_0 rfl) rfl rfl h1) ?_
  show mGd ar (D + 2) 0 355 [.retAddr 150, .ref 0, .ref 185, .ref 198, .int (zI i), u5, u6] [.int (zI k)] (zW K A1 O1 t1) = _
  refine Eq.trans (mG_st (i := (.istore 5)) (len := 2) (z := (357, [.retAddr 150, .ref 0, .ref 185, .ref 198, .int (zI i), .int (zI k), u6], [], zW K A1 O1 t1)) (f0_0 rfl) rfl) ?_
  refine Eq.trans (mG_st (i := (.aload 2)) (len := 1) (z := (358, [.retAddr 150, .ref 0, .ref 185, .ref 198, .int (zI i), .int (zI k), u6], [.ref 185], zW K A1 O1 t1)) (f0_0 rfl) rfl) ?_
  refine Eq.trans (mG_ok (i := (.invokeinterface 4 0)) (len := 3) (M' := 223) (k := 1) (v := some (.int (zI b))) (w1 := zW K A2 O1 t1) (f0_0 rfl) (mC_if sh_185 rfl rfl rfl) rfl h4) ?_
  show mGd ar (D + 2) 0 361 [.retAddr 150, .ref 0, .ref 185, .ref 198, .int (zI i), .int (zI k), u6] [.int (zI b)] (zW K A2 O1 t1) = _
  refine Eq.trans (mG_st (i := (.istore 6)) (len := 2) (z := (363, [.retAddr 150, .ref 0, .ref 185, .ref 198, .int (zI i), .int (zI k), .int (zI b)], [], zW K A2 O1 t1)) (f0_0 rfl) rfl) ?_
  refine Eq.trans (mG_st (i := (.aload 2)) (len := 1) (z := (364, [.retAddr 150, .ref 0, .ref 185, .ref 198, .int (zI i), .int (zI k), .int (zI b)], [.ref 185], zW K A2 O1 t1)) (f0_0 rfl) rfl) ?_
  refine Eq.trans (mG_ok (i := (.invokeinterface 5 0)) (len := 3) (M' := 215) (k := 1) (v := some (.int (zI (A2 185 0)))) (w1 := zW K A2 O1 t1) (f0_0 rfl) (mC_if sh_185 rfl rfl rfl) rfl i215_0) ?_
  rw [h5]
  show mGd ar (D + 2) 0 367 [.retAddr 150, .ref 0, .ref 185, .ref 198, .int (zI i), .int (zI k), .int (zI b)] [.int (zI k)] (zW K A2 O1 t1) = _
  refine Eq.trans (mG_st (i := (.iload 5)) (len := 2) (z := (369, [.retAddr 150, .ref 0, .ref 185, .ref 198, .int (zI i), .int (zI k), .int (zI b)], [.int (zI k), .int (zI k)], zW K A2 O1 t1)) (f0_0 rfl) rfl) ?_
  refine Eq.trans (mG_st (i := (.if_icmp .eq 5)) (len := 3) (z := (if k = k then 374 else 372, [.retAddr 150, .ref 0, .ref 185, .ref 198, .int (zI i), .int (zI k), .int (zI b)], [], zW K A2 O1 t1)) (f0_0 rfl) (zs_ic_eq (by omega) (by omega))) ?_
  rw [if_pos rfl]
  show mGd ar (D + 2) 0 374 [.retAddr 150, .ref 0, .ref 185, .ref 198, .int (zI i), .int (zI k), .int (zI b)] [] (zW K A2 O1 t1) = _
  refine Eq.trans (mG_st (i := (.iload 5)) (len := 2) (z := (376, [.retAddr 150, .ref 0, .ref 185, .ref 198, .int (zI i), .int (zI k), .int (zI b)], [.int (zI k)], zW K A2 O1 t1)) (f0_0 rfl) rfl) ?_
  refine Eq.trans (mG_st (i := (.ifCond .ne 15)) (len := 3) (z := (if k = 0 then 379 else 391, [.retAddr 150, .ref 0, .ref 185, .ref 198, .int (zI i), .int (zI k), .int (zI b)], [], zW K A2 O1 t1)) (f0_0 rfl) (zs_if_ne (by omega))) ?_
  have fin : mGd ar (D + 2) 0 391 [.retAddr 150, .ref 0, .ref 185, .ref 198, .int (zI i), .int (zI k), .int (zI b)] [] (zW K A2 O1 t1) = mGd ar (D + 2) 0 3037 [.retAddr 150, .ref 0, .ref 185, .ref 198, .int (zI i), .int (zI k), .int (zI b)] [] (zW K A2 O1 t1) :=
    mG_st (i := (.goto 2646)) (len := 3) (z := (3037, [.retAddr 150, .ref 0, .ref 185, .ref 198, .int (zI i), .int (zI k), .int (zI b)], [], zW K A2 O1 t1)) (f0_0 rfl) rfl
  by_cases k0 : k = 0
  · rw [if_pos k0]
    obtain ⟨h8, h9⟩ := h7 k0
    show mGd ar (D + 2) 0 379 [.retAddr 150, .ref 0, .ref 185, .ref 198, .int (zI i), .int (zI k), .int (zI b)] [] (zW K A2 O1 t1) = _
    refine Eq.trans (mG_st (i := (.aload 3)) (len := 1) (z := (380, [.retAddr 150, .ref 0, .ref 185, .ref 198, .int (zI i), .int (zI k), .int (zI b)], [.ref 198], zW K A2 O1 t1)) (f0_0 rfl) rfl) ?_
    refine Eq.trans (mG_st (i := (.iconst 0)) (len := 1) (z := (381, [.retAddr 150, .ref 0, .ref 185, .ref 198, .int (zI i), .int (zI k), .int (zI b)], [.int (zI 0), .ref 198], zW K A2 O1 t1)) (f0_0 rfl) rfl) ?_
    refine Eq.trans (mG_st (i := .laload) (len := 1) (z := (382, [.retAddr 150, .ref 0, .ref 185, .ref 198, .int (zI i), .int (zI k), .int (zI b)], [.long (O1 0)], zW K A2 O1 t1)) (f0_0 rfl) zM_lald) ?_
    refine Eq.trans (mG_st (i := (.iload 6)) (len := 2) (z := (384, [.retAddr 150, .ref 0, .ref 185, .ref 198, .int (zI i), .int (zI k), .int (zI b)], [.int (zI b), .long (O1 0)], zW K A2 O1 t1)) (f0_0 rfl) rfl) ?_
    refine Eq.trans (mG_st (i := .i2l) (len := 1) (z := (385, [.retAddr 150, .ref 0, .ref 185, .ref 198, .int (zI i), .int (zI k), .int (zI b)], [.long ((zI b).toInt64), .long (O1 0)], zW K A2 O1 t1)) (f0_0 rfl) rfl) ?_
    show mGd ar (D + 2) 0 385 [.retAddr 150, .ref 0, .ref 185, .ref 198, .int (zI i), .int (zI k), .int (zI b)] [.long ((zI b).toInt64), .long (O1 0)] (zW K A2 O1 t1) = _
    refine Eq.trans (mG_st (i := .lcmp) (len := 1) (z := (386, [.retAddr 150, .ref 0, .ref 185, .ref 198, .int (zI i), .int (zI k), .int (zI b)], [.int (lg_cmp (O1 0) ((zI b).toInt64))], zW K A2 O1 t1)) (f0_0 rfl) rfl) ?_
    rw [show O1 0 = (zI b).toInt64 from h8, lg_same]
    exact Eq.trans (mG_st (i := (.ifCond .eq 5)) (len := 3) (z := (391, [.retAddr 150, .ref 0, .ref 185, .ref 198, .int (zI i), .int (zI k), .int (zI b)], [], zW K A2 O1 t1)) (f0_0 rfl) rfl) fin
  · rw [if_neg k0]; exact fin
set_option maxRecDepth 20000 in
theorem cs_law {i : Int} {u5 u6 : Value} (hL : (ar 150).1 ≤ 3072) (hi : 0 ≤ i ∧ i + 6 ≤ ((ar 150).1 : Int)) (hq : zWr ar K O t (D + 1) 101 [.ref 0, .ref 198, .double 0] 253 [.ref 185, .double 0, .double 0] (fun b => (zI b).toInt64) A) : zNext ar K D i u5 u6 A O t 394 := by
  obtain ⟨k, A1, O1, t1, h1, h2, h3, b, A2, h4, h5, h6, h7⟩ := hq
  refine ⟨A2, O1, t1, .int (zI k), .int (zI b), h2, h6, ?_⟩
  refine Eq.trans (mG_st (i := (.aload 1)) (len := 1) (z := (395, [.retAddr 150, .ref 0, .ref 185, .ref 198, .int (zI i), u5, u6], [.ref 0], zW K A O t)) (f0_0 rfl) rfl) ?_
  refine Eq.trans (mG_st (i := (.aload 3)) (len := 1) (z := (396, [.retAddr 150, .ref 0, .ref 185, .ref 198, .int (zI i), u5, u6], [.ref 198, .ref 0], zW K A O t)) (f0_0 rfl) rfl) ?_
  refine Eq.trans (mG_ok (i := (.invokestatic 101)) (len := 3) (M' := 101) (k := 2) (v := some (.int (zI k))) (w1 := zW K A1 O1 t1) (f0_0 rfl) rfl rfl h1) ?_
  show mGd ar (D + 2) 0 399 [.retAddr 150, .ref 0, .ref 185, .ref 198, .int (zI i), u5, u6] [.int (zI k)] (zW K A1 O1 t1) = _
  refine Eq.trans (mG_st (i := (.istore 5)) (len := 2) (z := (401, [.retAddr 150, .ref 0, .ref 185, .ref 198, .int (zI i), .int (zI k), u6], [], zW K A1 O1 t1)) (f0_0 rfl) rfl) ?_
  refine Eq.trans (mG_st (i := (.aload 2)) (len := 1) (z := (402, [.retAddr 150, .ref 0, .ref 185, .ref 198, .int (zI i), .int (zI k), u6], [.ref 185], zW K A1 O1 t1)) (f0_0 rfl) rfl) ?_
  refine Eq.trans (mG_ok (i := (.invokeinterface 6 0)) (len := 3) (M' := 253) (k := 1) (v := some (.int (zI b))) (w1 := zW K A2 O1 t1) (f0_0 rfl) (mC_if sh_185 rfl rfl rfl) rfl h4) ?_
  show mGd ar (D + 2) 0 405 [.retAddr 150, .ref 0, .ref 185, .ref 198, .int (zI i), .int (zI k), u6] [.int (zI b)] (zW K A2 O1 t1) = _
  refine Eq.trans (mG_st (i := (.istore 6)) (len := 2) (z := (407, [.retAddr 150, .ref 0, .ref 185, .ref 198, .int (zI i), .int (zI k), .int (zI b)], [], zW K A2 O1 t1)) (f0_0 rfl) rfl) ?_
  refine Eq.trans (mG_st (i := (.aload 2)) (len := 1) (z := (408, [.retAddr 150, .ref 0, .ref 185, .ref 198, .int (zI i), .int (zI k), .int (zI b)], [.ref 185], zW K A2 O1 t1)) (f0_0 rfl) rfl) ?_
  refine Eq.trans (mG_ok (i := (.invokeinterface 5 0)) (len := 3) (M' := 215) (k := 1) (v := some (.int (zI (A2 185 0)))) (w1 := zW K A2 O1 t1) (f0_0 rfl) (mC_if sh_185 rfl rfl rfl) rfl i215_0) ?_
  rw [h5]
  show mGd ar (D + 2) 0 411 [.retAddr 150, .ref 0, .ref 185, .ref 198, .int (zI i), .int (zI k), .int (zI b)] [.int (zI k)] (zW K A2 O1 t1) = _
  refine Eq.trans (mG_st (i := (.iload 5)) (len := 2) (z := (413, [.retAddr 150, .ref 0, .ref 185, .ref 198, .int (zI i), .int (zI k), .int (zI b)], [.int (zI k), .int (zI k)], zW K A2 O1 t1)) (f0_0 rfl) rfl) ?_
  refine Eq.trans (mG_st (i := (.if_icmp .eq 5)) (len := 3) (z := (if k = k then 418 else 416, [.retAddr 150, .ref 0, .ref 185, .ref 198, .int (zI i), .int (zI k), .int (zI b)], [], zW K A2 O1 t1)) (f0_0 rfl) (zs_ic_eq (by omega) (by omega))) ?_
  rw [if_pos rfl]
  show mGd ar (D + 2) 0 418 [.retAddr 150, .ref 0, .ref 185, .ref 198, .int (zI i), .int (zI k), .int (zI b)] [] (zW K A2 O1 t1) = _
  refine Eq.trans (mG_st (i := (.iload 5)) (len := 2) (z := (420, [.retAddr 150, .ref 0, .ref 185, .ref 198, .int (zI i), .int (zI k), .int (zI b)], [.int (zI k)], zW K A2 O1 t1)) (f0_0 rfl) rfl) ?_
  refine Eq.trans (mG_st (i := (.ifCond .ne 15)) (len := 3) (z := (if k = 0 then 423 else 435, [.retAddr 150, .ref 0, .ref 185, .ref 198, .int (zI i), .int (zI k), .int (zI b)], [], zW K A2 O1 t1)) (f0_0 rfl) (zs_if_ne (by omega))) ?_
  have fin : mGd ar (D + 2) 0 435 [.retAddr 150, .ref 0, .ref 185, .ref 198, .int (zI i), .int (zI k), .int (zI b)] [] (zW K A2 O1 t1) = mGd ar (D + 2) 0 3037 [.retAddr 150, .ref 0, .ref 185, .ref 198, .int (zI i), .int (zI k), .int (zI b)] [] (zW K A2 O1 t1) :=
    mG_st (i := (.goto 2602)) (len := 3) (z := (3037, [.retAddr 150, .ref 0, .ref 185, .ref 198, .int (zI i), .int (zI k), .int (zI b)], [], zW K A2 O1 t1)) (f0_0 rfl) rfl
  by_cases k0 : k = 0
  · rw [if_pos k0]
    obtain ⟨h8, h9⟩ := h7 k0
    show mGd ar (D + 2) 0 423 [.retAddr 150, .ref 0, .ref 185, .ref 198, .int (zI i), .int (zI k), .int (zI b)] [] (zW K A2 O1 t1) = _
    refine Eq.trans (mG_st (i := (.aload 3)) (len := 1) (z := (424, [.retAddr 150, .ref 0, .ref 185, .ref 198, .int (zI i), .int (zI k), .int (zI b)], [.ref 198], zW K A2 O1 t1)) (f0_0 rfl) rfl) ?_
    refine Eq.trans (mG_st (i := (.iconst 0)) (len := 1) (z := (425, [.retAddr 150, .ref 0, .ref 185, .ref 198, .int (zI i), .int (zI k), .int (zI b)], [.int (zI 0), .ref 198], zW K A2 O1 t1)) (f0_0 rfl) rfl) ?_
    refine Eq.trans (mG_st (i := .laload) (len := 1) (z := (426, [.retAddr 150, .ref 0, .ref 185, .ref 198, .int (zI i), .int (zI k), .int (zI b)], [.long (O1 0)], zW K A2 O1 t1)) (f0_0 rfl) zM_lald) ?_
    refine Eq.trans (mG_st (i := (.iload 6)) (len := 2) (z := (428, [.retAddr 150, .ref 0, .ref 185, .ref 198, .int (zI i), .int (zI k), .int (zI b)], [.int (zI b), .long (O1 0)], zW K A2 O1 t1)) (f0_0 rfl) rfl) ?_
    refine Eq.trans (mG_st (i := .i2l) (len := 1) (z := (429, [.retAddr 150, .ref 0, .ref 185, .ref 198, .int (zI i), .int (zI k), .int (zI b)], [.long ((zI b).toInt64), .long (O1 0)], zW K A2 O1 t1)) (f0_0 rfl) rfl) ?_
    show mGd ar (D + 2) 0 429 [.retAddr 150, .ref 0, .ref 185, .ref 198, .int (zI i), .int (zI k), .int (zI b)] [.long ((zI b).toInt64), .long (O1 0)] (zW K A2 O1 t1) = _
    refine Eq.trans (mG_st (i := .lcmp) (len := 1) (z := (430, [.retAddr 150, .ref 0, .ref 185, .ref 198, .int (zI i), .int (zI k), .int (zI b)], [.int (lg_cmp (O1 0) ((zI b).toInt64))], zW K A2 O1 t1)) (f0_0 rfl) rfl) ?_
    rw [show O1 0 = (zI b).toInt64 from h8, lg_same]
    exact Eq.trans (mG_st (i := (.ifCond .eq 5)) (len := 3) (z := (435, [.retAddr 150, .ref 0, .ref 185, .ref 198, .int (zI i), .int (zI k), .int (zI b)], [], zW K A2 O1 t1)) (f0_0 rfl) rfl) fin
  · rw [if_neg k0]; exact fin
set_option maxRecDepth 20000 in
theorem cs_fault {i : Int} {u5 u6 : Value} (hL : (ar 150).1 ≤ 3072) (hi : 0 ≤ i ∧ i + 6 ≤ ((ar 150).1 : Int)) (hq : zQ ar K O t (D + 1) 17 [.ref 0] 222 [.ref 185] (fun _ => 0) A) : zNext ar K D i u5 u6 A O t 438 := by
  obtain ⟨A1, ⟨b, h1, h2, h3⟩ | ⟨E, -, h2, -⟩⟩ := hq
  case inr => exact absurd h2.1 (by simp)
  obtain ⟨A2, h4, -, h6⟩ := h3 O t
  refine ⟨A2, O, t, u5, u6, by omega, h6, ?_⟩
  refine Eq.trans (mG_st (i := (.aload 1)) (len := 1) (z := (439, [.retAddr 150, .ref 0, .ref 185, .ref 198, .int (zI i), u5, u6], [.ref 0], zW K A O t)) (f0_0 rfl) rfl) ?_
  refine Eq.trans (mG_ok (i := (.invokeinterface 7 0)) (len := 3) (M' := 17) (k := 1) (v := some (.int (zI b))) (w1 := zW K A1 O t) (f0_0 rfl) (mC_if sh_0 rfl rfl rfl) rfl h1) ?_
  show mGd ar (D + 2) 0 442 [.retAddr 150, .ref 0, .ref 185, .ref 198, .int (zI i), u5, u6] [.int (zI b)] (zW K A1 O t) = _
  refine Eq.trans (mG_st (i := (.aload 2)) (len := 1) (z := (443, [.retAddr 150, .ref 0, .ref 185, .ref 198, .int (zI i), u5, u6], [.ref 185, .int (zI b)], zW K A1 O t)) (f0_0 rfl) rfl) ?_
  refine Eq.trans (mG_ok (i := (.invokeinterface 8 0)) (len := 3) (M' := 222) (k := 1) (v := some (.int (zI b))) (w1 := zW K A2 O t) (f0_0 rfl) (mC_if sh_185 rfl rfl rfl) rfl h4) ?_
  show mGd ar (D + 2) 0 446 [.retAddr 150, .ref 0, .ref 185, .ref 198, .int (zI i), u5, u6] [.int (zI b), .int (zI b)] (zW K A2 O t) = _
  refine Eq.trans (mG_st (i := (.if_icmp .eq 2591)) (len := 3) (z := (if b = b then 3037 else 449, [.retAddr 150, .ref 0, .ref 185, .ref 198, .int (zI i), u5, u6], [], zW K A2 O t)) (f0_0 rfl) (zs_ic_eq h2 h2)) ?_
  rw [if_pos rfl]
set_option maxRecDepth 20000 in
theorem cs_number {i : Int} {u5 u6 : Value} (hL : (ar 150).1 ≤ 3072) (hi : 0 ≤ i ∧ i + 6 ≤ ((ar 150).1 : Int)) (hq : zWr ar K O t (D + 1) 104 [.ref 0, .int (zI (zScr ar (i + 1))), .int (zI (zScr ar (i + 2))), .ref 198, .double 0] 254 [.ref 185, .int (zI (zScr ar (i + 1))), .int (zI (zScr ar (i + 2)))] (fun b => (zI b).toInt64) A) : zNext ar K D i u5 u6 A O t 451 := by
  obtain ⟨k, A1, O1, t1, h1, h2, h3, b, A2, h4, h5, h6, h7⟩ := hq
  refine ⟨A2, O1, t1, .int (zI k), .int (zI b), h2, h6, ?_⟩
  refine Eq.trans (mG_st (i := (.aload 1)) (len := 1) (z := (452, [.retAddr 150, .ref 0, .ref 185, .ref 198, .int (zI i), u5, u6], [.ref 0], zW K A O t)) (f0_0 rfl) rfl) ?_
  refine Eq.trans (mG_st (i := (.aload 0)) (len := 1) (z := (453, [.retAddr 150, .ref 0, .ref 185, .ref 198, .int (zI i), u5, u6], [.retAddr 150, .ref 0], zW K A O t)) (f0_0 rfl) rfl) ?_
  refine Eq.trans (mG_st (i := (.iload 4)) (len := 2) (z := (455, [.retAddr 150, .ref 0, .ref 185, .ref 198, .int (zI i), u5, u6], [.int (zI i), .retAddr 150, .ref 0], zW K A O t)) (f0_0 rfl) rfl) ?_
  refine Eq.trans (mG_st (i := (.iconst 1)) (len := 1) (z := (456, [.retAddr 150, .ref 0, .ref 185, .ref 198, .int (zI i), u5, u6], [.int (zI 1), .int (zI i), .retAddr 150, .ref 0], zW K A O t)) (f0_0 rfl) rfl) ?_
  refine Eq.trans (mG_st (i := .iadd) (len := 1) (z := (457, [.retAddr 150, .ref 0, .ref 185, .ref 198, .int (zI i), u5, u6], [.int (zI (i + 1)), .retAddr 150, .ref 0], zW K A O t)) (f0_0 rfl) zs_add) ?_
  refine Eq.trans (mG_st (i := .iaload) (len := 1) (z := (458, [.retAddr 150, .ref 0, .ref 185, .ref 198, .int (zI i), u5, u6], [.int (zI (zScr ar (i + 1))), .ref 0], zW K A O t)) (f0_0 rfl) (zM_scr (by omega) hL)) ?_
  refine Eq.trans (mG_st (i := (.aload 0)) (len := 1) (z := (459, [.retAddr 150, .ref 0, .ref 185, .ref 198, .int (zI i), u5, u6], [.retAddr 150, .int (zI (zScr ar (i + 1))), .ref 0], zW K A O t)) (f0_0 rfl) rfl) ?_
  refine Eq.trans (mG_st (i := (.iload 4)) (len := 2) (z := (461, [.retAddr 150, .ref 0, .ref 185, .ref 198, .int (zI i), u5, u6], [.int (zI i), .retAddr 150, .int (zI (zScr ar (i + 1))), .ref 0], zW K A O t)) (f0_0 rfl) rfl) ?_
  refine Eq.trans (mG_st (i := (.iconst 2)) (len := 1) (z := (462, [.retAddr 150, .ref 0, .ref 185, .ref 198, .int (zI i), u5, u6], [.int (zI 2), .int (zI i), .retAddr 150, .int (zI (zScr ar (i + 1))), .ref 0], zW K A O t)) (f0_0 rfl) rfl) ?_
  refine Eq.trans (mG_st (i := .iadd) (len := 1) (z := (463, [.retAddr 150, .ref 0, .ref 185, .ref 198, .int (zI i), u5, u6], [.int (zI (i + 2)), .retAddr 150, .int (zI (zScr ar (i + 1))), .ref 0], zW K A O t)) (f0_0 rfl) zs_add) ?_
  refine Eq.trans (mG_st (i := .iaload) (len := 1) (z := (464, [.retAddr 150, .ref 0, .ref 185, .ref 198, .int (zI i), u5, u6], [.int (zI (zScr ar (i + 2))), .int (zI (zScr ar (i + 1))), .ref 0], zW K A O t)) (f0_0 rfl) (zM_scr (by omega) hL)) ?_
  refine Eq.trans (mG_st (i := (.aload 3)) (len := 1) (z := (465, [.retAddr 150, .ref 0, .ref 185, .ref 198, .int (zI i), u5, u6], [.ref 198, .int (zI (zScr ar (i + 2))), .int (zI (zScr ar (i + 1))), .ref 0], zW K A O t)) (f0_0 rfl) rfl) ?_
  refine Eq.trans (mG_ok (i := (.invokestatic 104)) (len := 3) (M' := 104) (k := 4) (v := some (.int (zI k))) (w1 := zW K A1 O1 t1) (f0_0 rfl) rfl rfl h1) ?_
  show mGd ar (D + 2) 0 468 [.retAddr 150, .ref 0, .ref 185, .ref 198, .int (zI i), u5, u6] [.int (zI k)] (zW K A1 O1 t1) = _
  refine Eq.trans (mG_st (i := (.istore 5)) (len := 2) (z := (470, [.retAddr 150, .ref 0, .ref 185, .ref 198, .int (zI i), .int (zI k), u6], [], zW K A1 O1 t1)) (f0_0 rfl) rfl) ?_
  refine Eq.trans (mG_st (i := (.aload 2)) (len := 1) (z := (471, [.retAddr 150, .ref 0, .ref 185, .ref 198, .int (zI i), .int (zI k), u6], [.ref 185], zW K A1 O1 t1)) (f0_0 rfl) rfl) ?_
  refine Eq.trans (mG_st (i := (.aload 0)) (len := 1) (z := (472, [.retAddr 150, .ref 0, .ref 185, .ref 198, .int (zI i), .int (zI k), u6], [.retAddr 150, .ref 185], zW K A1 O1 t1)) (f0_0 rfl) rfl) ?_
  refine Eq.trans (mG_st (i := (.iload 4)) (len := 2) (z := (474, [.retAddr 150, .ref 0, .ref 185, .ref 198, .int (zI i), .int (zI k), u6], [.int (zI i), .retAddr 150, .ref 185], zW K A1 O1 t1)) (f0_0 rfl) rfl) ?_
  refine Eq.trans (mG_st (i := (.iconst 1)) (len := 1) (z := (475, [.retAddr 150, .ref 0, .ref 185, .ref 198, .int (zI i), .int (zI k), u6], [.int (zI 1), .int (zI i), .retAddr 150, .ref 185], zW K A1 O1 t1)) (f0_0 rfl) rfl) ?_
  refine Eq.trans (mG_st (i := .iadd) (len := 1) (z := (476, [.retAddr 150, .ref 0, .ref 185, .ref 198, .int (zI i), .int (zI k), u6], [.int (zI (i + 1)), .retAddr 150, .ref 185], zW K A1 O1 t1)) (f0_0 rfl) zs_add) ?_
  refine Eq.trans (mG_st (i := .iaload) (len := 1) (z := (477, [.retAddr 150, .ref 0, .ref 185, .ref 198, .int (zI i), .int (zI k), u6], [.int (zI (zScr ar (i + 1))), .ref 185], zW K A1 O1 t1)) (f0_0 rfl) (zM_scr (by omega) hL)) ?_
  refine Eq.trans (mG_st (i := (.aload 0)) (len := 1) (z := (478, [.retAddr 150, .ref 0, .ref 185, .ref 198, .int (zI i), .int (zI k), u6], [.retAddr 150, .int (zI (zScr ar (i + 1))), .ref 185], zW K A1 O1 t1)) (f0_0 rfl) rfl) ?_
  refine Eq.trans (mG_st (i := (.iload 4)) (len := 2) (z := (480, [.retAddr 150, .ref 0, .ref 185, .ref 198, .int (zI i), .int (zI k), u6], [.int (zI i), .retAddr 150, .int (zI (zScr ar (i + 1))), .ref 185], zW K A1 O1 t1)) (f0_0 rfl) rfl) ?_
  refine Eq.trans (mG_st (i := (.iconst 2)) (len := 1) (z := (481, [.retAddr 150, .ref 0, .ref 185, .ref 198, .int (zI i), .int (zI k), u6], [.int (zI 2), .int (zI i), .retAddr 150, .int (zI (zScr ar (i + 1))), .ref 185], zW K A1 O1 t1)) (f0_0 rfl) rfl) ?_
  refine Eq.trans (mG_st (i := .iadd) (len := 1) (z := (482, [.retAddr 150, .ref 0, .ref 185, .ref 198, .int (zI i), .int (zI k), u6], [.int (zI (i + 2)), .retAddr 150, .int (zI (zScr ar (i + 1))), .ref 185], zW K A1 O1 t1)) (f0_0 rfl) zs_add) ?_
  refine Eq.trans (mG_st (i := .iaload) (len := 1) (z := (483, [.retAddr 150, .ref 0, .ref 185, .ref 198, .int (zI i), .int (zI k), u6], [.int (zI (zScr ar (i + 2))), .int (zI (zScr ar (i + 1))), .ref 185], zW K A1 O1 t1)) (f0_0 rfl) (zM_scr (by omega) hL)) ?_
  refine Eq.trans (mG_ok (i := (.invokeinterface 9 2)) (len := 3) (M' := 254) (k := 3) (v := some (.int (zI b))) (w1 := zW K A2 O1 t1) (f0_0 rfl) (mC_if sh_185 rfl rfl rfl) rfl h4) ?_
  show mGd ar (D + 2) 0 486 [.retAddr 150, .ref 0, .ref 185, .ref 198, .int (zI i), .int (zI k), u6] [.int (zI b)] (zW K A2 O1 t1) = _
  refine Eq.trans (mG_st (i := (.istore 6)) (len := 2) (z := (488, [.retAddr 150, .ref 0, .ref 185, .ref 198, .int (zI i), .int (zI k), .int (zI b)], [], zW K A2 O1 t1)) (f0_0 rfl) rfl) ?_
  refine Eq.trans (mG_st (i := (.aload 2)) (len := 1) (z := (489, [.retAddr 150, .ref 0, .ref 185, .ref 198, .int (zI i), .int (zI k), .int (zI b)], [.ref 185], zW K A2 O1 t1)) (f0_0 rfl) rfl) ?_
  refine Eq.trans (mG_ok (i := (.invokeinterface 5 0)) (len := 3) (M' := 215) (k := 1) (v := some (.int (zI (A2 185 0)))) (w1 := zW K A2 O1 t1) (f0_0 rfl) (mC_if sh_185 rfl rfl rfl) rfl i215_0) ?_
  rw [h5]
  show mGd ar (D + 2) 0 492 [.retAddr 150, .ref 0, .ref 185, .ref 198, .int (zI i), .int (zI k), .int (zI b)] [.int (zI k)] (zW K A2 O1 t1) = _
  refine Eq.trans (mG_st (i := (.iload 5)) (len := 2) (z := (494, [.retAddr 150, .ref 0, .ref 185, .ref 198, .int (zI i), .int (zI k), .int (zI b)], [.int (zI k), .int (zI k)], zW K A2 O1 t1)) (f0_0 rfl) rfl) ?_
  refine Eq.trans (mG_st (i := (.if_icmp .eq 5)) (len := 3) (z := (if k = k then 499 else 497, [.retAddr 150, .ref 0, .ref 185, .ref 198, .int (zI i), .int (zI k), .int (zI b)], [], zW K A2 O1 t1)) (f0_0 rfl) (zs_ic_eq (by omega) (by omega))) ?_
  rw [if_pos rfl]
  show mGd ar (D + 2) 0 499 [.retAddr 150, .ref 0, .ref 185, .ref 198, .int (zI i), .int (zI k), .int (zI b)] [] (zW K A2 O1 t1) = _
  refine Eq.trans (mG_st (i := (.iload 5)) (len := 2) (z := (501, [.retAddr 150, .ref 0, .ref 185, .ref 198, .int (zI i), .int (zI k), .int (zI b)], [.int (zI k)], zW K A2 O1 t1)) (f0_0 rfl) rfl) ?_
  refine Eq.trans (mG_st (i := (.ifCond .ne 15)) (len := 3) (z := (if k = 0 then 504 else 516, [.retAddr 150, .ref 0, .ref 185, .ref 198, .int (zI i), .int (zI k), .int (zI b)], [], zW K A2 O1 t1)) (f0_0 rfl) (zs_if_ne (by omega))) ?_
  have fin : mGd ar (D + 2) 0 516 [.retAddr 150, .ref 0, .ref 185, .ref 198, .int (zI i), .int (zI k), .int (zI b)] [] (zW K A2 O1 t1) = mGd ar (D + 2) 0 3037 [.retAddr 150, .ref 0, .ref 185, .ref 198, .int (zI i), .int (zI k), .int (zI b)] [] (zW K A2 O1 t1) :=
    mG_st (i := (.goto 2521)) (len := 3) (z := (3037, [.retAddr 150, .ref 0, .ref 185, .ref 198, .int (zI i), .int (zI k), .int (zI b)], [], zW K A2 O1 t1)) (f0_1 (show 516 ≤ 516 by decide) rfl) rfl
  by_cases k0 : k = 0
  · rw [if_pos k0]
    obtain ⟨h8, h9⟩ := h7 k0
    show mGd ar (D + 2) 0 504 [.retAddr 150, .ref 0, .ref 185, .ref 198, .int (zI i), .int (zI k), .int (zI b)] [] (zW K A2 O1 t1) = _
    refine Eq.trans (mG_st (i := (.aload 3)) (len := 1) (z := (505, [.retAddr 150, .ref 0, .ref 185, .ref 198, .int (zI i), .int (zI k), .int (zI b)], [.ref 198], zW K A2 O1 t1)) (f0_0 rfl) rfl) ?_
    refine Eq.trans (mG_st (i := (.iconst 0)) (len := 1) (z := (506, [.retAddr 150, .ref 0, .ref 185, .ref 198, .int (zI i), .int (zI k), .int (zI b)], [.int (zI 0), .ref 198], zW K A2 O1 t1)) (f0_0 rfl) rfl) ?_
    refine Eq.trans (mG_st (i := .laload) (len := 1) (z := (507, [.retAddr 150, .ref 0, .ref 185, .ref 198, .int (zI i), .int (zI k), .int (zI b)], [.long (O1 0)], zW K A2 O1 t1)) (f0_0 rfl) zM_lald) ?_
    refine Eq.trans (mG_st (i := (.iload 6)) (len := 2) (z := (509, [.retAddr 150, .ref 0, .ref 185, .ref 198, .int (zI i), .int (zI k), .int (zI b)], [.int (zI b), .long (O1 0)], zW K A2 O1 t1)) (f0_0 rfl) rfl) ?_
    refine Eq.trans (mG_st (i := .i2l) (len := 1) (z := (510, [.retAddr 150, .ref 0, .ref 185, .ref 198, .int (zI i), .int (zI k), .int (zI b)], [.long ((zI b).toInt64), .long (O1 0)], zW K A2 O1 t1)) (f0_0 rfl) rfl) ?_
    show mGd ar (D + 2) 0 510 [.retAddr 150, .ref 0, .ref 185, .ref 198, .int (zI i), .int (zI k), .int (zI b)] [.long ((zI b).toInt64), .long (O1 0)] (zW K A2 O1 t1) = _
    refine Eq.trans (mG_st (i := .lcmp) (len := 1) (z := (511, [.retAddr 150, .ref 0, .ref 185, .ref 198, .int (zI i), .int (zI k), .int (zI b)], [.int (lg_cmp (O1 0) ((zI b).toInt64))], zW K A2 O1 t1)) (f0_0 rfl) rfl) ?_
    rw [show O1 0 = (zI b).toInt64 from h8, lg_same]
    exact Eq.trans (mG_st (i := (.ifCond .eq 5)) (len := 3) (z := (516, [.retAddr 150, .ref 0, .ref 185, .ref 198, .int (zI i), .int (zI k), .int (zI b)], [], zW K A2 O1 t1)) (f0_0 rfl) rfl) fin
  · rw [if_neg k0]; exact fin
set_option maxRecDepth 20000 in
theorem cs_person {i : Int} {u5 u6 : Value} (hL : (ar 150).1 ≤ 3072) (hi : 0 ≤ i ∧ i + 6 ≤ ((ar 150).1 : Int)) (hq : zWr ar K O t (D + 1) 108 [.ref 0, .int (zI (zScr ar (i + 1))), .int (zI (zScr ar (i + 2))), .ref 198, .double 0] 259 [.ref 185, .int (zI (zScr ar (i + 1))), .int (zI (zScr ar (i + 2)))] (fun b => (zI b).toInt64) A) : zNext ar K D i u5 u6 A O t 519 := by
  obtain ⟨k, A1, O1, t1, h1, h2, h3, b, A2, h4, h5, h6, h7⟩ := hq
  refine ⟨A2, O1, t1, .int (zI k), .int (zI b), h2, h6, ?_⟩
  refine Eq.trans (mG_st (i := (.aload 1)) (len := 1) (z := (520, [.retAddr 150, .ref 0, .ref 185, .ref 198, .int (zI i), u5, u6], [.ref 0], zW K A O t)) (f0_1 (show 516 ≤ 519 by decide) rfl) rfl) ?_
  refine Eq.trans (mG_st (i := (.aload 0)) (len := 1) (z := (521, [.retAddr 150, .ref 0, .ref 185, .ref 198, .int (zI i), u5, u6], [.retAddr 150, .ref 0], zW K A O t)) (f0_1 (show 516 ≤ 520 by decide) rfl) rfl) ?_
  refine Eq.trans (mG_st (i := (.iload 4)) (len := 2) (z := (523, [.retAddr 150, .ref 0, .ref 185, .ref 198, .int (zI i), u5, u6], [.int (zI i), .retAddr 150, .ref 0], zW K A O t)) (f0_1 (show 516 ≤ 521 by decide) rfl) rfl) ?_
  refine Eq.trans (mG_st (i := (.iconst 1)) (len := 1) (z := (524, [.retAddr 150, .ref 0, .ref 185, .ref 198, .int (zI i), u5, u6], [.int (zI 1), .int (zI i), .retAddr 150, .ref 0], zW K A O t)) (f0_1 (show 516 ≤ 523 by decide) rfl) rfl) ?_
  refine Eq.trans (mG_st (i := .iadd) (len := 1) (z := (525, [.retAddr 150, .ref 0, .ref 185, .ref 198, .int (zI i), u5, u6], [.int (zI (i + 1)), .retAddr 150, .ref 0], zW K A O t)) (f0_1 (show 516 ≤ 524 by decide) rfl) zs_add) ?_
  refine Eq.trans (mG_st (i := .iaload) (len := 1) (z := (526, [.retAddr 150, .ref 0, .ref 185, .ref 198, .int (zI i), u5, u6], [.int (zI (zScr ar (i + 1))), .ref 0], zW K A O t)) (f0_1 (show 516 ≤ 525 by decide) rfl) (zM_scr (by omega) hL)) ?_
  refine Eq.trans (mG_st (i := (.aload 0)) (len := 1) (z := (527, [.retAddr 150, .ref 0, .ref 185, .ref 198, .int (zI i), u5, u6], [.retAddr 150, .int (zI (zScr ar (i + 1))), .ref 0], zW K A O t)) (f0_1 (show 516 ≤ 526 by decide) rfl) rfl) ?_
  refine Eq.trans (mG_st (i := (.iload 4)) (len := 2) (z := (529, [.retAddr 150, .ref 0, .ref 185, .ref 198, .int (zI i), u5, u6], [.int (zI i), .retAddr 150, .int (zI (zScr ar (i + 1))), .ref 0], zW K A O t)) (f0_1 (show 516 ≤ 527 by decide) rfl) rfl) ?_
  refine Eq.trans (mG_st (i := (.iconst 2)) (len := 1) (z := (530, [.retAddr 150, .ref 0, .ref 185, .ref 198, .int (zI i), u5, u6], [.int (zI 2), .int (zI i), .retAddr 150, .int (zI (zScr ar (i + 1))), .ref 0], zW K A O t)) (f0_1 (show 516 ≤ 529 by decide) rfl) rfl) ?_
  refine Eq.trans (mG_st (i := .iadd) (len := 1) (z := (531, [.retAddr 150, .ref 0, .ref 185, .ref 198, .int (zI i), u5, u6], [.int (zI (i + 2)), .retAddr 150, .int (zI (zScr ar (i + 1))), .ref 0], zW K A O t)) (f0_1 (show 516 ≤ 530 by decide) rfl) zs_add) ?_
  refine Eq.trans (mG_st (i := .iaload) (len := 1) (z := (532, [.retAddr 150, .ref 0, .ref 185, .ref 198, .int (zI i), u5, u6], [.int (zI (zScr ar (i + 2))), .int (zI (zScr ar (i + 1))), .ref 0], zW K A O t)) (f0_1 (show 516 ≤ 531 by decide) rfl) (zM_scr (by omega) hL)) ?_
  refine Eq.trans (mG_st (i := (.aload 3)) (len := 1) (z := (533, [.retAddr 150, .ref 0, .ref 185, .ref 198, .int (zI i), u5, u6], [.ref 198, .int (zI (zScr ar (i + 2))), .int (zI (zScr ar (i + 1))), .ref 0], zW K A O t)) (f0_1 (show 516 ≤ 532 by decide) rfl) rfl) ?_
  refine Eq.trans (mG_ok (i := (.invokestatic 108)) (len := 3) (M' := 108) (k := 4) (v := some (.int (zI k))) (w1 := zW K A1 O1 t1) (f0_1 (show 516 ≤ 533 by decide) rfl) rfl rfl h1) ?_
  show mGd ar (D + 2) 0 536 [.retAddr 150, .ref 0, .ref 185, .ref 198, .int (zI i), u5, u6] [.int (zI k)] (zW K A1 O1 t1) = _
  refine Eq.trans (mG_st (i := (.istore 5)) (len := 2) (z := (538, [.retAddr 150, .ref 0, .ref 185, .ref 198, .int (zI i), .int (zI k), u6], [], zW K A1 O1 t1)) (f0_1 (show 516 ≤ 536 by decide) rfl) rfl) ?_
  refine Eq.trans (mG_st (i := (.aload 2)) (len := 1) (z := (539, [.retAddr 150, .ref 0, .ref 185, .ref 198, .int (zI i), .int (zI k), u6], [.ref 185], zW K A1 O1 t1)) (f0_1 (show 516 ≤ 538 by decide) rfl) rfl) ?_
  refine Eq.trans (mG_st (i := (.aload 0)) (len := 1) (z := (540, [.retAddr 150, .ref 0, .ref 185, .ref 198, .int (zI i), .int (zI k), u6], [.retAddr 150, .ref 185], zW K A1 O1 t1)) (f0_1 (show 516 ≤ 539 by decide) rfl) rfl) ?_
  refine Eq.trans (mG_st (i := (.iload 4)) (len := 2) (z := (542, [.retAddr 150, .ref 0, .ref 185, .ref 198, .int (zI i), .int (zI k), u6], [.int (zI i), .retAddr 150, .ref 185], zW K A1 O1 t1)) (f0_1 (show 516 ≤ 540 by decide) rfl) rfl) ?_
  refine Eq.trans (mG_st (i := (.iconst 1)) (len := 1) (z := (543, [.retAddr 150, .ref 0, .ref 185, .ref 198, .int (zI i), .int (zI k), u6], [.int (zI 1), .int (zI i), .retAddr 150, .ref 185], zW K A1 O1 t1)) (f0_1 (show 516 ≤ 542 by decide) rfl) rfl) ?_
  refine Eq.trans (mG_st (i := .iadd) (len := 1) (z := (544, [.retAddr 150, .ref 0, .ref 185, .ref 198, .int (zI i), .int (zI k), u6], [.int (zI (i + 1)), .retAddr 150, .ref 185], zW K A1 O1 t1)) (f0_1 (show 516 ≤ 543 by decide) rfl) zs_add) ?_
  refine Eq.trans (mG_st (i := .iaload) (len := 1) (z := (545, [.retAddr 150, .ref 0, .ref 185, .ref 198, .int (zI i), .int (zI k), u6], [.int (zI (zScr ar (i + 1))), .ref 185], zW K A1 O1 t1)) (f0_1 (show 516 ≤ 544 by decide) rfl) (zM_scr (by omega) hL)) ?_
  refine Eq.trans (mG_st (i := (.aload 0)) (len := 1) (z := (546, [.retAddr 150, .ref 0, .ref 185, .ref 198, .int (zI i), .int (zI k), u6], [.retAddr 150, .int (zI (zScr ar (i + 1))), .ref 185], zW K A1 O1 t1)) (f0_1 (show 516 ≤ 545 by decide) rfl) rfl) ?_
  refine Eq.trans (mG_st (i := (.iload 4)) (len := 2) (z := (548, [.retAddr 150, .ref 0, .ref 185, .ref 198, .int (zI i), .int (zI k), u6], [.int (zI i), .retAddr 150, .int (zI (zScr ar (i + 1))), .ref 185], zW K A1 O1 t1)) (f0_1 (show 516 ≤ 546 by decide) rfl) rfl) ?_
  refine Eq.trans (mG_st (i := (.iconst 2)) (len := 1) (z := (549, [.retAddr 150, .ref 0, .ref 185, .ref 198, .int (zI i), .int (zI k), u6], [.int (zI 2), .int (zI i), .retAddr 150, .int (zI (zScr ar (i + 1))), .ref 185], zW K A1 O1 t1)) (f0_1 (show 516 ≤ 548 by decide) rfl) rfl) ?_
  refine Eq.trans (mG_st (i := .iadd) (len := 1) (z := (550, [.retAddr 150, .ref 0, .ref 185, .ref 198, .int (zI i), .int (zI k), u6], [.int (zI (i + 2)), .retAddr 150, .int (zI (zScr ar (i + 1))), .ref 185], zW K A1 O1 t1)) (f0_1 (show 516 ≤ 549 by decide) rfl) zs_add) ?_
  refine Eq.trans (mG_st (i := .iaload) (len := 1) (z := (551, [.retAddr 150, .ref 0, .ref 185, .ref 198, .int (zI i), .int (zI k), u6], [.int (zI (zScr ar (i + 2))), .int (zI (zScr ar (i + 1))), .ref 185], zW K A1 O1 t1)) (f0_1 (show 516 ≤ 550 by decide) rfl) (zM_scr (by omega) hL)) ?_
  refine Eq.trans (mG_ok (i := (.invokeinterface 10 2)) (len := 3) (M' := 259) (k := 3) (v := some (.int (zI b))) (w1 := zW K A2 O1 t1) (f0_1 (show 516 ≤ 551 by decide) rfl) (mC_if sh_185 rfl rfl rfl) rfl h4) ?_
  show mGd ar (D + 2) 0 554 [.retAddr 150, .ref 0, .ref 185, .ref 198, .int (zI i), .int (zI k), u6] [.int (zI b)] (zW K A2 O1 t1) = _
  refine Eq.trans (mG_st (i := (.istore 6)) (len := 2) (z := (556, [.retAddr 150, .ref 0, .ref 185, .ref 198, .int (zI i), .int (zI k), .int (zI b)], [], zW K A2 O1 t1)) (f0_1 (show 516 ≤ 554 by decide) rfl) rfl) ?_
  refine Eq.trans (mG_st (i := (.aload 2)) (len := 1) (z := (557, [.retAddr 150, .ref 0, .ref 185, .ref 198, .int (zI i), .int (zI k), .int (zI b)], [.ref 185], zW K A2 O1 t1)) (f0_1 (show 516 ≤ 556 by decide) rfl) rfl) ?_
  refine Eq.trans (mG_ok (i := (.invokeinterface 5 0)) (len := 3) (M' := 215) (k := 1) (v := some (.int (zI (A2 185 0)))) (w1 := zW K A2 O1 t1) (f0_1 (show 516 ≤ 557 by decide) rfl) (mC_if sh_185 rfl rfl rfl) rfl i215_0) ?_
  rw [h5]
  show mGd ar (D + 2) 0 560 [.retAddr 150, .ref 0, .ref 185, .ref 198, .int (zI i), .int (zI k), .int (zI b)] [.int (zI k)] (zW K A2 O1 t1) = _
  refine Eq.trans (mG_st (i := (.iload 5)) (len := 2) (z := (562, [.retAddr 150, .ref 0, .ref 185, .ref 198, .int (zI i), .int (zI k), .int (zI b)], [.int (zI k), .int (zI k)], zW K A2 O1 t1)) (f0_1 (show 516 ≤ 560 by decide) rfl) rfl) ?_
  refine Eq.trans (mG_st (i := (.if_icmp .eq 5)) (len := 3) (z := (if k = k then 567 else 565, [.retAddr 150, .ref 0, .ref 185, .ref 198, .int (zI i), .int (zI k), .int (zI b)], [], zW K A2 O1 t1)) (f0_1 (show 516 ≤ 562 by decide) rfl) (zs_ic_eq (by omega) (by omega))) ?_
  rw [if_pos rfl]
  show mGd ar (D + 2) 0 567 [.retAddr 150, .ref 0, .ref 185, .ref 198, .int (zI i), .int (zI k), .int (zI b)] [] (zW K A2 O1 t1) = _
  refine Eq.trans (mG_st (i := (.iload 5)) (len := 2) (z := (569, [.retAddr 150, .ref 0, .ref 185, .ref 198, .int (zI i), .int (zI k), .int (zI b)], [.int (zI k)], zW K A2 O1 t1)) (f0_1 (show 516 ≤ 567 by decide) rfl) rfl) ?_
  refine Eq.trans (mG_st (i := (.ifCond .ne 15)) (len := 3) (z := (if k = 0 then 572 else 584, [.retAddr 150, .ref 0, .ref 185, .ref 198, .int (zI i), .int (zI k), .int (zI b)], [], zW K A2 O1 t1)) (f0_1 (show 516 ≤ 569 by decide) rfl) (zs_if_ne (by omega))) ?_
  have fin : mGd ar (D + 2) 0 584 [.retAddr 150, .ref 0, .ref 185, .ref 198, .int (zI i), .int (zI k), .int (zI b)] [] (zW K A2 O1 t1) = mGd ar (D + 2) 0 3037 [.retAddr 150, .ref 0, .ref 185, .ref 198, .int (zI i), .int (zI k), .int (zI b)] [] (zW K A2 O1 t1) :=
    mG_st (i := (.goto 2453)) (len := 3) (z := (3037, [.retAddr 150, .ref 0, .ref 185, .ref 198, .int (zI i), .int (zI k), .int (zI b)], [], zW K A2 O1 t1)) (f0_1 (show 516 ≤ 584 by decide) rfl) rfl
  by_cases k0 : k = 0
  · rw [if_pos k0]
    obtain ⟨h8, h9⟩ := h7 k0
    show mGd ar (D + 2) 0 572 [.retAddr 150, .ref 0, .ref 185, .ref 198, .int (zI i), .int (zI k), .int (zI b)] [] (zW K A2 O1 t1) = _
    refine Eq.trans (mG_st (i := (.aload 3)) (len := 1) (z := (573, [.retAddr 150, .ref 0, .ref 185, .ref 198, .int (zI i), .int (zI k), .int (zI b)], [.ref 198], zW K A2 O1 t1)) (f0_1 (show 516 ≤ 572 by decide) rfl) rfl) ?_
    refine Eq.trans (mG_st (i := (.iconst 0)) (len := 1) (z := (574, [.retAddr 150, .ref 0, .ref 185, .ref 198, .int (zI i), .int (zI k), .int (zI b)], [.int (zI 0), .ref 198], zW K A2 O1 t1)) (f0_1 (show 516 ≤ 573 by decide) rfl) rfl) ?_
    refine Eq.trans (mG_st (i := .laload) (len := 1) (z := (575, [.retAddr 150, .ref 0, .ref 185, .ref 198, .int (zI i), .int (zI k), .int (zI b)], [.long (O1 0)], zW K A2 O1 t1)) (f0_1 (show 516 ≤ 574 by decide) rfl) zM_lald) ?_
    refine Eq.trans (mG_st (i := (.iload 6)) (len := 2) (z := (577, [.retAddr 150, .ref 0, .ref 185, .ref 198, .int (zI i), .int (zI k), .int (zI b)], [.int (zI b), .long (O1 0)], zW K A2 O1 t1)) (f0_1 (show 516 ≤ 575 by decide) rfl) rfl) ?_
    refine Eq.trans (mG_st (i := .i2l) (len := 1) (z := (578, [.retAddr 150, .ref 0, .ref 185, .ref 198, .int (zI i), .int (zI k), .int (zI b)], [.long ((zI b).toInt64), .long (O1 0)], zW K A2 O1 t1)) (f0_1 (show 516 ≤ 577 by decide) rfl) rfl) ?_
    show mGd ar (D + 2) 0 578 [.retAddr 150, .ref 0, .ref 185, .ref 198, .int (zI i), .int (zI k), .int (zI b)] [.long ((zI b).toInt64), .long (O1 0)] (zW K A2 O1 t1) = _
    refine Eq.trans (mG_st (i := .lcmp) (len := 1) (z := (579, [.retAddr 150, .ref 0, .ref 185, .ref 198, .int (zI i), .int (zI k), .int (zI b)], [.int (lg_cmp (O1 0) ((zI b).toInt64))], zW K A2 O1 t1)) (f0_1 (show 516 ≤ 578 by decide) rfl) rfl) ?_
    rw [show O1 0 = (zI b).toInt64 from h8, lg_same]
    exact Eq.trans (mG_st (i := (.ifCond .eq 5)) (len := 3) (z := (584, [.retAddr 150, .ref 0, .ref 185, .ref 198, .int (zI i), .int (zI k), .int (zI b)], [], zW K A2 O1 t1)) (f0_1 (show 516 ≤ 579 by decide) rfl) rfl) fin
  · rw [if_neg k0]; exact fin
end CASE0
