/-! THE LAW, 2: wrappers (by program: wip/gen/gen30.py) -/
section WRAP9
variable {ar : Nat → Nat × (Nat → Int32)} {d D t : Nat} {K : Nat → Nat → Option Nat} {A : Nat → Int → Int} {O : Nat → Int64}

theorem w_stubborn_ok {x1 x2 b : Int} {A1 : Nat → Int → Int} (h : mGd ar d 125 0 [.ref 0, .int (zI x1), .int (zI x2), .double 0] [] (zW K A O t) = some (.inl (some (.int (zI b))), zW K A1 O t)) (hb : -2147483648 ≤ b ∧ b < 2147483648) : mGd ar (d + 1) 124 0 [.ref 0, .int (zI x1), .int (zI x2), .ref 198, .double 0] [] (zW K A O t) = some (.inl (some (.int (zI 0))), zW K A1 (vp_updL O 0 (zTlg b)) t) := by
  refine Eq.trans (mG_st (i := (.aload 3)) (len := 1) (z := (1, [.ref 0, .int (zI x1), .int (zI x2), .ref 198, .double 0], [.ref 198], zW K A O t)) (mF_m tb_124 rfl) rfl) ?_
  refine Eq.trans (mG_st (i := (.iconst 0)) (len := 1) (z := (2, [.ref 0, .int (zI x1), .int (zI x2), .ref 198, .double 0], [.int (zI 0), .ref 198], zW K A O t)) (mF_m tb_124 rfl) rfl) ?_
  refine Eq.trans (mG_st (i := (.aload 0)) (len := 1) (z := (3, [.ref 0, .int (zI x1), .int (zI x2), .ref 198, .double 0], [.ref 0, .int (zI 0), .ref 198], zW K A O t)) (mF_m tb_124 rfl) rfl) ?_
  refine Eq.trans (mG_st (i := (.iload 1)) (len := 1) (z := (4, [.ref 0, .int (zI x1), .int (zI x2), .ref 198, .double 0], [.int (zI x1), .ref 0, .int (zI 0), .ref 198], zW K A O t)) (mF_m tb_124 rfl) rfl) ?_
  refine Eq.trans (mG_st (i := (.iload 2)) (len := 1) (z := (5, [.ref 0, .int (zI x1), .int (zI x2), .ref 198, .double 0], [.int (zI x2), .int (zI x1), .ref 0, .int (zI 0), .ref 198], zW K A O t)) (mF_m tb_124 rfl) rfl) ?_
  refine Eq.trans (mG_ok (i := (.invokeinterface 141 2)) (len := 3) (M' := 125) (k := 3) (v := some (.int (zI b))) (w1 := zW K A1 O t) (mF_m tb_124 rfl) (mC_if sh_0 rfl rfl rfl) rfl h) ?_
  show mGd ar (d + 1) 124 8 [.ref 0, .int (zI x1), .int (zI x2), .ref 198, .double 0] [.int (zI b), .int (zI 0), .ref 198] (zW K A1 O t) = _
  refine Eq.trans (mG_lb (mF_m tb_124 rfl) (mF_m tb_124 rfl) (mF_m tb_124 rfl) (mF_m tb_124 rfl) hb) ?_
  refine Eq.trans (mG_st (i := .lastore) (len := 1) (z := (17, [.ref 0, .int (zI x1), .int (zI x2), .ref 198, .double 0], [], zW K A1 (vp_updL O 0 (zTlg b)) t)) (mF_m tb_124 rfl) zM_last) ?_
  refine Eq.trans (mG_st (i := (.goto 7)) (len := 3) (z := (24, [.ref 0, .int (zI x1), .int (zI x2), .ref 198, .double 0], [], zW K A1 (vp_updL O 0 (zTlg b)) t)) (mF_m tb_124 rfl) rfl) ?_
  refine Eq.trans (mG_st (i := (.iconst 0)) (len := 1) (z := (25, [.ref 0, .int (zI x1), .int (zI x2), .ref 198, .double 0], [.int (zI 0)], zW K A1 (vp_updL O 0 (zTlg b)) t)) (mF_m tb_124 rfl) rfl) ?_
  exact mG_ir (len := 1) (mF_m tb_124 rfl) rfl rfl
theorem w_stubborn_x2 {x1 x2 : Int} {A1 : Nat → Int → Int} (h : mGd ar d 125 0 [.ref 0, .int (zI x1), .int (zI x2), .double 0] [] (zW K A O t) = some (.inr 2, zW K A1 O (t + 1))) : mGd ar (d + 1) 124 0 [.ref 0, .int (zI x1), .int (zI x2), .ref 198, .double 0] [] (zW K A O t) = some (.inl (some (.int (zI 1))), zW K A1 O (t + 1)) := by
  refine Eq.trans (mG_st (i := (.aload 3)) (len := 1) (z := (1, [.ref 0, .int (zI x1), .int (zI x2), .ref 198, .double 0], [.ref 198], zW K A O t)) (mF_m tb_124 rfl) rfl) ?_
  refine Eq.trans (mG_st (i := (.iconst 0)) (len := 1) (z := (2, [.ref 0, .int (zI x1), .int (zI x2), .ref 198, .double 0], [.int (zI 0), .ref 198], zW K A O t)) (mF_m tb_124 rfl) rfl) ?_
  refine Eq.trans (mG_st (i := (.aload 0)) (len := 1) (z := (3, [.ref 0, .int (zI x1), .int (zI x2), .ref 198, .double 0], [.ref 0, .int (zI 0), .ref 198], zW K A O t)) (mF_m tb_124 rfl) rfl) ?_
  refine Eq.trans (mG_st (i := (.iload 1)) (len := 1) (z := (4, [.ref 0, .int (zI x1), .int (zI x2), .ref 198, .double 0], [.int (zI x1), .ref 0, .int (zI 0), .ref 198], zW K A O t)) (mF_m tb_124 rfl) rfl) ?_
  refine Eq.trans (mG_st (i := (.iload 2)) (len := 1) (z := (5, [.ref 0, .int (zI x1), .int (zI x2), .ref 198, .double 0], [.int (zI x2), .int (zI x1), .ref 0, .int (zI 0), .ref 198], zW K A O t)) (mF_m tb_124 rfl) rfl) ?_
  refine Eq.trans (mG_in (i := (.invokeinterface 141 2)) (len := 3) (M' := 125) (k := 3) (x := 2) (pc' := 22) (j := 4) (w1 := zW K A1 O (t + 1)) (mF_m tb_124 rfl) (mC_if sh_0 rfl rfl rfl) rfl h rfl (show mHd 124 5 2 = some (22, 4) by decide +kernel) (show 4 < 5 by decide)) ?_
  show mGd ar (d + 1) 124 22 [.ref 0, .int (zI x1), .int (zI x2), .ref 198, .double 0] [] (zW K A1 O (t + 1)) = _
  refine Eq.trans (mG_st (i := (.iconst 1)) (len := 1) (z := (23, [.ref 0, .int (zI x1), .int (zI x2), .ref 198, .double 0], [.int (zI 1)], zW K A1 O (t + 1))) (mF_m tb_124 rfl) rfl) ?_
  exact mG_ir (len := 1) (mF_m tb_124 rfl) rfl rfl
theorem W_stubborn {x1 x2 : Int} (hq : zQ ar K O t d 125 [.ref 0, .int (zI x1), .int (zI x2), .double 0] 281 [.ref 185, .int (zI x1), .int (zI x2), .double 0] (fun E => if E = 2 then 1 else 0) A) : zWr ar K O t (d + 1) 124 [.ref 0, .int (zI x1), .int (zI x2), .ref 198, .double 0] 281 [.ref 185, .int (zI x1), .int (zI x2), .double 0] (zTlg) A := by
  obtain ⟨A1, ⟨b, h1, h2, h3⟩ | ⟨E, h1, h2, h3⟩⟩ := hq
  · obtain ⟨A2, y1, y2, y3⟩ := h3 (vp_updL O 0 (zTlg b)) t
    exact ⟨0, A1, _, t, w_stubborn_ok h1 h2, by omega, by omega, b, A2, mGd_dp1 y1, y2, y3, fun _ => ⟨rfl, h2⟩⟩
  · obtain ⟨b, A2, y1, y2, y3⟩ := h3 O (t + 1)
    by_cases e2 : E = 2
    · subst e2
      exact ⟨1, A1, O, t + 1, w_stubborn_x2 h1, by omega, by omega, b, A2, mGd_dp1 y1, y2, y3, fun q => by omega⟩
    · exfalso
      simp only [e2, if_false] at h2
      omega
theorem w_leave_ok {x1 b : Int} {A1 : Nat → Int → Int} (h : mGd ar d 127 0 [.ref 0, .int (zI x1)] [] (zW K A O t) = some (.inl (some (.int (zI b))), zW K A1 O t)) : mGd ar (d + 1) 126 0 [.ref 0, .int (zI x1), .ref 198, .double 0] [] (zW K A O t) = some (.inl (some (.int (zI 0))), zW K A1 (vp_updL O 0 ((zI b).toInt64)) t) := by
  refine Eq.trans (mG_st (i := (.aload 2)) (len := 1) (z := (1, [.ref 0, .int (zI x1), .ref 198, .double 0], [.ref 198], zW K A O t)) (mF_m tb_126 rfl) rfl) ?_
  refine Eq.trans (mG_st (i := (.iconst 0)) (len := 1) (z := (2, [.ref 0, .int (zI x1), .ref 198, .double 0], [.int (zI 0), .ref 198], zW K A O t)) (mF_m tb_126 rfl) rfl) ?_
  refine Eq.trans (mG_st (i := (.aload 0)) (len := 1) (z := (3, [.ref 0, .int (zI x1), .ref 198, .double 0], [.ref 0, .int (zI 0), .ref 198], zW K A O t)) (mF_m tb_126 rfl) rfl) ?_
  refine Eq.trans (mG_st (i := (.iload 1)) (len := 1) (z := (4, [.ref 0, .int (zI x1), .ref 198, .double 0], [.int (zI x1), .ref 0, .int (zI 0), .ref 198], zW K A O t)) (mF_m tb_126 rfl) rfl) ?_
  refine Eq.trans (mG_ok (i := (.invokeinterface 142 1)) (len := 3) (M' := 127) (k := 2) (v := some (.int (zI b))) (w1 := zW K A1 O t) (mF_m tb_126 rfl) (mC_if sh_0 rfl rfl rfl) rfl h) ?_
  show mGd ar (d + 1) 126 7 [.ref 0, .int (zI x1), .ref 198, .double 0] [.int (zI b), .int (zI 0), .ref 198] (zW K A1 O t) = _
  refine Eq.trans (mG_st (i := .i2l) (len := 1) (z := (8, [.ref 0, .int (zI x1), .ref 198, .double 0], [.long ((zI b).toInt64), .int (zI 0), .ref 198], zW K A1 O t)) (mF_m tb_126 rfl) rfl) ?_
  refine Eq.trans (mG_st (i := .lastore) (len := 1) (z := (9, [.ref 0, .int (zI x1), .ref 198, .double 0], [], zW K A1 (vp_updL O 0 ((zI b).toInt64)) t)) (mF_m tb_126 rfl) zM_last) ?_
  refine Eq.trans (mG_st (i := (.goto 6)) (len := 3) (z := (15, [.ref 0, .int (zI x1), .ref 198, .double 0], [], zW K A1 (vp_updL O 0 ((zI b).toInt64)) t)) (mF_m tb_126 rfl) rfl) ?_
  refine Eq.trans (mG_st (i := (.iconst 0)) (len := 1) (z := (16, [.ref 0, .int (zI x1), .ref 198, .double 0], [.int (zI 0)], zW K A1 (vp_updL O 0 ((zI b).toInt64)) t)) (mF_m tb_126 rfl) rfl) ?_
  exact mG_ir (len := 1) (mF_m tb_126 rfl) rfl rfl
theorem w_leave_x2 {x1 : Int} {A1 : Nat → Int → Int} (h : mGd ar d 127 0 [.ref 0, .int (zI x1)] [] (zW K A O t) = some (.inr 2, zW K A1 O (t + 1))) : mGd ar (d + 1) 126 0 [.ref 0, .int (zI x1), .ref 198, .double 0] [] (zW K A O t) = some (.inl (some (.int (zI 1))), zW K A1 O (t + 1)) := by
  refine Eq.trans (mG_st (i := (.aload 2)) (len := 1) (z := (1, [.ref 0, .int (zI x1), .ref 198, .double 0], [.ref 198], zW K A O t)) (mF_m tb_126 rfl) rfl) ?_
  refine Eq.trans (mG_st (i := (.iconst 0)) (len := 1) (z := (2, [.ref 0, .int (zI x1), .ref 198, .double 0], [.int (zI 0), .ref 198], zW K A O t)) (mF_m tb_126 rfl) rfl) ?_
  refine Eq.trans (mG_st (i := (.aload 0)) (len := 1) (z := (3, [.ref 0, .int (zI x1), .ref 198, .double 0], [.ref 0, .int (zI 0), .ref 198], zW K A O t)) (mF_m tb_126 rfl) rfl) ?_
  refine Eq.trans (mG_st (i := (.iload 1)) (len := 1) (z := (4, [.ref 0, .int (zI x1), .ref 198, .double 0], [.int (zI x1), .ref 0, .int (zI 0), .ref 198], zW K A O t)) (mF_m tb_126 rfl) rfl) ?_
  refine Eq.trans (mG_in (i := (.invokeinterface 142 1)) (len := 3) (M' := 127) (k := 2) (x := 2) (pc' := 13) (j := 3) (w1 := zW K A1 O (t + 1)) (mF_m tb_126 rfl) (mC_if sh_0 rfl rfl rfl) rfl h rfl (show mHd 126 4 2 = some (13, 3) by decide +kernel) (show 3 < 4 by decide)) ?_
  show mGd ar (d + 1) 126 13 [.ref 0, .int (zI x1), .ref 198, .double 0] [] (zW K A1 O (t + 1)) = _
  refine Eq.trans (mG_st (i := (.iconst 1)) (len := 1) (z := (14, [.ref 0, .int (zI x1), .ref 198, .double 0], [.int (zI 1)], zW K A1 O (t + 1))) (mF_m tb_126 rfl) rfl) ?_
  exact mG_ir (len := 1) (mF_m tb_126 rfl) rfl rfl
theorem W_leave {x1 : Int} (hq : zQ ar K O t d 127 [.ref 0, .int (zI x1)] 282 [.ref 185, .int (zI x1), .double 0] (fun E => if E = 2 then 1 else 0) A) : zWr ar K O t (d + 1) 126 [.ref 0, .int (zI x1), .ref 198, .double 0] 282 [.ref 185, .int (zI x1), .double 0] (fun b => (zI b).toInt64) A := by
  obtain ⟨A1, ⟨b, h1, h2, h3⟩ | ⟨E, h1, h2, h3⟩⟩ := hq
  · obtain ⟨A2, y1, y2, y3⟩ := h3 (vp_updL O 0 ((zI b).toInt64)) t
    exact ⟨0, A1, _, t, w_leave_ok h1, by omega, by omega, b, A2, mGd_dp1 y1, y2, y3, fun _ => ⟨rfl, h2⟩⟩
  · obtain ⟨b, A2, y1, y2, y3⟩ := h3 O (t + 1)
    by_cases e2 : E = 2
    · subst e2
      exact ⟨1, A1, O, t + 1, w_leave_x2 h1, by omega, by omega, b, A2, mGd_dp1 y1, y2, y3, fun q => by omega⟩
    · exfalso
      simp only [e2, if_false] at h2
      omega
theorem w_days_ok {x1 b : Int} {A1 : Nat → Int → Int} (h : mGd ar d 130 0 [.ref 0, .int (zI x1), .double 0, .double 0] [] (zW K A O t) = some (.inl (some (.int (zI b))), zW K A1 O t)) : mGd ar (d + 1) 129 0 [.ref 0, .int (zI x1), .ref 198, .double 0] [] (zW K A O t) = some (.inl (some (.int (zI 0))), zW K A1 (vp_updL O 0 ((zI b).toInt64)) t) := by
  refine Eq.trans (mG_st (i := (.aload 2)) (len := 1) (z := (1, [.ref 0, .int (zI x1), .ref 198, .double 0], [.ref 198], zW K A O t)) (mF_m tb_129 rfl) rfl) ?_
  refine Eq.trans (mG_st (i := (.iconst 0)) (len := 1) (z := (2, [.ref 0, .int (zI x1), .ref 198, .double 0], [.int (zI 0), .ref 198], zW K A O t)) (mF_m tb_129 rfl) rfl) ?_
  refine Eq.trans (mG_st (i := (.aload 0)) (len := 1) (z := (3, [.ref 0, .int (zI x1), .ref 198, .double 0], [.ref 0, .int (zI 0), .ref 198], zW K A O t)) (mF_m tb_129 rfl) rfl) ?_
  refine Eq.trans (mG_st (i := (.iload 1)) (len := 1) (z := (4, [.ref 0, .int (zI x1), .ref 198, .double 0], [.int (zI x1), .ref 0, .int (zI 0), .ref 198], zW K A O t)) (mF_m tb_129 rfl) rfl) ?_
  refine Eq.trans (mG_ok (i := (.invokeinterface 144 1)) (len := 3) (M' := 130) (k := 2) (v := some (.int (zI b))) (w1 := zW K A1 O t) (mF_m tb_129 rfl) (mC_if sh_0 rfl rfl rfl) rfl h) ?_
  show mGd ar (d + 1) 129 7 [.ref 0, .int (zI x1), .ref 198, .double 0] [.int (zI b), .int (zI 0), .ref 198] (zW K A1 O t) = _
  refine Eq.trans (mG_st (i := .i2l) (len := 1) (z := (8, [.ref 0, .int (zI x1), .ref 198, .double 0], [.long ((zI b).toInt64), .int (zI 0), .ref 198], zW K A1 O t)) (mF_m tb_129 rfl) rfl) ?_
  refine Eq.trans (mG_st (i := .lastore) (len := 1) (z := (9, [.ref 0, .int (zI x1), .ref 198, .double 0], [], zW K A1 (vp_updL O 0 ((zI b).toInt64)) t)) (mF_m tb_129 rfl) zM_last) ?_
  refine Eq.trans (mG_st (i := (.goto 6)) (len := 3) (z := (15, [.ref 0, .int (zI x1), .ref 198, .double 0], [], zW K A1 (vp_updL O 0 ((zI b).toInt64)) t)) (mF_m tb_129 rfl) rfl) ?_
  refine Eq.trans (mG_st (i := (.iconst 0)) (len := 1) (z := (16, [.ref 0, .int (zI x1), .ref 198, .double 0], [.int (zI 0)], zW K A1 (vp_updL O 0 ((zI b).toInt64)) t)) (mF_m tb_129 rfl) rfl) ?_
  exact mG_ir (len := 1) (mF_m tb_129 rfl) rfl rfl
theorem w_days_x0 {x1 : Int} {A1 : Nat → Int → Int} (h : mGd ar d 130 0 [.ref 0, .int (zI x1), .double 0, .double 0] [] (zW K A O t) = some (.inr 0, zW K A1 O (t + 1))) : mGd ar (d + 1) 129 0 [.ref 0, .int (zI x1), .ref 198, .double 0] [] (zW K A O t) = some (.inl (some (.int (zI 1))), zW K A1 O (t + 1)) := by
  refine Eq.trans (mG_st (i := (.aload 2)) (len := 1) (z := (1, [.ref 0, .int (zI x1), .ref 198, .double 0], [.ref 198], zW K A O t)) (mF_m tb_129 rfl) rfl) ?_
  refine Eq.trans (mG_st (i := (.iconst 0)) (len := 1) (z := (2, [.ref 0, .int (zI x1), .ref 198, .double 0], [.int (zI 0), .ref 198], zW K A O t)) (mF_m tb_129 rfl) rfl) ?_
  refine Eq.trans (mG_st (i := (.aload 0)) (len := 1) (z := (3, [.ref 0, .int (zI x1), .ref 198, .double 0], [.ref 0, .int (zI 0), .ref 198], zW K A O t)) (mF_m tb_129 rfl) rfl) ?_
  refine Eq.trans (mG_st (i := (.iload 1)) (len := 1) (z := (4, [.ref 0, .int (zI x1), .ref 198, .double 0], [.int (zI x1), .ref 0, .int (zI 0), .ref 198], zW K A O t)) (mF_m tb_129 rfl) rfl) ?_
  refine Eq.trans (mG_in (i := (.invokeinterface 144 1)) (len := 3) (M' := 130) (k := 2) (x := 0) (pc' := 13) (j := 3) (w1 := zW K A1 O (t + 1)) (mF_m tb_129 rfl) (mC_if sh_0 rfl rfl rfl) rfl h rfl (show mHd 129 4 0 = some (13, 3) by decide +kernel) (show 3 < 4 by decide)) ?_
  show mGd ar (d + 1) 129 13 [.ref 0, .int (zI x1), .ref 198, .double 0] [] (zW K A1 O (t + 1)) = _
  refine Eq.trans (mG_st (i := (.iconst 1)) (len := 1) (z := (14, [.ref 0, .int (zI x1), .ref 198, .double 0], [.int (zI 1)], zW K A1 O (t + 1))) (mF_m tb_129 rfl) rfl) ?_
  exact mG_ir (len := 1) (mF_m tb_129 rfl) rfl rfl
theorem W_days {x1 : Int} (hq : zQ ar K O t d 130 [.ref 0, .int (zI x1), .double 0, .double 0] 283 [.ref 185, .int (zI x1), .double 0, .double 0] (fun E => if E = 0 then 1 else 0) A) : zWr ar K O t (d + 1) 129 [.ref 0, .int (zI x1), .ref 198, .double 0] 283 [.ref 185, .int (zI x1), .double 0, .double 0] (fun b => (zI b).toInt64) A := by
  obtain ⟨A1, ⟨b, h1, h2, h3⟩ | ⟨E, h1, h2, h3⟩⟩ := hq
  · obtain ⟨A2, y1, y2, y3⟩ := h3 (vp_updL O 0 ((zI b).toInt64)) t
    exact ⟨0, A1, _, t, w_days_ok h1, by omega, by omega, b, A2, mGd_dp1 y1, y2, y3, fun _ => ⟨rfl, h2⟩⟩
  · obtain ⟨b, A2, y1, y2, y3⟩ := h3 O (t + 1)
    by_cases e0 : E = 0
    · subst e0
      exact ⟨1, A1, O, t + 1, w_days_x0 h1, by omega, by omega, b, A2, mGd_dp1 y1, y2, y3, fun q => by omega⟩
    · exfalso
      simp only [e0, if_false] at h2
      omega
theorem w_ahead_ok {x1 x2 x3 b : Int} {A1 : Nat → Int → Int} (h : mGd ar d 134 0 [.ref 0, .int (zI x1), .int (zI x2), .int (zI x3)] [] (zW K A O t) = some (.inl (some (.int (zI b))), zW K A1 O t)) : mGd ar (d + 1) 133 0 [.ref 0, .int (zI x1), .int (zI x2), .int (zI x3), .ref 198, .double 0] [] (zW K A O t) = some (.inl (some (.int (zI 0))), zW K A1 (vp_updL O 0 ((zI b).toInt64)) t) := by
  refine Eq.trans (mG_st (i := (.aload 4)) (len := 2) (z := (2, [.ref 0, .int (zI x1), .int (zI x2), .int (zI x3), .ref 198, .double 0], [.ref 198], zW K A O t)) (mF_m tb_133 rfl) rfl) ?_
  refine Eq.trans (mG_st (i := (.iconst 0)) (len := 1) (z := (3, [.ref 0, .int (zI x1), .int (zI x2), .int (zI x3), .ref 198, .double 0], [.int (zI 0), .ref 198], zW K A O t)) (mF_m tb_133 rfl) rfl) ?_
  refine Eq.trans (mG_st (i := (.aload 0)) (len := 1) (z := (4, [.ref 0, .int (zI x1), .int (zI x2), .int (zI x3), .ref 198, .double 0], [.ref 0, .int (zI 0), .ref 198], zW K A O t)) (mF_m tb_133 rfl) rfl) ?_
  refine Eq.trans (mG_st (i := (.iload 1)) (len := 1) (z := (5, [.ref 0, .int (zI x1), .int (zI x2), .int (zI x3), .ref 198, .double 0], [.int (zI x1), .ref 0, .int (zI 0), .ref 198], zW K A O t)) (mF_m tb_133 rfl) rfl) ?_
  refine Eq.trans (mG_st (i := (.iload 2)) (len := 1) (z := (6, [.ref 0, .int (zI x1), .int (zI x2), .int (zI x3), .ref 198, .double 0], [.int (zI x2), .int (zI x1), .ref 0, .int (zI 0), .ref 198], zW K A O t)) (mF_m tb_133 rfl) rfl) ?_
  refine Eq.trans (mG_st (i := (.iload 3)) (len := 1) (z := (7, [.ref 0, .int (zI x1), .int (zI x2), .int (zI x3), .ref 198, .double 0], [.int (zI x3), .int (zI x2), .int (zI x1), .ref 0, .int (zI 0), .ref 198], zW K A O t)) (mF_m tb_133 rfl) rfl) ?_
  refine Eq.trans (mG_ok (i := (.invokeinterface 147 3)) (len := 3) (M' := 134) (k := 4) (v := some (.int (zI b))) (w1 := zW K A1 O t) (mF_m tb_133 rfl) (mC_if sh_0 rfl rfl rfl) rfl h) ?_
  show mGd ar (d + 1) 133 10 [.ref 0, .int (zI x1), .int (zI x2), .int (zI x3), .ref 198, .double 0] [.int (zI b), .int (zI 0), .ref 198] (zW K A1 O t) = _
  refine Eq.trans (mG_st (i := .i2l) (len := 1) (z := (11, [.ref 0, .int (zI x1), .int (zI x2), .int (zI x3), .ref 198, .double 0], [.long ((zI b).toInt64), .int (zI 0), .ref 198], zW K A1 O t)) (mF_m tb_133 rfl) rfl) ?_
  refine Eq.trans (mG_st (i := .lastore) (len := 1) (z := (12, [.ref 0, .int (zI x1), .int (zI x2), .int (zI x3), .ref 198, .double 0], [], zW K A1 (vp_updL O 0 ((zI b).toInt64)) t)) (mF_m tb_133 rfl) zM_last) ?_
  refine Eq.trans (mG_st (i := (.goto 11)) (len := 3) (z := (23, [.ref 0, .int (zI x1), .int (zI x2), .int (zI x3), .ref 198, .double 0], [], zW K A1 (vp_updL O 0 ((zI b).toInt64)) t)) (mF_m tb_133 rfl) rfl) ?_
  refine Eq.trans (mG_st (i := (.iconst 0)) (len := 1) (z := (24, [.ref 0, .int (zI x1), .int (zI x2), .int (zI x3), .ref 198, .double 0], [.int (zI 0)], zW K A1 (vp_updL O 0 ((zI b).toInt64)) t)) (mF_m tb_133 rfl) rfl) ?_
  exact mG_ir (len := 1) (mF_m tb_133 rfl) rfl rfl
theorem w_ahead_x2 {x1 x2 x3 : Int} {A1 : Nat → Int → Int} (h : mGd ar d 134 0 [.ref 0, .int (zI x1), .int (zI x2), .int (zI x3)] [] (zW K A O t) = some (.inr 2, zW K A1 O (t + 1))) : mGd ar (d + 1) 133 0 [.ref 0, .int (zI x1), .int (zI x2), .int (zI x3), .ref 198, .double 0] [] (zW K A O t) = some (.inl (some (.int (zI 1))), zW K A1 O (t + 1)) := by
  refine Eq.trans (mG_st (i := (.aload 4)) (len := 2) (z := (2, [.ref 0, .int (zI x1), .int (zI x2), .int (zI x3), .ref 198, .double 0], [.ref 198], zW K A O t)) (mF_m tb_133 rfl) rfl) ?_
  refine Eq.trans (mG_st (i := (.iconst 0)) (len := 1) (z := (3, [.ref 0, .int (zI x1), .int (zI x2), .int (zI x3), .ref 198, .double 0], [.int (zI 0), .ref 198], zW K A O t)) (mF_m tb_133 rfl) rfl) ?_
  refine Eq.trans (mG_st (i := (.aload 0)) (len := 1) (z := (4, [.ref 0, .int (zI x1), .int (zI x2), .int (zI x3), .ref 198, .double 0], [.ref 0, .int (zI 0), .ref 198], zW K A O t)) (mF_m tb_133 rfl) rfl) ?_
  refine Eq.trans (mG_st (i := (.iload 1)) (len := 1) (z := (5, [.ref 0, .int (zI x1), .int (zI x2), .int (zI x3), .ref 198, .double 0], [.int (zI x1), .ref 0, .int (zI 0), .ref 198], zW K A O t)) (mF_m tb_133 rfl) rfl) ?_
  refine Eq.trans (mG_st (i := (.iload 2)) (len := 1) (z := (6, [.ref 0, .int (zI x1), .int (zI x2), .int (zI x3), .ref 198, .double 0], [.int (zI x2), .int (zI x1), .ref 0, .int (zI 0), .ref 198], zW K A O t)) (mF_m tb_133 rfl) rfl) ?_
  refine Eq.trans (mG_st (i := (.iload 3)) (len := 1) (z := (7, [.ref 0, .int (zI x1), .int (zI x2), .int (zI x3), .ref 198, .double 0], [.int (zI x3), .int (zI x2), .int (zI x1), .ref 0, .int (zI 0), .ref 198], zW K A O t)) (mF_m tb_133 rfl) rfl) ?_
  refine Eq.trans (mG_in (i := (.invokeinterface 147 3)) (len := 3) (M' := 134) (k := 4) (x := 2) (pc' := 17) (j := 5) (w1 := zW K A1 O (t + 1)) (mF_m tb_133 rfl) (mC_if sh_0 rfl rfl rfl) rfl h rfl (show mHd 133 7 2 = some (17, 5) by decide +kernel) (show 5 < 6 by decide)) ?_
  show mGd ar (d + 1) 133 17 [.ref 0, .int (zI x1), .int (zI x2), .int (zI x3), .ref 198, .double 0] [] (zW K A1 O (t + 1)) = _
  refine Eq.trans (mG_st (i := (.iconst 1)) (len := 1) (z := (18, [.ref 0, .int (zI x1), .int (zI x2), .int (zI x3), .ref 198, .double 0], [.int (zI 1)], zW K A1 O (t + 1))) (mF_m tb_133 rfl) rfl) ?_
  exact mG_ir (len := 1) (mF_m tb_133 rfl) rfl rfl
theorem w_ahead_x0 {x1 x2 x3 : Int} {A1 : Nat → Int → Int} (h : mGd ar d 134 0 [.ref 0, .int (zI x1), .int (zI x2), .int (zI x3)] [] (zW K A O t) = some (.inr 0, zW K A1 O (t + 1))) : mGd ar (d + 1) 133 0 [.ref 0, .int (zI x1), .int (zI x2), .int (zI x3), .ref 198, .double 0] [] (zW K A O t) = some (.inl (some (.int (zI 2))), zW K A1 O (t + 1)) := by
  refine Eq.trans (mG_st (i := (.aload 4)) (len := 2) (z := (2, [.ref 0, .int (zI x1), .int (zI x2), .int (zI x3), .ref 198, .double 0], [.ref 198], zW K A O t)) (mF_m tb_133 rfl) rfl) ?_
  refine Eq.trans (mG_st (i := (.iconst 0)) (len := 1) (z := (3, [.ref 0, .int (zI x1), .int (zI x2), .int (zI x3), .ref 198, .double 0], [.int (zI 0), .ref 198], zW K A O t)) (mF_m tb_133 rfl) rfl) ?_
  refine Eq.trans (mG_st (i := (.aload 0)) (len := 1) (z := (4, [.ref 0, .int (zI x1), .int (zI x2), .int (zI x3), .ref 198, .double 0], [.ref 0, .int (zI 0), .ref 198], zW K A O t)) (mF_m tb_133 rfl) rfl) ?_
  refine Eq.trans (mG_st (i := (.iload 1)) (len := 1) (z := (5, [.ref 0, .int (zI x1), .int (zI x2), .int (zI x3), .ref 198, .double 0], [.int (zI x1), .ref 0, .int (zI 0), .ref 198], zW K A O t)) (mF_m tb_133 rfl) rfl) ?_
  refine Eq.trans (mG_st (i := (.iload 2)) (len := 1) (z := (6, [.ref 0, .int (zI x1), .int (zI x2), .int (zI x3), .ref 198, .double 0], [.int (zI x2), .int (zI x1), .ref 0, .int (zI 0), .ref 198], zW K A O t)) (mF_m tb_133 rfl) rfl) ?_
  refine Eq.trans (mG_st (i := (.iload 3)) (len := 1) (z := (7, [.ref 0, .int (zI x1), .int (zI x2), .int (zI x3), .ref 198, .double 0], [.int (zI x3), .int (zI x2), .int (zI x1), .ref 0, .int (zI 0), .ref 198], zW K A O t)) (mF_m tb_133 rfl) rfl) ?_
  refine Eq.trans (mG_in (i := (.invokeinterface 147 3)) (len := 3) (M' := 134) (k := 4) (x := 0) (pc' := 21) (j := 5) (w1 := zW K A1 O (t + 1)) (mF_m tb_133 rfl) (mC_if sh_0 rfl rfl rfl) rfl h rfl (show mHd 133 7 0 = some (21, 5) by decide +kernel) (show 5 < 6 by decide)) ?_
  show mGd ar (d + 1) 133 21 [.ref 0, .int (zI x1), .int (zI x2), .int (zI x3), .ref 198, .double 0] [] (zW K A1 O (t + 1)) = _
  refine Eq.trans (mG_st (i := (.iconst 2)) (len := 1) (z := (22, [.ref 0, .int (zI x1), .int (zI x2), .int (zI x3), .ref 198, .double 0], [.int (zI 2)], zW K A1 O (t + 1))) (mF_m tb_133 rfl) rfl) ?_
  exact mG_ir (len := 1) (mF_m tb_133 rfl) rfl rfl
theorem W_ahead {x1 x2 x3 : Int} (hq : zQ ar K O t d 134 [.ref 0, .int (zI x1), .int (zI x2), .int (zI x3)] 290 [.ref 185, .int (zI x1), .int (zI x2), .int (zI x3), .double 0] (fun E => if E = 2 then 1 else if E = 0 then 2 else 0) A) : zWr ar K O t (d + 1) 133 [.ref 0, .int (zI x1), .int (zI x2), .int (zI x3), .ref 198, .double 0] 290 [.ref 185, .int (zI x1), .int (zI x2), .int (zI x3), .double 0] (fun b => (zI b).toInt64) A := by
  obtain ⟨A1, ⟨b, h1, h2, h3⟩ | ⟨E, h1, h2, h3⟩⟩ := hq
  · obtain ⟨A2, y1, y2, y3⟩ := h3 (vp_updL O 0 ((zI b).toInt64)) t
    exact ⟨0, A1, _, t, w_ahead_ok h1, by omega, by omega, b, A2, mGd_dp1 y1, y2, y3, fun _ => ⟨rfl, h2⟩⟩
  · obtain ⟨b, A2, y1, y2, y3⟩ := h3 O (t + 1)
    by_cases e2 : E = 2
    · subst e2
      exact ⟨1, A1, O, t + 1, w_ahead_x2 h1, by omega, by omega, b, A2, mGd_dp1 y1, y2, y3, fun q => by omega⟩
    by_cases e0 : E = 0
    · subst e0
      exact ⟨2, A1, O, t + 1, w_ahead_x0 h1, by omega, by omega, b, A2, mGd_dp1 y1, y2, y3, fun q => by omega⟩
    · exfalso
      simp only [e2, e0, if_false] at h2
      omega
theorem w_fewest_ok {x1 x2 b : Int} {A1 : Nat → Int → Int} (h : mGd ar d 136 0 [.ref 0, .int (zI x1), .int (zI x2)] [] (zW K A O t) = some (.inl (some (.int (zI b))), zW K A1 O t)) : mGd ar (d + 1) 135 0 [.ref 0, .int (zI x1), .int (zI x2), .ref 198, .double 0] [] (zW K A O t) = some (.inl (some (.int (zI 0))), zW K A1 (vp_updL O 0 ((zI b).toInt64)) t) := by
  refine Eq.trans (mG_st (i := (.aload 3)) (len := 1) (z := (1, [.ref 0, .int (zI x1), .int (zI x2), .ref 198, .double 0], [.ref 198], zW K A O t)) (mF_m tb_135 rfl) rfl) ?_
  refine Eq.trans (mG_st (i := (.iconst 0)) (len := 1) (z := (2, [.ref 0, .int (zI x1), .int (zI x2), .ref 198, .double 0], [.int (zI 0), .ref 198], zW K A O t)) (mF_m tb_135 rfl) rfl) ?_
  refine Eq.trans (mG_st (i := (.aload 0)) (len := 1) (z := (3, [.ref 0, .int (zI x1), .int (zI x2), .ref 198, .double 0], [.ref 0, .int (zI 0), .ref 198], zW K A O t)) (mF_m tb_135 rfl) rfl) ?_
  refine Eq.trans (mG_st (i := (.iload 1)) (len := 1) (z := (4, [.ref 0, .int (zI x1), .int (zI x2), .ref 198, .double 0], [.int (zI x1), .ref 0, .int (zI 0), .ref 198], zW K A O t)) (mF_m tb_135 rfl) rfl) ?_
  refine Eq.trans (mG_st (i := (.iload 2)) (len := 1) (z := (5, [.ref 0, .int (zI x1), .int (zI x2), .ref 198, .double 0], [.int (zI x2), .int (zI x1), .ref 0, .int (zI 0), .ref 198], zW K A O t)) (mF_m tb_135 rfl) rfl) ?_
  refine Eq.trans (mG_ok (i := (.invokeinterface 148 2)) (len := 3) (M' := 136) (k := 3) (v := some (.int (zI b))) (w1 := zW K A1 O t) (mF_m tb_135 rfl) (mC_if sh_0 rfl rfl rfl) rfl h) ?_
  show mGd ar (d + 1) 135 8 [.ref 0, .int (zI x1), .int (zI x2), .ref 198, .double 0] [.int (zI b), .int (zI 0), .ref 198] (zW K A1 O t) = _
  refine Eq.trans (mG_st (i := .i2l) (len := 1) (z := (9, [.ref 0, .int (zI x1), .int (zI x2), .ref 198, .double 0], [.long ((zI b).toInt64), .int (zI 0), .ref 198], zW K A1 O t)) (mF_m tb_135 rfl) rfl) ?_
  refine Eq.trans (mG_st (i := .lastore) (len := 1) (z := (10, [.ref 0, .int (zI x1), .int (zI x2), .ref 198, .double 0], [], zW K A1 (vp_updL O 0 ((zI b).toInt64)) t)) (mF_m tb_135 rfl) zM_last) ?_
  refine Eq.trans (mG_st (i := (.goto 15)) (len := 3) (z := (25, [.ref 0, .int (zI x1), .int (zI x2), .ref 198, .double 0], [], zW K A1 (vp_updL O 0 ((zI b).toInt64)) t)) (mF_m tb_135 rfl) rfl) ?_
  refine Eq.trans (mG_st (i := (.iconst 0)) (len := 1) (z := (26, [.ref 0, .int (zI x1), .int (zI x2), .ref 198, .double 0], [.int (zI 0)], zW K A1 (vp_updL O 0 ((zI b).toInt64)) t)) (mF_m tb_135 rfl) rfl) ?_
  exact mG_ir (len := 1) (mF_m tb_135 rfl) rfl rfl
theorem w_fewest_x2 {x1 x2 : Int} {A1 : Nat → Int → Int} (h : mGd ar d 136 0 [.ref 0, .int (zI x1), .int (zI x2)] [] (zW K A O t) = some (.inr 2, zW K A1 O (t + 1))) : mGd ar (d + 1) 135 0 [.ref 0, .int (zI x1), .int (zI x2), .ref 198, .double 0] [] (zW K A O t) = some (.inl (some (.int (zI 1))), zW K A1 O (t + 1)) := by
  refine Eq.trans (mG_st (i := (.aload 3)) (len := 1) (z := (1, [.ref 0, .int (zI x1), .int (zI x2), .ref 198, .double 0], [.ref 198], zW K A O t)) (mF_m tb_135 rfl) rfl) ?_
  refine Eq.trans (mG_st (i := (.iconst 0)) (len := 1) (z := (2, [.ref 0, .int (zI x1), .int (zI x2), .ref 198, .double 0], [.int (zI 0), .ref 198], zW K A O t)) (mF_m tb_135 rfl) rfl) ?_
  refine Eq.trans (mG_st (i := (.aload 0)) (len := 1) (z := (3, [.ref 0, .int (zI x1), .int (zI x2), .ref 198, .double 0], [.ref 0, .int (zI 0), .ref 198], zW K A O t)) (mF_m tb_135 rfl) rfl) ?_
  refine Eq.trans (mG_st (i := (.iload 1)) (len := 1) (z := (4, [.ref 0, .int (zI x1), .int (zI x2), .ref 198, .double 0], [.int (zI x1), .ref 0, .int (zI 0), .ref 198], zW K A O t)) (mF_m tb_135 rfl) rfl) ?_
  refine Eq.trans (mG_st (i := (.iload 2)) (len := 1) (z := (5, [.ref 0, .int (zI x1), .int (zI x2), .ref 198, .double 0], [.int (zI x2), .int (zI x1), .ref 0, .int (zI 0), .ref 198], zW K A O t)) (mF_m tb_135 rfl) rfl) ?_
  refine Eq.trans (mG_in (i := (.invokeinterface 148 2)) (len := 3) (M' := 136) (k := 3) (x := 2) (pc' := 15) (j := 4) (w1 := zW K A1 O (t + 1)) (mF_m tb_135 rfl) (mC_if sh_0 rfl rfl rfl) rfl h rfl (show mHd 135 5 2 = some (15, 4) by decide +kernel) (show 4 < 5 by decide)) ?_
  show mGd ar (d + 1) 135 15 [.ref 0, .int (zI x1), .int (zI x2), .ref 198, .double 0] [] (zW K A1 O (t + 1)) = _
  refine Eq.trans (mG_st (i := (.iconst 1)) (len := 1) (z := (16, [.ref 0, .int (zI x1), .int (zI x2), .ref 198, .double 0], [.int (zI 1)], zW K A1 O (t + 1))) (mF_m tb_135 rfl) rfl) ?_
  exact mG_ir (len := 1) (mF_m tb_135 rfl) rfl rfl
theorem w_fewest_x0 {x1 x2 : Int} {A1 : Nat → Int → Int} (h : mGd ar d 136 0 [.ref 0, .int (zI x1), .int (zI x2)] [] (zW K A O t) = some (.inr 0, zW K A1 O (t + 1))) : mGd ar (d + 1) 135 0 [.ref 0, .int (zI x1), .int (zI x2), .ref 198, .double 0] [] (zW K A O t) = some (.inl (some (.int (zI 2))), zW K A1 O (t + 1)) := by
  refine Eq.trans (mG_st (i := (.aload 3)) (len := 1) (z := (1, [.ref 0, .int (zI x1), .int (zI x2), .ref 198, .double 0], [.ref 198], zW K A O t)) (mF_m tb_135 rfl) rfl) ?_
  refine Eq.trans (mG_st (i := (.iconst 0)) (len := 1) (z := (2, [.ref 0, .int (zI x1), .int (zI x2), .ref 198, .double 0], [.int (zI 0), .ref 198], zW K A O t)) (mF_m tb_135 rfl) rfl) ?_
  refine Eq.trans (mG_st (i := (.aload 0)) (len := 1) (z := (3, [.ref 0, .int (zI x1), .int (zI x2), .ref 198, .double 0], [.ref 0, .int (zI 0), .ref 198], zW K A O t)) (mF_m tb_135 rfl) rfl) ?_
  refine Eq.trans (mG_st (i := (.iload 1)) (len := 1) (z := (4, [.ref 0, .int (zI x1), .int (zI x2), .ref 198, .double 0], [.int (zI x1), .ref 0, .int (zI 0), .ref 198], zW K A O t)) (mF_m tb_135 rfl) rfl) ?_
  refine Eq.trans (mG_st (i := (.iload 2)) (len := 1) (z := (5, [.ref 0, .int (zI x1), .int (zI x2), .ref 198, .double 0], [.int (zI x2), .int (zI x1), .ref 0, .int (zI 0), .ref 198], zW K A O t)) (mF_m tb_135 rfl) rfl) ?_
  refine Eq.trans (mG_in (i := (.invokeinterface 148 2)) (len := 3) (M' := 136) (k := 3) (x := 0) (pc' := 19) (j := 4) (w1 := zW K A1 O (t + 1)) (mF_m tb_135 rfl) (mC_if sh_0 rfl rfl rfl) rfl h rfl (show mHd 135 5 0 = some (19, 4) by decide +kernel) (show 4 < 5 by decide)) ?_
  show mGd ar (d + 1) 135 19 [.ref 0, .int (zI x1), .int (zI x2), .ref 198, .double 0] [] (zW K A1 O (t + 1)) = _
  refine Eq.trans (mG_st (i := (.iconst 2)) (len := 1) (z := (20, [.ref 0, .int (zI x1), .int (zI x2), .ref 198, .double 0], [.int (zI 2)], zW K A1 O (t + 1))) (mF_m tb_135 rfl) rfl) ?_
  exact mG_ir (len := 1) (mF_m tb_135 rfl) rfl rfl
theorem w_fewest_x4 {x1 x2 : Int} {A1 : Nat → Int → Int} (h : mGd ar d 136 0 [.ref 0, .int (zI x1), .int (zI x2)] [] (zW K A O t) = some (.inr 4, zW K A1 O (t + 1))) : mGd ar (d + 1) 135 0 [.ref 0, .int (zI x1), .int (zI x2), .ref 198, .double 0] [] (zW K A O t) = some (.inl (some (.int (zI 3))), zW K A1 O (t + 1)) := by
  refine Eq.trans (mG_st (i := (.aload 3)) (len := 1) (z := (1, [.ref 0, .int (zI x1), .int (zI x2), .ref 198, .double 0], [.ref 198], zW K A O t)) (mF_m tb_135 rfl) rfl) ?_
  refine Eq.trans (mG_st (i := (.iconst 0)) (len := 1) (z := (2, [.ref 0, .int (zI x1), .int (zI x2), .ref 198, .double 0], [.int (zI 0), .ref 198], zW K A O t)) (mF_m tb_135 rfl) rfl) ?_
  refine Eq.trans (mG_st (i := (.aload 0)) (len := 1) (z := (3, [.ref 0, .int (zI x1), .int (zI x2), .ref 198, .double 0], [.ref 0, .int (zI 0), .ref 198], zW K A O t)) (mF_m tb_135 rfl) rfl) ?_
  refine Eq.trans (mG_st (i := (.iload 1)) (len := 1) (z := (4, [.ref 0, .int (zI x1), .int (zI x2), .ref 198, .double 0], [.int (zI x1), .ref 0, .int (zI 0), .ref 198], zW K A O t)) (mF_m tb_135 rfl) rfl) ?_
  refine Eq.trans (mG_st (i := (.iload 2)) (len := 1) (z := (5, [.ref 0, .int (zI x1), .int (zI x2), .ref 198, .double 0], [.int (zI x2), .int (zI x1), .ref 0, .int (zI 0), .ref 198], zW K A O t)) (mF_m tb_135 rfl) rfl) ?_
  refine Eq.trans (mG_in (i := (.invokeinterface 148 2)) (len := 3) (M' := 136) (k := 3) (x := 4) (pc' := 23) (j := 4) (w1 := zW K A1 O (t + 1)) (mF_m tb_135 rfl) (mC_if sh_0 rfl rfl rfl) rfl h rfl (show mHd 135 5 4 = some (23, 4) by decide +kernel) (show 4 < 5 by decide)) ?_
  show mGd ar (d + 1) 135 23 [.ref 0, .int (zI x1), .int (zI x2), .ref 198, .double 0] [] (zW K A1 O (t + 1)) = _
  refine Eq.trans (mG_st (i := (.iconst 3)) (len := 1) (z := (24, [.ref 0, .int (zI x1), .int (zI x2), .ref 198, .double 0], [.int (zI 3)], zW K A1 O (t + 1))) (mF_m tb_135 rfl) rfl) ?_
  exact mG_ir (len := 1) (mF_m tb_135 rfl) rfl rfl
theorem W_fewest {x1 x2 : Int} (hq : zQ ar K O t d 136 [.ref 0, .int (zI x1), .int (zI x2)] 298 [.ref 185, .int (zI x1), .int (zI x2), .double 0, .double 0] (fun E => if E = 2 then 1 else if E = 0 then 2 else if E = 4 then 3 else 0) A) : zWr ar K O t (d + 1) 135 [.ref 0, .int (zI x1), .int (zI x2), .ref 198, .double 0] 298 [.ref 185, .int (zI x1), .int (zI x2), .double 0, .double 0] (fun b => (zI b).toInt64) A := by
  obtain ⟨A1, ⟨b, h1, h2, h3⟩ | ⟨E, h1, h2, h3⟩⟩ := hq
  · obtain ⟨A2, y1, y2, y3⟩ := h3 (vp_updL O 0 ((zI b).toInt64)) t
    exact ⟨0, A1, _, t, w_fewest_ok h1, by omega, by omega, b, A2, mGd_dp1 y1, y2, y3, fun _ => ⟨rfl, h2⟩⟩
  · obtain ⟨b, A2, y1, y2, y3⟩ := h3 O (t + 1)
    by_cases e2 : E = 2
    · subst e2
      exact ⟨1, A1, O, t + 1, w_fewest_x2 h1, by omega, by omega, b, A2, mGd_dp1 y1, y2, y3, fun q => by omega⟩
    by_cases e0 : E = 0
    · subst e0
      exact ⟨2, A1, O, t + 1, w_fewest_x0 h1, by omega, by omega, b, A2, mGd_dp1 y1, y2, y3, fun q => by omega⟩
    by_cases e4 : E = 4
    · subst e4
      exact ⟨3, A1, O, t + 1, w_fewest_x4 h1, by omega, by omega, b, A2, mGd_dp1 y1, y2, y3, fun q => by omega⟩
    · exfalso
      simp only [e2, e0, e4, if_false] at h2
      omega
theorem w_rules_ok {x1 x2 b : Int} {A1 : Nat → Int → Int} (h : mGd ar d 144 0 [.ref 0, .int (zI x1), .int (zI x2), .double 0, .double 0] [] (zW K A O t) = some (.inl (some (.int (zI b))), zW K A1 O t)) : mGd ar (d + 1) 143 0 [.ref 0, .int (zI x1), .int (zI x2), .ref 198, .double 0] [] (zW K A O t) = some (.inl (some (.int (zI 0))), zW K A1 (vp_updL O 0 ((zI b).toInt64)) t) := by
  refine Eq.trans (mG_st (i := (.aload 3)) (len := 1) (z := (1, [.ref 0, .int (zI x1), .int (zI x2), .ref 198, .double 0], [.ref 198], zW K A O t)) (mF_m tb_143 rfl) rfl) ?_
  refine Eq.trans (mG_st (i := (.iconst 0)) (len := 1) (z := (2, [.ref 0, .int (zI x1), .int (zI x2), .ref 198, .double 0], [.int (zI 0), .ref 198], zW K A O t)) (mF_m tb_143 rfl) rfl) ?_
  refine Eq.trans (mG_st (i := (.aload 0)) (len := 1) (z := (3, [.ref 0, .int (zI x1), .int (zI x2), .ref 198, .double 0], [.ref 0, .int (zI 0), .ref 198], zW K A O t)) (mF_m tb_143 rfl) rfl) ?_
  refine Eq.trans (mG_st (i := (.iload 1)) (len := 1) (z := (4, [.ref 0, .int (zI x1), .int (zI x2), .ref 198, .double 0], [.int (zI x1), .ref 0, .int (zI 0), .ref 198], zW K A O t)) (mF_m tb_143 rfl) rfl) ?_
  refine Eq.trans (mG_st (i := (.iload 2)) (len := 1) (z := (5, [.ref 0, .int (zI x1), .int (zI x2), .ref 198, .double 0], [.int (zI x2), .int (zI x1), .ref 0, .int (zI 0), .ref 198], zW K A O t)) (mF_m tb_143 rfl) rfl) ?_
  refine Eq.trans (mG_ok (i := (.invokeinterface 153 2)) (len := 3) (M' := 144) (k := 3) (v := some (.int (zI b))) (w1 := zW K A1 O t) (mF_m tb_143 rfl) (mC_if sh_0 rfl rfl rfl) rfl h) ?_
  show mGd ar (d + 1) 143 8 [.ref 0, .int (zI x1), .int (zI x2), .ref 198, .double 0] [.int (zI b), .int (zI 0), .ref 198] (zW K A1 O t) = _
  refine Eq.trans (mG_st (i := .i2l) (len := 1) (z := (9, [.ref 0, .int (zI x1), .int (zI x2), .ref 198, .double 0], [.long ((zI b).toInt64), .int (zI 0), .ref 198], zW K A1 O t)) (mF_m tb_143 rfl) rfl) ?_
  refine Eq.trans (mG_st (i := .lastore) (len := 1) (z := (10, [.ref 0, .int (zI x1), .int (zI x2), .ref 198, .double 0], [], zW K A1 (vp_updL O 0 ((zI b).toInt64)) t)) (mF_m tb_143 rfl) zM_last) ?_
  refine Eq.trans (mG_st (i := (.goto 11)) (len := 3) (z := (21, [.ref 0, .int (zI x1), .int (zI x2), .ref 198, .double 0], [], zW K A1 (vp_updL O 0 ((zI b).toInt64)) t)) (mF_m tb_143 rfl) rfl) ?_
  refine Eq.trans (mG_st (i := (.iconst 0)) (len := 1) (z := (22, [.ref 0, .int (zI x1), .int (zI x2), .ref 198, .double 0], [.int (zI 0)], zW K A1 (vp_updL O 0 ((zI b).toInt64)) t)) (mF_m tb_143 rfl) rfl) ?_
  exact mG_ir (len := 1) (mF_m tb_143 rfl) rfl rfl
theorem w_rules_x2 {x1 x2 : Int} {A1 : Nat → Int → Int} (h : mGd ar d 144 0 [.ref 0, .int (zI x1), .int (zI x2), .double 0, .double 0] [] (zW K A O t) = some (.inr 2, zW K A1 O (t + 1))) : mGd ar (d + 1) 143 0 [.ref 0, .int (zI x1), .int (zI x2), .ref 198, .double 0] [] (zW K A O t) = some (.inl (some (.int (zI 1))), zW K A1 O (t + 1)) := by
  refine Eq.trans (mG_st (i := (.aload 3)) (len := 1) (z := (1, [.ref 0, .int (zI x1), .int (zI x2), .ref 198, .double 0], [.ref 198], zW K A O t)) (mF_m tb_143 rfl) rfl) ?_
  refine Eq.trans (mG_st (i := (.iconst 0)) (len := 1) (z := (2, [.ref 0, .int (zI x1), .int (zI x2), .ref 198, .double 0], [.int (zI 0), .ref 198], zW K A O t)) (mF_m tb_143 rfl) rfl) ?_
  refine Eq.trans (mG_st (i := (.aload 0)) (len := 1) (z := (3, [.ref 0, .int (zI x1), .int (zI x2), .ref 198, .double 0], [.ref 0, .int (zI 0), .ref 198], zW K A O t)) (mF_m tb_143 rfl) rfl) ?_
  refine Eq.trans (mG_st (i := (.iload 1)) (len := 1) (z := (4, [.ref 0, .int (zI x1), .int (zI x2), .ref 198, .double 0], [.int (zI x1), .ref 0, .int (zI 0), .ref 198], zW K A O t)) (mF_m tb_143 rfl) rfl) ?_
  refine Eq.trans (mG_st (i := (.iload 2)) (len := 1) (z := (5, [.ref 0, .int (zI x1), .int (zI x2), .ref 198, .double 0], [.int (zI x2), .int (zI x1), .ref 0, .int (zI 0), .ref 198], zW K A O t)) (mF_m tb_143 rfl) rfl) ?_
  refine Eq.trans (mG_in (i := (.invokeinterface 153 2)) (len := 3) (M' := 144) (k := 3) (x := 2) (pc' := 15) (j := 4) (w1 := zW K A1 O (t + 1)) (mF_m tb_143 rfl) (mC_if sh_0 rfl rfl rfl) rfl h rfl (show mHd 143 5 2 = some (15, 4) by decide +kernel) (show 4 < 5 by decide)) ?_
  show mGd ar (d + 1) 143 15 [.ref 0, .int (zI x1), .int (zI x2), .ref 198, .double 0] [] (zW K A1 O (t + 1)) = _
  refine Eq.trans (mG_st (i := (.iconst 1)) (len := 1) (z := (16, [.ref 0, .int (zI x1), .int (zI x2), .ref 198, .double 0], [.int (zI 1)], zW K A1 O (t + 1))) (mF_m tb_143 rfl) rfl) ?_
  exact mG_ir (len := 1) (mF_m tb_143 rfl) rfl rfl
theorem w_rules_x0 {x1 x2 : Int} {A1 : Nat → Int → Int} (h : mGd ar d 144 0 [.ref 0, .int (zI x1), .int (zI x2), .double 0, .double 0] [] (zW K A O t) = some (.inr 0, zW K A1 O (t + 1))) : mGd ar (d + 1) 143 0 [.ref 0, .int (zI x1), .int (zI x2), .ref 198, .double 0] [] (zW K A O t) = some (.inl (some (.int (zI 2))), zW K A1 O (t + 1)) := by
  refine Eq.trans (mG_st (i := (.aload 3)) (len := 1) (z := (1, [.ref 0, .int (zI x1), .int (zI x2), .ref 198, .double 0], [.ref 198], zW K A O t)) (mF_m tb_143 rfl) rfl) ?_
  refine Eq.trans (mG_st (i := (.iconst 0)) (len := 1) (z := (2, [.ref 0, .int (zI x1), .int (zI x2), .ref 198, .double 0], [.int (zI 0), .ref 198], zW K A O t)) (mF_m tb_143 rfl) rfl) ?_
  refine Eq.trans (mG_st (i := (.aload 0)) (len := 1) (z := (3, [.ref 0, .int (zI x1), .int (zI x2), .ref 198, .double 0], [.ref 0, .int (zI 0), .ref 198], zW K A O t)) (mF_m tb_143 rfl) rfl) ?_
  refine Eq.trans (mG_st (i := (.iload 1)) (len := 1) (z := (4, [.ref 0, .int (zI x1), .int (zI x2), .ref 198, .double 0], [.int (zI x1), .ref 0, .int (zI 0), .ref 198], zW K A O t)) (mF_m tb_143 rfl) rfl) ?_
  refine Eq.trans (mG_st (i := (.iload 2)) (len := 1) (z := (5, [.ref 0, .int (zI x1), .int (zI x2), .ref 198, .double 0], [.int (zI x2), .int (zI x1), .ref 0, .int (zI 0), .ref 198], zW K A O t)) (mF_m tb_143 rfl) rfl) ?_
  refine Eq.trans (mG_in (i := (.invokeinterface 153 2)) (len := 3) (M' := 144) (k := 3) (x := 0) (pc' := 19) (j := 4) (w1 := zW K A1 O (t + 1)) (mF_m tb_143 rfl) (mC_if sh_0 rfl rfl rfl) rfl h rfl (show mHd 143 5 0 = some (19, 4) by decide +kernel) (show 4 < 5 by decide)) ?_
  show mGd ar (d + 1) 143 19 [.ref 0, .int (zI x1), .int (zI x2), .ref 198, .double 0] [] (zW K A1 O (t + 1)) = _
  refine Eq.trans (mG_st (i := (.iconst 2)) (len := 1) (z := (20, [.ref 0, .int (zI x1), .int (zI x2), .ref 198, .double 0], [.int (zI 2)], zW K A1 O (t + 1))) (mF_m tb_143 rfl) rfl) ?_
  exact mG_ir (len := 1) (mF_m tb_143 rfl) rfl rfl
theorem W_rules {x1 x2 : Int} (hq : zQ ar K O t d 144 [.ref 0, .int (zI x1), .int (zI x2), .double 0, .double 0] 306 [.ref 185, .int (zI x1), .int (zI x2), .double 0, .double 0] (fun E => if E = 2 then 1 else if E = 0 then 2 else 0) A) : zWr ar K O t (d + 1) 143 [.ref 0, .int (zI x1), .int (zI x2), .ref 198, .double 0] 306 [.ref 185, .int (zI x1), .int (zI x2), .double 0, .double 0] (fun b => (zI b).toInt64) A := by
  obtain ⟨A1, ⟨b, h1, h2, h3⟩ | ⟨E, h1, h2, h3⟩⟩ := hq
  · obtain ⟨A2, y1, y2, y3⟩ := h3 (vp_updL O 0 ((zI b).toInt64)) t
    exact ⟨0, A1, _, t, w_rules_ok h1, by omega, by omega, b, A2, mGd_dp1 y1, y2, y3, fun _ => ⟨rfl, h2⟩⟩
  · obtain ⟨b, A2, y1, y2, y3⟩ := h3 O (t + 1)
    by_cases e2 : E = 2
    · subst e2
      exact ⟨1, A1, O, t + 1, w_rules_x2 h1, by omega, by omega, b, A2, mGd_dp1 y1, y2, y3, fun q => by omega⟩
    by_cases e0 : E = 0
    · subst e0
      exact ⟨2, A1, O, t + 1, w_rules_x0 h1, by omega, by omega, b, A2, mGd_dp1 y1, y2, y3, fun q => by omega⟩
    · exfalso
      simp only [e2, e0, if_false] at h2
      omega
theorem w_moves_ok {x1 x2 x3 b : Int} {A1 : Nat → Int → Int} (h : mGd ar d 146 0 [.ref 0, .int (zI x1), .int (zI x2), .int (zI x3)] [] (zW K A O t) = some (.inl (some (.int (zI b))), zW K A1 O t)) : mGd ar (d + 1) 145 0 [.ref 0, .int (zI x1), .int (zI x2), .int (zI x3), .ref 198, .double 0] [] (zW K A O t) = some (.inl (some (.int (zI 0))), zW K A1 (vp_updL O 0 ((zI b).toInt64)) t) := by
  refine Eq.trans (mG_st (i := (.aload 4)) (len := 2) (z := (2, [.ref 0, .int (zI x1), .int (zI x2), .int (zI x3), .ref 198, .double 0], [.ref 198], zW K A O t)) (mF_m tb_145 rfl) rfl) ?_
  refine Eq.trans (mG_st (i := (.iconst 0)) (len := 1) (z := (3, [.ref 0, .int (zI x1), .int (zI x2), .int (zI x3), .ref 198, .double 0], [.int (zI 0), .ref 198], zW K A O t)) (mF_m tb_145 rfl) rfl) ?_
  refine Eq.trans (mG_st (i := (.aload 0)) (len := 1) (z := (4, [.ref 0, .int (zI x1), .int (zI x2), .int (zI x3), .ref 198, .double 0], [.ref 0, .int (zI 0), .ref 198], zW K A O t)) (mF_m tb_145 rfl) rfl) ?_
  refine Eq.trans (mG_st (i := (.iload 1)) (len := 1) (z := (5, [.ref 0, .int (zI x1), .int (zI x2), .int (zI x3), .ref 198, .double 0], [.int (zI x1), .ref 0, .int (zI 0), .ref 198], zW K A O t)) (mF_m tb_145 rfl) rfl) ?_
  refine Eq.trans (mG_st (i := (.iload 2)) (len := 1) (z := (6, [.ref 0, .int (zI x1), .int (zI x2), .int (zI x3), .ref 198, .double 0], [.int (zI x2), .int (zI x1), .ref 0, .int (zI 0), .ref 198], zW K A O t)) (mF_m tb_145 rfl) rfl) ?_
  refine Eq.trans (mG_st (i := (.iload 3)) (len := 1) (z := (7, [.ref 0, .int (zI x1), .int (zI x2), .int (zI x3), .ref 198, .double 0], [.int (zI x3), .int (zI x2), .int (zI x1), .ref 0, .int (zI 0), .ref 198], zW K A O t)) (mF_m tb_145 rfl) rfl) ?_
  refine Eq.trans (mG_ok (i := (.invokeinterface 154 3)) (len := 3) (M' := 146) (k := 4) (v := some (.int (zI b))) (w1 := zW K A1 O t) (mF_m tb_145 rfl) (mC_if sh_0 rfl rfl rfl) rfl h) ?_
  show mGd ar (d + 1) 145 10 [.ref 0, .int (zI x1), .int (zI x2), .int (zI x3), .ref 198, .double 0] [.int (zI b), .int (zI 0), .ref 198] (zW K A1 O t) = _
  refine Eq.trans (mG_st (i := .i2l) (len := 1) (z := (11, [.ref 0, .int (zI x1), .int (zI x2), .int (zI x3), .ref 198, .double 0], [.long ((zI b).toInt64), .int (zI 0), .ref 198], zW K A1 O t)) (mF_m tb_145 rfl) rfl) ?_
  refine Eq.trans (mG_st (i := .lastore) (len := 1) (z := (12, [.ref 0, .int (zI x1), .int (zI x2), .int (zI x3), .ref 198, .double 0], [], zW K A1 (vp_updL O 0 ((zI b).toInt64)) t)) (mF_m tb_145 rfl) zM_last) ?_
  refine Eq.trans (mG_st (i := (.goto 7)) (len := 3) (z := (19, [.ref 0, .int (zI x1), .int (zI x2), .int (zI x3), .ref 198, .double 0], [], zW K A1 (vp_updL O 0 ((zI b).toInt64)) t)) (mF_m tb_145 rfl) rfl) ?_
  refine Eq.trans (mG_st (i := (.iconst 0)) (len := 1) (z := (20, [.ref 0, .int (zI x1), .int (zI x2), .int (zI x3), .ref 198, .double 0], [.int (zI 0)], zW K A1 (vp_updL O 0 ((zI b).toInt64)) t)) (mF_m tb_145 rfl) rfl) ?_
  exact mG_ir (len := 1) (mF_m tb_145 rfl) rfl rfl
theorem w_moves_x2 {x1 x2 x3 : Int} {A1 : Nat → Int → Int} (h : mGd ar d 146 0 [.ref 0, .int (zI x1), .int (zI x2), .int (zI x3)] [] (zW K A O t) = some (.inr 2, zW K A1 O (t + 1))) : mGd ar (d + 1) 145 0 [.ref 0, .int (zI x1), .int (zI x2), .int (zI x3), .ref 198, .double 0] [] (zW K A O t) = some (.inl (some (.int (zI 1))), zW K A1 O (t + 1)) := by
  refine Eq.trans (mG_st (i := (.aload 4)) (len := 2) (z := (2, [.ref 0, .int (zI x1), .int (zI x2), .int (zI x3), .ref 198, .double 0], [.ref 198], zW K A O t)) (mF_m tb_145 rfl) rfl) ?_
  refine Eq.trans (mG_st (i := (.iconst 0)) (len := 1) (z := (3, [.ref 0, .int (zI x1), .int (zI x2), .int (zI x3), .ref 198, .double 0], [.int (zI 0), .ref 198], zW K A O t)) (mF_m tb_145 rfl) rfl) ?_
  refine Eq.trans (mG_st (i := (.aload 0)) (len := 1) (z := (4, [.ref 0, .int (zI x1), .int (zI x2), .int (zI x3), .ref 198, .double 0], [.ref 0, .int (zI 0), .ref 198], zW K A O t)) (mF_m tb_145 rfl) rfl) ?_
  refine Eq.trans (mG_st (i := (.iload 1)) (len := 1) (z := (5, [.ref 0, .int (zI x1), .int (zI x2), .int (zI x3), .ref 198, .double 0], [.int (zI x1), .ref 0, .int (zI 0), .ref 198], zW K A O t)) (mF_m tb_145 rfl) rfl) ?_
  refine Eq.trans (mG_st (i := (.iload 2)) (len := 1) (z := (6, [.ref 0, .int (zI x1), .int (zI x2), .int (zI x3), .ref 198, .double 0], [.int (zI x2), .int (zI x1), .ref 0, .int (zI 0), .ref 198], zW K A O t)) (mF_m tb_145 rfl) rfl) ?_
  refine Eq.trans (mG_st (i := (.iload 3)) (len := 1) (z := (7, [.ref 0, .int (zI x1), .int (zI x2), .int (zI x3), .ref 198, .double 0], [.int (zI x3), .int (zI x2), .int (zI x1), .ref 0, .int (zI 0), .ref 198], zW K A O t)) (mF_m tb_145 rfl) rfl) ?_
  refine Eq.trans (mG_in (i := (.invokeinterface 154 3)) (len := 3) (M' := 146) (k := 4) (x := 2) (pc' := 17) (j := 5) (w1 := zW K A1 O (t + 1)) (mF_m tb_145 rfl) (mC_if sh_0 rfl rfl rfl) rfl h rfl (show mHd 145 7 2 = some (17, 5) by decide +kernel) (show 5 < 6 by decide)) ?_
  show mGd ar (d + 1) 145 17 [.ref 0, .int (zI x1), .int (zI x2), .int (zI x3), .ref 198, .double 0] [] (zW K A1 O (t + 1)) = _
  refine Eq.trans (mG_st (i := (.iconst 1)) (len := 1) (z := (18, [.ref 0, .int (zI x1), .int (zI x2), .int (zI x3), .ref 198, .double 0], [.int (zI 1)], zW K A1 O (t + 1))) (mF_m tb_145 rfl) rfl) ?_
  exact mG_ir (len := 1) (mF_m tb_145 rfl) rfl rfl
theorem W_moves {x1 x2 x3 : Int} (hq : zQ ar K O t d 146 [.ref 0, .int (zI x1), .int (zI x2), .int (zI x3)] 307 [.ref 185, .int (zI x1), .int (zI x2), .int (zI x3), .double 0, .double 0, .double 0] (fun E => if E = 2 then 1 else 0) A) : zWr ar K O t (d + 1) 145 [.ref 0, .int (zI x1), .int (zI x2), .int (zI x3), .ref 198, .double 0] 307 [.ref 185, .int (zI x1), .int (zI x2), .int (zI x3), .double 0, .double 0, .double 0] (fun b => (zI b).toInt64) A := by
  obtain ⟨A1, ⟨b, h1, h2, h3⟩ | ⟨E, h1, h2, h3⟩⟩ := hq
  · obtain ⟨A2, y1, y2, y3⟩ := h3 (vp_updL O 0 ((zI b).toInt64)) t
    exact ⟨0, A1, _, t, w_moves_ok h1, by omega, by omega, b, A2, mGd_dp1 y1, y2, y3, fun _ => ⟨rfl, h2⟩⟩
  · obtain ⟨b, A2, y1, y2, y3⟩ := h3 O (t + 1)
    by_cases e2 : E = 2
    · subst e2
      exact ⟨1, A1, O, t + 1, w_moves_x2 h1, by omega, by omega, b, A2, mGd_dp1 y1, y2, y3, fun q => by omega⟩
    · exfalso
      simp only [e2, if_false] at h2
      omega
theorem w_sham_ok {x1 x2 b : Int} {A1 : Nat → Int → Int} (h : mGd ar d 152 0 [.ref 0, .int (zI x1), .int (zI x2)] [] (zW K A O t) = some (.inl (some (.int (zI b))), zW K A1 O t)) : mGd ar (d + 1) 151 0 [.ref 0, .int (zI x1), .int (zI x2), .ref 198, .double 0] [] (zW K A O t) = some (.inl (some (.int (zI 0))), zW K A1 (vp_updL O 0 ((zI b).toInt64)) t) := by
  refine Eq.trans (mG_st (i := (.aload 3)) (len := 1) (z := (1, [.ref 0, .int (zI x1), .int (zI x2), .ref 198, .double 0], [.ref 198], zW K A O t)) (mF_m tb_151 rfl) rfl) ?_
  refine Eq.trans (mG_st (i := (.iconst 0)) (len := 1) (z := (2, [.ref 0, .int (zI x1), .int (zI x2), .ref 198, .double 0], [.int (zI 0), .ref 198], zW K A O t)) (mF_m tb_151 rfl) rfl) ?_
  refine Eq.trans (mG_st (i := (.aload 0)) (len := 1) (z := (3, [.ref 0, .int (zI x1), .int (zI x2), .ref 198, .double 0], [.ref 0, .int (zI 0), .ref 198], zW K A O t)) (mF_m tb_151 rfl) rfl) ?_
  refine Eq.trans (mG_st (i := (.iload 1)) (len := 1) (z := (4, [.ref 0, .int (zI x1), .int (zI x2), .ref 198, .double 0], [.int (zI x1), .ref 0, .int (zI 0), .ref 198], zW K A O t)) (mF_m tb_151 rfl) rfl) ?_
  refine Eq.trans (mG_st (i := (.iload 2)) (len := 1) (z := (5, [.ref 0, .int (zI x1), .int (zI x2), .ref 198, .double 0], [.int (zI x2), .int (zI x1), .ref 0, .int (zI 0), .ref 198], zW K A O t)) (mF_m tb_151 rfl) rfl) ?_
  refine Eq.trans (mG_ok (i := (.invokeinterface 159 2)) (len := 3) (M' := 152) (k := 3) (v := some (.int (zI b))) (w1 := zW K A1 O t) (mF_m tb_151 rfl) (mC_if sh_0 rfl rfl rfl) rfl h) ?_
  show mGd ar (d + 1) 151 8 [.ref 0, .int (zI x1), .int (zI x2), .ref 198, .double 0] [.int (zI b), .int (zI 0), .ref 198] (zW K A1 O t) = _
  refine Eq.trans (mG_st (i := .i2l) (len := 1) (z := (9, [.ref 0, .int (zI x1), .int (zI x2), .ref 198, .double 0], [.long ((zI b).toInt64), .int (zI 0), .ref 198], zW K A1 O t)) (mF_m tb_151 rfl) rfl) ?_
  refine Eq.trans (mG_st (i := .lastore) (len := 1) (z := (10, [.ref 0, .int (zI x1), .int (zI x2), .ref 198, .double 0], [], zW K A1 (vp_updL O 0 ((zI b).toInt64)) t)) (mF_m tb_151 rfl) zM_last) ?_
  refine Eq.trans (mG_st (i := (.goto 7)) (len := 3) (z := (17, [.ref 0, .int (zI x1), .int (zI x2), .ref 198, .double 0], [], zW K A1 (vp_updL O 0 ((zI b).toInt64)) t)) (mF_m tb_151 rfl) rfl) ?_
  refine Eq.trans (mG_st (i := (.iconst 0)) (len := 1) (z := (18, [.ref 0, .int (zI x1), .int (zI x2), .ref 198, .double 0], [.int (zI 0)], zW K A1 (vp_updL O 0 ((zI b).toInt64)) t)) (mF_m tb_151 rfl) rfl) ?_
  exact mG_ir (len := 1) (mF_m tb_151 rfl) rfl rfl
theorem w_sham_x2 {x1 x2 : Int} {A1 : Nat → Int → Int} (h : mGd ar d 152 0 [.ref 0, .int (zI x1), .int (zI x2)] [] (zW K A O t) = some (.inr 2, zW K A1 O (t + 1))) : mGd ar (d + 1) 151 0 [.ref 0, .int (zI x1), .int (zI x2), .ref 198, .double 0] [] (zW K A O t) = some (.inl (some (.int (zI 1))), zW K A1 O (t + 1)) := by
  refine Eq.trans (mG_st (i := (.aload 3)) (len := 1) (z := (1, [.ref 0, .int (zI x1), .int (zI x2), .ref 198, .double 0], [.ref 198], zW K A O t)) (mF_m tb_151 rfl) rfl) ?_
  refine Eq.trans (mG_st (i := (.iconst 0)) (len := 1) (z := (2, [.ref 0, .int (zI x1), .int (zI x2), .ref 198, .double 0], [.int (zI 0), .ref 198], zW K A O t)) (mF_m tb_151 rfl) rfl) ?_
  refine Eq.trans (mG_st (i := (.aload 0)) (len := 1) (z := (3, [.ref 0, .int (zI x1), .int (zI x2), .ref 198, .double 0], [.ref 0, .int (zI 0), .ref 198], zW K A O t)) (mF_m tb_151 rfl) rfl) ?_
  refine Eq.trans (mG_st (i := (.iload 1)) (len := 1) (z := (4, [.ref 0, .int (zI x1), .int (zI x2), .ref 198, .double 0], [.int (zI x1), .ref 0, .int (zI 0), .ref 198], zW K A O t)) (mF_m tb_151 rfl) rfl) ?_
  refine Eq.trans (mG_st (i := (.iload 2)) (len := 1) (z := (5, [.ref 0, .int (zI x1), .int (zI x2), .ref 198, .double 0], [.int (zI x2), .int (zI x1), .ref 0, .int (zI 0), .ref 198], zW K A O t)) (mF_m tb_151 rfl) rfl) ?_
  refine Eq.trans (mG_in (i := (.invokeinterface 159 2)) (len := 3) (M' := 152) (k := 3) (x := 2) (pc' := 15) (j := 4) (w1 := zW K A1 O (t + 1)) (mF_m tb_151 rfl) (mC_if sh_0 rfl rfl rfl) rfl h rfl (show mHd 151 5 2 = some (15, 4) by decide +kernel) (show 4 < 5 by decide)) ?_
  show mGd ar (d + 1) 151 15 [.ref 0, .int (zI x1), .int (zI x2), .ref 198, .double 0] [] (zW K A1 O (t + 1)) = _
  refine Eq.trans (mG_st (i := (.iconst 1)) (len := 1) (z := (16, [.ref 0, .int (zI x1), .int (zI x2), .ref 198, .double 0], [.int (zI 1)], zW K A1 O (t + 1))) (mF_m tb_151 rfl) rfl) ?_
  exact mG_ir (len := 1) (mF_m tb_151 rfl) rfl rfl
theorem W_sham {x1 x2 : Int} (hq : zQ ar K O t d 152 [.ref 0, .int (zI x1), .int (zI x2)] 309 [.ref 185, .int (zI x1), .int (zI x2)] (fun E => if E = 2 then 1 else 0) A) : zWr ar K O t (d + 1) 151 [.ref 0, .int (zI x1), .int (zI x2), .ref 198, .double 0] 309 [.ref 185, .int (zI x1), .int (zI x2)] (fun b => (zI b).toInt64) A := by
  obtain ⟨A1, ⟨b, h1, h2, h3⟩ | ⟨E, h1, h2, h3⟩⟩ := hq
  · obtain ⟨A2, y1, y2, y3⟩ := h3 (vp_updL O 0 ((zI b).toInt64)) t
    exact ⟨0, A1, _, t, w_sham_ok h1, by omega, by omega, b, A2, mGd_dp1 y1, y2, y3, fun _ => ⟨rfl, h2⟩⟩
  · obtain ⟨b, A2, y1, y2, y3⟩ := h3 O (t + 1)
    by_cases e2 : E = 2
    · subst e2
      exact ⟨1, A1, O, t + 1, w_sham_x2 h1, by omega, by omega, b, A2, mGd_dp1 y1, y2, y3, fun q => by omega⟩
    · exfalso
      simp only [e2, if_false] at h2
      omega
theorem w_honest_ok {x1 b : Int} {A1 : Nat → Int → Int} (h : mGd ar d 155 0 [.ref 0, .int (zI x1), .double 0, .double 0] [] (zW K A O t) = some (.inl (some (.int (zI b))), zW K A1 O t)) : mGd ar (d + 1) 154 0 [.ref 0, .int (zI x1), .ref 198, .double 0] [] (zW K A O t) = some (.inl (some (.int (zI 0))), zW K A1 (vp_updL O 0 ((zI b).toInt64)) t) := by
  refine Eq.trans (mG_st (i := (.aload 2)) (len := 1) (z := (1, [.ref 0, .int (zI x1), .ref 198, .double 0], [.ref 198], zW K A O t)) (mF_m tb_154 rfl) rfl) ?_
  refine Eq.trans (mG_st (i := (.iconst 0)) (len := 1) (z := (2, [.ref 0, .int (zI x1), .ref 198, .double 0], [.int (zI 0), .ref 198], zW K A O t)) (mF_m tb_154 rfl) rfl) ?_
  refine Eq.trans (mG_st (i := (.aload 0)) (len := 1) (z := (3, [.ref 0, .int (zI x1), .ref 198, .double 0], [.ref 0, .int (zI 0), .ref 198], zW K A O t)) (mF_m tb_154 rfl) rfl) ?_
  refine Eq.trans (mG_st (i := (.iload 1)) (len := 1) (z := (4, [.ref 0, .int (zI x1), .ref 198, .double 0], [.int (zI x1), .ref 0, .int (zI 0), .ref 198], zW K A O t)) (mF_m tb_154 rfl) rfl) ?_
  refine Eq.trans (mG_ok (i := (.invokeinterface 161 1)) (len := 3) (M' := 155) (k := 2) (v := some (.int (zI b))) (w1 := zW K A1 O t) (mF_m tb_154 rfl) (mC_if sh_0 rfl rfl rfl) rfl h) ?_
  show mGd ar (d + 1) 154 7 [.ref 0, .int (zI x1), .ref 198, .double 0] [.int (zI b), .int (zI 0), .ref 198] (zW K A1 O t) = _
  refine Eq.trans (mG_st (i := .i2l) (len := 1) (z := (8, [.ref 0, .int (zI x1), .ref 198, .double 0], [.long ((zI b).toInt64), .int (zI 0), .ref 198], zW K A1 O t)) (mF_m tb_154 rfl) rfl) ?_
  refine Eq.trans (mG_st (i := .lastore) (len := 1) (z := (9, [.ref 0, .int (zI x1), .ref 198, .double 0], [], zW K A1 (vp_updL O 0 ((zI b).toInt64)) t)) (mF_m tb_154 rfl) zM_last) ?_
  refine Eq.trans (mG_st (i := (.goto 6)) (len := 3) (z := (15, [.ref 0, .int (zI x1), .ref 198, .double 0], [], zW K A1 (vp_updL O 0 ((zI b).toInt64)) t)) (mF_m tb_154 rfl) rfl) ?_
  refine Eq.trans (mG_st (i := (.iconst 0)) (len := 1) (z := (16, [.ref 0, .int (zI x1), .ref 198, .double 0], [.int (zI 0)], zW K A1 (vp_updL O 0 ((zI b).toInt64)) t)) (mF_m tb_154 rfl) rfl) ?_
  exact mG_ir (len := 1) (mF_m tb_154 rfl) rfl rfl
theorem w_honest_x2 {x1 : Int} {A1 : Nat → Int → Int} (h : mGd ar d 155 0 [.ref 0, .int (zI x1), .double 0, .double 0] [] (zW K A O t) = some (.inr 2, zW K A1 O (t + 1))) : mGd ar (d + 1) 154 0 [.ref 0, .int (zI x1), .ref 198, .double 0] [] (zW K A O t) = some (.inl (some (.int (zI 1))), zW K A1 O (t + 1)) := by
  refine Eq.trans (mG_st (i := (.aload 2)) (len := 1) (z := (1, [.ref 0, .int (zI x1), .ref 198, .double 0], [.ref 198], zW K A O t)) (mF_m tb_154 rfl) rfl) ?_
  refine Eq.trans (mG_st (i := (.iconst 0)) (len := 1) (z := (2, [.ref 0, .int (zI x1), .ref 198, .double 0], [.int (zI 0), .ref 198], zW K A O t)) (mF_m tb_154 rfl) rfl) ?_
  refine Eq.trans (mG_st (i := (.aload 0)) (len := 1) (z := (3, [.ref 0, .int (zI x1), .ref 198, .double 0], [.ref 0, .int (zI 0), .ref 198], zW K A O t)) (mF_m tb_154 rfl) rfl) ?_
  refine Eq.trans (mG_st (i := (.iload 1)) (len := 1) (z := (4, [.ref 0, .int (zI x1), .ref 198, .double 0], [.int (zI x1), .ref 0, .int (zI 0), .ref 198], zW K A O t)) (mF_m tb_154 rfl) rfl) ?_
  refine Eq.trans (mG_in (i := (.invokeinterface 161 1)) (len := 3) (M' := 155) (k := 2) (x := 2) (pc' := 13) (j := 3) (w1 := zW K A1 O (t + 1)) (mF_m tb_154 rfl) (mC_if sh_0 rfl rfl rfl) rfl h rfl (show mHd 154 4 2 = some (13, 3) by decide +kernel) (show 3 < 4 by decide)) ?_
  show mGd ar (d + 1) 154 13 [.ref 0, .int (zI x1), .ref 198, .double 0] [] (zW K A1 O (t + 1)) = _
  refine Eq.trans (mG_st (i := (.iconst 1)) (len := 1) (z := (14, [.ref 0, .int (zI x1), .ref 198, .double 0], [.int (zI 1)], zW K A1 O (t + 1))) (mF_m tb_154 rfl) rfl) ?_
  exact mG_ir (len := 1) (mF_m tb_154 rfl) rfl rfl
theorem W_honest {x1 : Int} (hq : zQ ar K O t d 155 [.ref 0, .int (zI x1), .double 0, .double 0] 311 [.ref 185, .int (zI x1), .double 0, .double 0] (fun E => if E = 2 then 1 else 0) A) : zWr ar K O t (d + 1) 154 [.ref 0, .int (zI x1), .ref 198, .double 0] 311 [.ref 185, .int (zI x1), .double 0, .double 0] (fun b => (zI b).toInt64) A := by
  obtain ⟨A1, ⟨b, h1, h2, h3⟩ | ⟨E, h1, h2, h3⟩⟩ := hq
  · obtain ⟨A2, y1, y2, y3⟩ := h3 (vp_updL O 0 ((zI b).toInt64)) t
    exact ⟨0, A1, _, t, w_honest_ok h1, by omega, by omega, b, A2, mGd_dp1 y1, y2, y3, fun _ => ⟨rfl, h2⟩⟩
  · obtain ⟨b, A2, y1, y2, y3⟩ := h3 O (t + 1)
    by_cases e2 : E = 2
    · subst e2
      exact ⟨1, A1, O, t + 1, w_honest_x2 h1, by omega, by omega, b, A2, mGd_dp1 y1, y2, y3, fun q => by omega⟩
    · exfalso
      simp only [e2, if_false] at h2
      omega
end WRAP9
