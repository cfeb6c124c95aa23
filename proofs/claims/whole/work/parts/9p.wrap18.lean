/-! THE LAW, 2: wrappers (by program: wip/gen/gen30.py) -/
section WRAP18
variable {ar : Nat → Nat × (Nat → Int32)} {d D t : Nat} {K : Nat → Nat → Option Nat} {A : Nat → Int → Int} {O : Nat → Int64}

theorem w_gainers_ok {x1 b : Int} {A1 : Nat → Int → Int} (h : mGd ar d 159 0 [.ref 0, .int (zI x1), .double 0, .double 0] [] (zW K A O t) = some (.inl (some (.int (zI b))), zW K A1 O t)) : mGd ar (d + 1) 158 0 [.ref 0, .int (zI x1), .ref 198, .double 0] [] (zW K A O t) = some (.inl (some (.int (zI 0))), zW K A1 (vp_updL O 0 ((zI b).toInt64)) t) := by
  refine Eq.trans (mG_st (i := (.aload 2)) (len := 1) (z := (1, [.ref 0, .int (zI x1), .ref 198, .double 0], [.ref 198], zW K A O t)) (mF_m tb_158 rfl) rfl) ?_
  refine Eq.trans (mG_st (i := (.iconst 0)) (len := 1) (z := (2, [.ref 0, .int (zI x1), .ref 198, .double 0], [.int (zI 0), .ref 198], zW K A O t)) (mF_m tb_158 rfl) rfl) ?_
  refine Eq.trans (mG_st (i := (.aload 0)) (len := 1) (z := (3, [.ref 0, .int (zI x1), .ref 198, .double 0], [.ref 0, .int (zI 0), .ref 198], zW K A O t)) (mF_m tb_158 rfl) rfl) ?_
  refine Eq.trans (mG_st (i := (.iload 1)) (len := 1) (z := (4, [.ref 0, .int (zI x1), .ref 198, .double 0], [.int (zI x1), .ref 0, .int (zI 0), .ref 198], zW K A O t)) (mF_m tb_158 rfl) rfl) ?_
  refine Eq.trans (mG_ok (i := (.invokeinterface 164 1)) (len := 3) (M' := 159) (k := 2) (v := some (.int (zI b))) (w1 := zW K A1 O t) (mF_m tb_158 rfl) (mC_if sh_0 rfl rfl rfl) rfl h) ?_
  show mGd ar (d + 1) 158 7 [.ref 0, .int (zI x1), .ref 198, .double 0] [.int (zI b), .int (zI 0), .ref 198] (zW K A1 O t) = _
  refine Eq.trans (mG_st (i := .i2l) (len := 1) (z := (8, [.ref 0, .int (zI x1), .ref 198, .double 0], [.long ((zI b).toInt64), .int (zI 0), .ref 198], zW K A1 O t)) (mF_m tb_158 rfl) rfl) ?_
  refine Eq.trans (mG_st (i := .lastore) (len := 1) (z := (9, [.ref 0, .int (zI x1), .ref 198, .double 0], [], zW K A1 (vp_updL O 0 ((zI b).toInt64)) t)) (mF_m tb_158 rfl) zM_last) ?_
  refine Eq.trans (mG_st (i := (.goto 6)) (len := 3) (z := (15, [.ref 0, .int (zI x1), .ref 198, .double 0], [], zW K A1 (vp_updL O 0 ((zI b).toInt64)) t)) (mF_m tb_158 rfl) rfl) ?_
  refine Eq.trans (mG_st (i := (.iconst 0)) (len := 1) (z := (16, [.ref 0, .int (zI x1), .ref 198, .double 0], [.int (zI 0)], zW K A1 (vp_updL O 0 ((zI b).toInt64)) t)) (mF_m tb_158 rfl) rfl) ?_
  exact mG_ir (len := 1) (mF_m tb_158 rfl) rfl rfl
theorem w_gainers_x2 {x1 : Int} {A1 : Nat → Int → Int} (h : mGd ar d 159 0 [.ref 0, .int (zI x1), .double 0, .double 0] [] (zW K A O t) = some (.inr 2, zW K A1 O (t + 1))) : mGd ar (d + 1) 158 0 [.ref 0, .int (zI x1), .ref 198, .double 0] [] (zW K A O t) = some (.inl (some (.int (zI 1))), zW K A1 O (t + 1)) := by
  refine Eq.trans (mG_st (i := (.aload 2)) (len := 1) (z := (1, [.ref 0, .int (zI x1), .ref 198, .double 0], [.ref 198], zW K A O t)) (mF_m tb_158 rfl) rfl) ?_
  refine Eq.trans (mG_st (i := (.iconst 0)) (len := 1) (z := (2, [.ref 0, .int (zI x1), .ref 198, .double 0], [.int (zI 0), .ref 198], zW K A O t)) (mF_m tb_158 rfl) rfl) ?_
  refine Eq.trans (mG_st (i := (.aload 0)) (len := 1) (z := (3, [.ref 0, .int (zI x1), .ref 198, .double 0], [.ref 0, .int (zI 0), .ref 198], zW K A O t)) (mF_m tb_158 rfl) rfl) ?_
  refine Eq.trans (mG_st (i := (.iload 1)) (len := 1) (z := (4, [.ref 0, .int (zI x1), .ref 198, .double 0], [.int (zI x1), .ref 0, .int (zI 0), .ref 198], zW K A O t)) (mF_m tb_158 rfl) rfl) ?_
  refine Eq.trans (mG_in (i := (.invokeinterface 164 1)) (len := 3) (M' := 159) (k := 2) (x := 2) (pc' := 13) (j := 3) (w1 := zW K A1 O (t + 1)) (mF_m tb_158 rfl) (mC_if sh_0 rfl rfl rfl) rfl h rfl (show mHd 158 4 2 = some (13, 3) by decide +kernel) (show 3 < 4 by decide)) ?_
  show mGd ar (d + 1) 158 13 [.ref 0, .int (zI x1), .ref 198, .double 0] [] (zW K A1 O (t + 1)) = _
  refine Eq.trans (mG_st (i := (.iconst 1)) (len := 1) (z := (14, [.ref 0, .int (zI x1), .ref 198, .double 0], [.int (zI 1)], zW K A1 O (t + 1))) (mF_m tb_158 rfl) rfl) ?_
  exact mG_ir (len := 1) (mF_m tb_158 rfl) rfl rfl
theorem W_gainers {x1 : Int} (hq : zQ ar K O t d 159 [.ref 0, .int (zI x1), .double 0, .double 0] 313 [.ref 185, .int (zI x1)] (fun E => if E = 2 then 1 else 0) A) : zWr ar K O t (d + 1) 158 [.ref 0, .int (zI x1), .ref 198, .double 0] 313 [.ref 185, .int (zI x1)] (fun b => (zI b).toInt64) A := by
  obtain ⟨A1, ⟨b, h1, h2, h3⟩ | ⟨E, h1, h2, h3⟩⟩ := hq
  · obtain ⟨A2, y1, y2, y3⟩ := h3 (vp_updL O 0 ((zI b).toInt64)) t
    exact ⟨0, A1, _, t, w_gainers_ok h1, by omega, by omega, b, A2, mGd_dp1 y1, y2, y3, fun _ => ⟨rfl, h2⟩⟩
  · obtain ⟨b, A2, y1, y2, y3⟩ := h3 O (t + 1)
    by_cases e2 : E = 2
    · subst e2
      exact ⟨1, A1, O, t + 1, w_gainers_x2 h1, by omega, by omega, b, A2, mGd_dp1 y1, y2, y3, fun q => by omega⟩
    · exfalso
      simp only [e2, if_false] at h2
      omega
theorem w_halves_ok {x1 b : Int} {A1 : Nat → Int → Int} (h : mGd ar d 161 0 [.ref 0, .int (zI x1)] [] (zW K A O t) = some (.inl (some (.int (zI b))), zW K A1 O t)) (hb : -2147483648 ≤ b ∧ b < 2147483648) : mGd ar (d + 1) 160 0 [.ref 0, .int (zI x1), .ref 198, .double 0] [] (zW K A O t) = some (.inl (some (.int (zI 0))), zW K A1 (vp_updL O 0 (zTlg b)) t) := by
  refine Eq.trans (mG_st (i := (.aload 2)) (len := 1) (z := (1, [.ref 0, .int (zI x1), .ref 198, .double 0], [.ref 198], zW K A O t)) (mF_m tb_160 rfl) rfl) ?_
  refine Eq.trans (mG_st (i := (.iconst 0)) (len := 1) (z := (2, [.ref 0, .int (zI x1), .ref 198, .double 0], [.int (zI 0), .ref 198], zW K A O t)) (mF_m tb_160 rfl) rfl) ?_
  refine Eq.trans (mG_st (i := (.aload 0)) (len := 1) (z := (3, [.ref 0, .int (zI x1), .ref 198, .double 0], [.ref 0, .int (zI 0), .ref 198], zW K A O t)) (mF_m tb_160 rfl) rfl) ?_
  refine Eq.trans (mG_st (i := (.iload 1)) (len := 1) (z := (4, [.ref 0, .int (zI x1), .ref 198, .double 0], [.int (zI x1), .ref 0, .int (zI 0), .ref 198], zW K A O t)) (mF_m tb_160 rfl) rfl) ?_
  refine Eq.trans (mG_ok (i := (.invokeinterface 165 1)) (len := 3) (M' := 161) (k := 2) (v := some (.int (zI b))) (w1 := zW K A1 O t) (mF_m tb_160 rfl) (mC_if sh_0 rfl rfl rfl) rfl h) ?_
  show mGd ar (d + 1) 160 7 [.ref 0, .int (zI x1), .ref 198, .double 0] [.int (zI b), .int (zI 0), .ref 198] (zW K A1 O t) = _
  refine Eq.trans (mG_lb (mF_m tb_160 rfl) (mF_m tb_160 rfl) (mF_m tb_160 rfl) (mF_m tb_160 rfl) hb) ?_
  refine Eq.trans (mG_st (i := .lastore) (len := 1) (z := (16, [.ref 0, .int (zI x1), .ref 198, .double 0], [], zW K A1 (vp_updL O 0 (zTlg b)) t)) (mF_m tb_160 rfl) zM_last) ?_
  refine Eq.trans (mG_st (i := (.goto 6)) (len := 3) (z := (22, [.ref 0, .int (zI x1), .ref 198, .double 0], [], zW K A1 (vp_updL O 0 (zTlg b)) t)) (mF_m tb_160 rfl) rfl) ?_
  refine Eq.trans (mG_st (i := (.iconst 0)) (len := 1) (z := (23, [.ref 0, .int (zI x1), .ref 198, .double 0], [.int (zI 0)], zW K A1 (vp_updL O 0 (zTlg b)) t)) (mF_m tb_160 rfl) rfl) ?_
  exact mG_ir (len := 1) (mF_m tb_160 rfl) rfl rfl
theorem w_halves_x2 {x1 : Int} {A1 : Nat → Int → Int} (h : mGd ar d 161 0 [.ref 0, .int (zI x1)] [] (zW K A O t) = some (.inr 2, zW K A1 O (t + 1))) : mGd ar (d + 1) 160 0 [.ref 0, .int (zI x1), .ref 198, .double 0] [] (zW K A O t) = some (.inl (some (.int (zI 1))), zW K A1 O (t + 1)) := by
  refine Eq.trans (mG_st (i := (.aload 2)) (len := 1) (z := (1, [.ref 0, .int (zI x1), .ref 198, .double 0], [.ref 198], zW K A O t)) (mF_m tb_160 rfl) rfl) ?_
  refine Eq.trans (mG_st (i := (.iconst 0)) (len := 1) (z := (2, [.ref 0, .int (zI x1), .ref 198, .double 0], [.int (zI 0), .ref 198], zW K A O t)) (mF_m tb_160 rfl) rfl) ?_
  refine Eq.trans (mG_st (i := (.aload 0)) (len := 1) (z := (3, [.ref 0, .int (zI x1), .ref 198, .double 0], [.ref 0, .int (zI 0), .ref 198], zW K A O t)) (mF_m tb_160 rfl) rfl) ?_
  refine Eq.trans (mG_st (i := (.iload 1)) (len := 1) (z := (4, [.ref 0, .int (zI x1), .ref 198, .double 0], [.int (zI x1), .ref 0, .int (zI 0), .ref 198], zW K A O t)) (mF_m tb_160 rfl) rfl) ?_
  refine Eq.trans (mG_in (i := (.invokeinterface 165 1)) (len := 3) (M' := 161) (k := 2) (x := 2) (pc' := 20) (j := 3) (w1 := zW K A1 O (t + 1)) (mF_m tb_160 rfl) (mC_if sh_0 rfl rfl rfl) rfl h rfl (show mHd 160 4 2 = some (20, 3) by decide +kernel) (show 3 < 4 by decide)) ?_
  show mGd ar (d + 1) 160 20 [.ref 0, .int (zI x1), .ref 198, .double 0] [] (zW K A1 O (t + 1)) = _
  refine Eq.trans (mG_st (i := (.iconst 1)) (len := 1) (z := (21, [.ref 0, .int (zI x1), .ref 198, .double 0], [.int (zI 1)], zW K A1 O (t + 1))) (mF_m tb_160 rfl) rfl) ?_
  exact mG_ir (len := 1) (mF_m tb_160 rfl) rfl rfl
theorem W_halves {x1 : Int} (hq : zQ ar K O t d 161 [.ref 0, .int (zI x1)] 314 [.ref 185, .int (zI x1)] (fun E => if E = 2 then 1 else 0) A) : zWr ar K O t (d + 1) 160 [.ref 0, .int (zI x1), .ref 198, .double 0] 314 [.ref 185, .int (zI x1)] (zTlg) A := by
  obtain ⟨A1, ⟨b, h1, h2, h3⟩ | ⟨E, h1, h2, h3⟩⟩ := hq
  · obtain ⟨A2, y1, y2, y3⟩ := h3 (vp_updL O 0 (zTlg b)) t
    exact ⟨0, A1, _, t, w_halves_ok h1 h2, by omega, by omega, b, A2, mGd_dp1 y1, y2, y3, fun _ => ⟨rfl, h2⟩⟩
  · obtain ⟨b, A2, y1, y2, y3⟩ := h3 O (t + 1)
    by_cases e2 : E = 2
    · subst e2
      exact ⟨1, A1, O, t + 1, w_halves_x2 h1, by omega, by omega, b, A2, mGd_dp1 y1, y2, y3, fun q => by omega⟩
    · exfalso
      simp only [e2, if_false] at h2
      omega
theorem w_near_ok {x1 x2 b : Int} {A1 : Nat → Int → Int} (h : mGd ar d 163 0 [.ref 0, .int (zI x1), .int (zI x2)] [] (zW K A O t) = some (.inl (some (.int (zI b))), zW K A1 O t)) : mGd ar (d + 1) 162 0 [.ref 0, .int (zI x1), .int (zI x2), .ref 198, .double 0] [] (zW K A O t) = some (.inl (some (.int (zI 0))), zW K A1 (vp_updL O 0 ((zI b).toInt64)) t) := by
  refine Eq.trans (mG_st (i := (.aload 3)) (len := 1) (z := (1, [.ref 0, .int (zI x1), .int (zI x2), .ref 198, .double 0], [.ref 198], zW K A O t)) (mF_m tb_162 rfl) rfl) ?_
  refine Eq.trans (mG_st (i := (.iconst 0)) (len := 1) (z := (2, [.ref 0, .int (zI x1), .int (zI x2), .ref 198, .double 0], [.int (zI 0), .ref 198], zW K A O t)) (mF_m tb_162 rfl) rfl) ?_
  refine Eq.trans (mG_st (i := (.aload 0)) (len := 1) (z := (3, [.ref 0, .int (zI x1), .int (zI x2), .ref 198, .double 0], [.ref 0, .int (zI 0), .ref 198], zW K A O t)) (mF_m tb_162 rfl) rfl) ?_
  refine Eq.trans (mG_st (i := (.iload 1)) (len := 1) (z := (4, [.ref 0, .int (zI x1), .int (zI x2), .ref 198, .double 0], [.int (zI x1), .ref 0, .int (zI 0), .ref 198], zW K A O t)) (mF_m tb_162 rfl) rfl) ?_
  refine Eq.trans (mG_st (i := (.iload 2)) (len := 1) (z := (5, [.ref 0, .int (zI x1), .int (zI x2), .ref 198, .double 0], [.int (zI x2), .int (zI x1), .ref 0, .int (zI 0), .ref 198], zW K A O t)) (mF_m tb_162 rfl) rfl) ?_
  refine Eq.trans (mG_ok (i := (.invokeinterface 166 2)) (len := 3) (M' := 163) (k := 3) (v := some (.int (zI b))) (w1 := zW K A1 O t) (mF_m tb_162 rfl) (mC_if sh_0 rfl rfl rfl) rfl h) ?_
  show mGd ar (d + 1) 162 8 [.ref 0, .int (zI x1), .int (zI x2), .ref 198, .double 0] [.int (zI b), .int (zI 0), .ref 198] (zW K A1 O t) = _
  refine Eq.trans (mG_st (i := .i2l) (len := 1) (z := (9, [.ref 0, .int (zI x1), .int (zI x2), .ref 198, .double 0], [.long ((zI b).toInt64), .int (zI 0), .ref 198], zW K A1 O t)) (mF_m tb_162 rfl) rfl) ?_
  refine Eq.trans (mG_st (i := .lastore) (len := 1) (z := (10, [.ref 0, .int (zI x1), .int (zI x2), .ref 198, .double 0], [], zW K A1 (vp_updL O 0 ((zI b).toInt64)) t)) (mF_m tb_162 rfl) zM_last) ?_
  refine Eq.trans (mG_st (i := (.goto 7)) (len := 3) (z := (17, [.ref 0, .int (zI x1), .int (zI x2), .ref 198, .double 0], [], zW K A1 (vp_updL O 0 ((zI b).toInt64)) t)) (mF_m tb_162 rfl) rfl) ?_
  refine Eq.trans (mG_st (i := (.iconst 0)) (len := 1) (z := (18, [.ref 0, .int (zI x1), .int (zI x2), .ref 198, .double 0], [.int (zI 0)], zW K A1 (vp_updL O 0 ((zI b).toInt64)) t)) (mF_m tb_162 rfl) rfl) ?_
  exact mG_ir (len := 1) (mF_m tb_162 rfl) rfl rfl
theorem w_near_x2 {x1 x2 : Int} {A1 : Nat → Int → Int} (h : mGd ar d 163 0 [.ref 0, .int (zI x1), .int (zI x2)] [] (zW K A O t) = some (.inr 2, zW K A1 O (t + 1))) : mGd ar (d + 1) 162 0 [.ref 0, .int (zI x1), .int (zI x2), .ref 198, .double 0] [] (zW K A O t) = some (.inl (some (.int (zI 1))), zW K A1 O (t + 1)) := by
  refine Eq.trans (mG_st (i := (.aload 3)) (len := 1) (z := (1, [.ref 0, .int (zI x1), .int (zI x2), .ref 198, .double 0], [.ref 198], zW K A O t)) (mF_m tb_162 rfl) rfl) ?_
  refine Eq.trans (mG_st (i := (.iconst 0)) (len := 1) (z := (2, [.ref 0, .int (zI x1), .int (zI x2), .ref 198, .double 0], [.int (zI 0), .ref 198], zW K A O t)) (mF_m tb_162 rfl) rfl) ?_
  refine Eq.trans (mG_st (i := (.aload 0)) (len := 1) (z := (3, [.ref 0, .int (zI x1), .int (zI x2), .ref 198, .double 0], [.ref 0, .int (zI 0), .ref 198], zW K A O t)) (mF_m tb_162 rfl) rfl) ?_
  refine Eq.trans (mG_st (i := (.iload 1)) (len := 1) (z := (4, [.ref 0, .int (zI x1), .int (zI x2), .ref 198, .double 0], [.int (zI x1), .ref 0, .int (zI 0), .ref 198], zW K A O t)) (mF_m tb_162 rfl) rfl) ?_
  refine Eq.trans (mG_st (i := (.iload 2)) (len := 1) (z := (5, [.ref 0, .int (zI x1), .int (zI x2), .ref 198, .double 0], [.int (zI x2), .int (zI x1), .ref 0, .int (zI 0), .ref 198], zW K A O t)) (mF_m tb_162 rfl) rfl) ?_
  refine Eq.trans (mG_in (i := (.invokeinterface 166 2)) (len := 3) (M' := 163) (k := 3) (x := 2) (pc' := 15) (j := 4) (w1 := zW K A1 O (t + 1)) (mF_m tb_162 rfl) (mC_if sh_0 rfl rfl rfl) rfl h rfl (show mHd 162 5 2 = some (15, 4) by decide +kernel) (show 4 < 5 by decide)) ?_
  show mGd ar (d + 1) 162 15 [.ref 0, .int (zI x1), .int (zI x2), .ref 198, .double 0] [] (zW K A1 O (t + 1)) = _
  refine Eq.trans (mG_st (i := (.iconst 1)) (len := 1) (z := (16, [.ref 0, .int (zI x1), .int (zI x2), .ref 198, .double 0], [.int (zI 1)], zW K A1 O (t + 1))) (mF_m tb_162 rfl) rfl) ?_
  exact mG_ir (len := 1) (mF_m tb_162 rfl) rfl rfl
theorem W_near {x1 x2 : Int} (hq : zQ ar K O t d 163 [.ref 0, .int (zI x1), .int (zI x2)] 315 [.ref 185, .int (zI x1), .int (zI x2)] (fun E => if E = 2 then 1 else 0) A) : zWr ar K O t (d + 1) 162 [.ref 0, .int (zI x1), .int (zI x2), .ref 198, .double 0] 315 [.ref 185, .int (zI x1), .int (zI x2)] (fun b => (zI b).toInt64) A := by
  obtain ⟨A1, ⟨b, h1, h2, h3⟩ | ⟨E, h1, h2, h3⟩⟩ := hq
  · obtain ⟨A2, y1, y2, y3⟩ := h3 (vp_updL O 0 ((zI b).toInt64)) t
    exact ⟨0, A1, _, t, w_near_ok h1, by omega, by omega, b, A2, mGd_dp1 y1, y2, y3, fun _ => ⟨rfl, h2⟩⟩
  · obtain ⟨b, A2, y1, y2, y3⟩ := h3 O (t + 1)
    by_cases e2 : E = 2
    · subst e2
      exact ⟨1, A1, O, t + 1, w_near_x2 h1, by omega, by omega, b, A2, mGd_dp1 y1, y2, y3, fun q => by omega⟩
    · exfalso
      simp only [e2, if_false] at h2
      omega
theorem w_before_ok {x1 x2 x3 x4 b : Int} {A1 : Nat → Int → Int} (h : mGd ar d 167 0 [.ref 0, .int (zI x1), .int (zI x2), .int (zI x3), .int (zI x4)] [] (zW K A O t) = some (.inl (some (.int (zI b))), zW K A1 O t)) : mGd ar (d + 1) 166 0 [.ref 0, .int (zI x1), .int (zI x2), .int (zI x3), .int (zI x4), .ref 198, .double 0] [] (zW K A O t) = some (.inl (some (.int (zI 0))), zW K A1 (vp_updL O 0 ((zI b).toInt64)) t) := by
  refine Eq.trans (mG_st (i := (.aload 5)) (len := 2) (z := (2, [.ref 0, .int (zI x1), .int (zI x2), .int (zI x3), .int (zI x4), .ref 198, .double 0], [.ref 198], zW K A O t)) (mF_m tb_166 rfl) rfl) ?_
  refine Eq.trans (mG_st (i := (.iconst 0)) (len := 1) (z := (3, [.ref 0, .int (zI x1), .int (zI x2), .int (zI x3), .int (zI x4), .ref 198, .double 0], [.int (zI 0), .ref 198], zW K A O t)) (mF_m tb_166 rfl) rfl) ?_
  refine Eq.trans (mG_st (i := (.aload 0)) (len := 1) (z := (4, [.ref 0, .int (zI x1), .int (zI x2), .int (zI x3), .int (zI x4), .ref 198, .double 0], [.ref 0, .int (zI 0), .ref 198], zW K A O t)) (mF_m tb_166 rfl) rfl) ?_
  refine Eq.trans (mG_st (i := (.iload 1)) (len := 1) (z := (5, [.ref 0, .int (zI x1), .int (zI x2), .int (zI x3), .int (zI x4), .ref 198, .double 0], [.int (zI x1), .ref 0, .int (zI 0), .ref 198], zW K A O t)) (mF_m tb_166 rfl) rfl) ?_
  refine Eq.trans (mG_st (i := (.iload 2)) (len := 1) (z := (6, [.ref 0, .int (zI x1), .int (zI x2), .int (zI x3), .int (zI x4), .ref 198, .double 0], [.int (zI x2), .int (zI x1), .ref 0, .int (zI 0), .ref 198], zW K A O t)) (mF_m tb_166 rfl) rfl) ?_
  refine Eq.trans (mG_st (i := (.iload 3)) (len := 1) (z := (7, [.ref 0, .int (zI x1), .int (zI x2), .int (zI x3), .int (zI x4), .ref 198, .double 0], [.int (zI x3), .int (zI x2), .int (zI x1), .ref 0, .int (zI 0), .ref 198], zW K A O t)) (mF_m tb_166 rfl) rfl) ?_
  refine Eq.trans (mG_st (i := (.iload 4)) (len := 2) (z := (9, [.ref 0, .int (zI x1), .int (zI x2), .int (zI x3), .int (zI x4), .ref 198, .double 0], [.int (zI x4), .int (zI x3), .int (zI x2), .int (zI x1), .ref 0, .int (zI 0), .ref 198], zW K A O t)) (mF_m tb_166 rfl) rfl) ?_
  refine Eq.trans (mG_ok (i := (.invokeinterface 169 4)) (len := 3) (M' := 167) (k := 5) (v := some (.int (zI b))) (w1 := zW K A1 O t) (mF_m tb_166 rfl) (mC_if sh_0 rfl rfl rfl) rfl h) ?_
  show mGd ar (d + 1) 166 12 [.ref 0, .int (zI x1), .int (zI x2), .int (zI x3), .int (zI x4), .ref 198, .double 0] [.int (zI b), .int (zI 0), .ref 198] (zW K A1 O t) = _
  refine Eq.trans (mG_st (i := .i2l) (len := 1) (z := (13, [.ref 0, .int (zI x1), .int (zI x2), .int (zI x3), .int (zI x4), .ref 198, .double 0], [.long ((zI b).toInt64), .int (zI 0), .ref 198], zW K A1 O t)) (mF_m tb_166 rfl) rfl) ?_
  refine Eq.trans (mG_st (i := .lastore) (len := 1) (z := (14, [.ref 0, .int (zI x1), .int (zI x2), .int (zI x3), .int (zI x4), .ref 198, .double 0], [], zW K A1 (vp_updL O 0 ((zI b).toInt64)) t)) (mF_m tb_166 rfl) zM_last) ?_
  refine Eq.trans (mG_st (i := (.goto 11)) (len := 3) (z := (25, [.ref 0, .int (zI x1), .int (zI x2), .int (zI x3), .int (zI x4), .ref 198, .double 0], [], zW K A1 (vp_updL O 0 ((zI b).toInt64)) t)) (mF_m tb_166 rfl) rfl) ?_
  refine Eq.trans (mG_st (i := (.iconst 0)) (len := 1) (z := (26, [.ref 0, .int (zI x1), .int (zI x2), .int (zI x3), .int (zI x4), .ref 198, .double 0], [.int (zI 0)], zW K A1 (vp_updL O 0 ((zI b).toInt64)) t)) (mF_m tb_166 rfl) rfl) ?_
  exact mG_ir (len := 1) (mF_m tb_166 rfl) rfl rfl
theorem w_before_x2 {x1 x2 x3 x4 : Int} {A1 : Nat → Int → Int} (h : mGd ar d 167 0 [.ref 0, .int (zI x1), .int (zI x2), .int (zI x3), .int (zI x4)] [] (zW K A O t) = some (.inr 2, zW K A1 O (t + 1))) : mGd ar (d + 1) 166 0 [.ref 0, .int (zI x1), .int (zI x2), .int (zI x3), .int (zI x4), .ref 198, .double 0] [] (zW K A O t) = some (.inl (some (.int (zI 1))), zW K A1 O (t + 1)) := by
  refine Eq.trans (mG_st (i := (.aload 5)) (len := 2) (z := (2, [.ref 0, .int (zI x1), .int (zI x2), .int (zI x3), .int (zI x4), .ref 198, .double 0], [.ref 198], zW K A O t)) (mF_m tb_166 rfl) rfl) ?_
  refine Eq.trans (mG_st (i := (.iconst 0)) (len := 1) (z := (3, [.ref 0, .int (zI x1), .int (zI x2), .int (zI x3), .int (zI x4), .ref 198, .double 0], [.int (zI 0), .ref 198], zW K A O t)) (mF_m tb_166 rfl) rfl) ?_
  refine Eq.trans (mG_st (i := (.aload 0)) (len := 1) (z := (4, [.ref 0, .int (zI x1), .int (zI x2), .int (zI x3), .int (zI x4), .ref 198, .double 0], [.ref 0, .int (zI 0), .ref 198], zW K A O t)) (mF_m tb_166 rfl) rfl) ?_
  refine Eq.trans (mG_st (i := (.iload 1)) (len := 1) (z := (5, [.ref 0, .int (zI x1), .int (zI x2), .int (zI x3), .int (zI x4), .ref 198, .double 0], [.int (zI x1), .ref 0, .int (zI 0), .ref 198], zW K A O t)) (mF_m tb_166 rfl) rfl) ?_
  refine Eq.trans (mG_st (i := (.iload 2)) (len := 1) (z := (6, [.ref 0, .int (zI x1), .int (zI x2), .int (zI x3), .int (zI x4), .ref 198, .double 0], [.int (zI x2), .int (zI x1), .ref 0, .int (zI 0), .ref 198], zW K A O t)) (mF_m tb_166 rfl) rfl) ?_
  refine Eq.trans (mG_st (i := (.iload 3)) (len := 1) (z := (7, [.ref 0, .int (zI x1), .int (zI x2), .int (zI x3), .int (zI x4), .ref 198, .double 0], [.int (zI x3), .int (zI x2), .int (zI x1), .ref 0, .int (zI 0), .ref 198], zW K A O t)) (mF_m tb_166 rfl) rfl) ?_
  refine Eq.trans (mG_st (i := (.iload 4)) (len := 2) (z := (9, [.ref 0, .int (zI x1), .int (zI x2), .int (zI x3), .int (zI x4), .ref 198, .double 0], [.int (zI x4), .int (zI x3), .int (zI x2), .int (zI x1), .ref 0, .int (zI 0), .ref 198], zW K A O t)) (mF_m tb_166 rfl) rfl) ?_
  refine Eq.trans (mG_in (i := (.invokeinterface 169 4)) (len := 3) (M' := 167) (k := 5) (x := 2) (pc' := 19) (j := 6) (w1 := zW K A1 O (t + 1)) (mF_m tb_166 rfl) (mC_if sh_0 rfl rfl rfl) rfl h rfl (show mHd 166 9 2 = some (19, 6) by decide +kernel) (show 6 < 7 by decide)) ?_
  show mGd ar (d + 1) 166 19 [.ref 0, .int (zI x1), .int (zI x2), .int (zI x3), .int (zI x4), .ref 198, .double 0] [] (zW K A1 O (t + 1)) = _
  refine Eq.trans (mG_st (i := (.iconst 1)) (len := 1) (z := (20, [.ref 0, .int (zI x1), .int (zI x2), .int (zI x3), .int (zI x4), .ref 198, .double 0], [.int (zI 1)], zW K A1 O (t + 1))) (mF_m tb_166 rfl) rfl) ?_
  exact mG_ir (len := 1) (mF_m tb_166 rfl) rfl rfl
theorem w_before_x0 {x1 x2 x3 x4 : Int} {A1 : Nat → Int → Int} (h : mGd ar d 167 0 [.ref 0, .int (zI x1), .int (zI x2), .int (zI x3), .int (zI x4)] [] (zW K A O t) = some (.inr 0, zW K A1 O (t + 1))) : mGd ar (d + 1) 166 0 [.ref 0, .int (zI x1), .int (zI x2), .int (zI x3), .int (zI x4), .ref 198, .double 0] [] (zW K A O t) = some (.inl (some (.int (zI 2))), zW K A1 O (t + 1)) := by
  refine Eq.trans (mG_st (i := (.aload 5)) (len := 2) (z := (2, [.ref 0, .int (zI x1), .int (zI x2), .int (zI x3), .int (zI x4), .ref 198, .double 0], [.ref 198], zW K A O t)) (mF_m tb_166 rfl) rfl) ?_
  refine Eq.trans (mG_st (i := (.iconst 0)) (len := 1) (z := (3, [.ref 0, .int (zI x1), .int (zI x2), .int (zI x3), .int (zI x4), .ref 198, .double 0], [.int (zI 0), .ref 198], zW K A O t)) (mF_m tb_166 rfl) rfl) ?_
  refine Eq.trans (mG_st (i := (.aload 0)) (len := 1) (z := (4, [.ref 0, .int (zI x1), .int (zI x2), .int (zI x3), .int (zI x4), .ref 198, .double 0], [.ref 0, .int (zI 0), .ref 198], zW K A O t)) (mF_m tb_166 rfl) rfl) ?_
  refine Eq.trans (mG_st (i := (.iload 1)) (len := 1) (z := (5, [.ref 0, .int (zI x1), .int (zI x2), .int (zI x3), .int (zI x4), .ref 198, .double 0], [.int (zI x1), .ref 0, .int (zI 0), .ref 198], zW K A O t)) (mF_m tb_166 rfl) rfl) ?_
  refine Eq.trans (mG_st (i := (.iload 2)) (len := 1) (z := (6, [.ref 0, .int (zI x1), .int (zI x2), .int (zI x3), .int (zI x4), .ref 198, .double 0], [.int (zI x2), .int (zI x1), .ref 0, .int (zI 0), .ref 198], zW K A O t)) (mF_m tb_166 rfl) rfl) ?_
  refine Eq.trans (mG_st (i := (.iload 3)) (len := 1) (z := (7, [.ref 0, .int (zI x1), .int (zI x2), .int (zI x3), .int (zI x4), .ref 198, .double 0], [.int (zI x3), .int (zI x2), .int (zI x1), .ref 0, .int (zI 0), .ref 198], zW K A O t)) (mF_m tb_166 rfl) rfl) ?_
  refine Eq.trans (mG_st (i := (.iload 4)) (len := 2) (z := (9, [.ref 0, .int (zI x1), .int (zI x2), .int (zI x3), .int (zI x4), .ref 198, .double 0], [.int (zI x4), .int (zI x3), .int (zI x2), .int (zI x1), .ref 0, .int (zI 0), .ref 198], zW K A O t)) (mF_m tb_166 rfl) rfl) ?_
  refine Eq.trans (mG_in (i := (.invokeinterface 169 4)) (len := 3) (M' := 167) (k := 5) (x := 0) (pc' := 23) (j := 6) (w1 := zW K A1 O (t + 1)) (mF_m tb_166 rfl) (mC_if sh_0 rfl rfl rfl) rfl h rfl (show mHd 166 9 0 = some (23, 6) by decide +kernel) (show 6 < 7 by decide)) ?_
  show mGd ar (d + 1) 166 23 [.ref 0, .int (zI x1), .int (zI x2), .int (zI x3), .int (zI x4), .ref 198, .double 0] [] (zW K A1 O (t + 1)) = _
  refine Eq.trans (mG_st (i := (.iconst 2)) (len := 1) (z := (24, [.ref 0, .int (zI x1), .int (zI x2), .int (zI x3), .int (zI x4), .ref 198, .double 0], [.int (zI 2)], zW K A1 O (t + 1))) (mF_m tb_166 rfl) rfl) ?_
  exact mG_ir (len := 1) (mF_m tb_166 rfl) rfl rfl
theorem W_before {x1 x2 x3 x4 : Int} (hq : zQ ar K O t d 167 [.ref 0, .int (zI x1), .int (zI x2), .int (zI x3), .int (zI x4)] 316 [.ref 185, .int (zI x1), .int (zI x2), .int (zI x3), .int (zI x4), .double 0, .double 0, .double 0] (fun E => if E = 2 then 1 else if E = 0 then 2 else 0) A) : zWr ar K O t (d + 1) 166 [.ref 0, .int (zI x1), .int (zI x2), .int (zI x3), .int (zI x4), .ref 198, .double 0] 316 [.ref 185, .int (zI x1), .int (zI x2), .int (zI x3), .int (zI x4), .double 0, .double 0, .double 0] (fun b => (zI b).toInt64) A := by
  obtain ⟨A1, ⟨b, h1, h2, h3⟩ | ⟨E, h1, h2, h3⟩⟩ := hq
  · obtain ⟨A2, y1, y2, y3⟩ := h3 (vp_updL O 0 ((zI b).toInt64)) t
    exact ⟨0, A1, _, t, w_before_ok h1, by omega, by omega, b, A2, mGd_dp1 y1, y2, y3, fun _ => ⟨rfl, h2⟩⟩
  · obtain ⟨b, A2, y1, y2, y3⟩ := h3 O (t + 1)
    by_cases e2 : E = 2
    · subst e2
      exact ⟨1, A1, O, t + 1, w_before_x2 h1, by omega, by omega, b, A2, mGd_dp1 y1, y2, y3, fun q => by omega⟩
    by_cases e0 : E = 0
    · subst e0
      exact ⟨2, A1, O, t + 1, w_before_x0 h1, by omega, by omega, b, A2, mGd_dp1 y1, y2, y3, fun q => by omega⟩
    · exfalso
      simp only [e2, e0, if_false] at h2
      omega
theorem w_sizes_ok {x1 x2 b : Int} {A1 : Nat → Int → Int} (h : mGd ar d 171 0 [.ref 0, .int (zI x1), .int (zI x2)] [] (zW K A O t) = some (.inl (some (.int (zI b))), zW K A1 O t)) : mGd ar (d + 1) 170 0 [.ref 0, .int (zI x1), .int (zI x2), .ref 198, .double 0] [] (zW K A O t) = some (.inl (some (.int (zI 0))), zW K A1 (vp_updL O 0 ((zI b).toInt64)) t) := by
  refine Eq.trans (mG_st (i := (.aload 3)) (len := 1) (z := (1, [.ref 0, .int (zI x1), .int (zI x2), .ref 198, .double 0], [.ref 198], zW K A O t)) (mF_m tb_170 rfl) rfl) ?_
  refine Eq.trans (mG_st (i := (.iconst 0)) (len := 1) (z := (2, [.ref 0, .int (zI x1), .int (zI x2), .ref 198, .double 0], [.int (zI 0), .ref 198], zW K A O t)) (mF_m tb_170 rfl) rfl) ?_
  refine Eq.trans (mG_st (i := (.aload 0)) (len := 1) (z := (3, [.ref 0, .int (zI x1), .int (zI x2), .ref 198, .double 0], [.ref 0, .int (zI 0), .ref 198], zW K A O t)) (mF_m tb_170 rfl) rfl) ?_
  refine Eq.trans (mG_st (i := (.iload 1)) (len := 1) (z := (4, [.ref 0, .int (zI x1), .int (zI x2), .ref 198, .double 0], [.int (zI x1), .ref 0, .int (zI 0), .ref 198], zW K A O t)) (mF_m tb_170 rfl) rfl) ?_
  refine Eq.trans (mG_st (i := (.iload 2)) (len := 1) (z := (5, [.ref 0, .int (zI x1), .int (zI x2), .ref 198, .double 0], [.int (zI x2), .int (zI x1), .ref 0, .int (zI 0), .ref 198], zW K A O t)) (mF_m tb_170 rfl) rfl) ?_
  refine Eq.trans (mG_ok (i := (.invokeinterface 172 2)) (len := 3) (M' := 171) (k := 3) (v := some (.int (zI b))) (w1 := zW K A1 O t) (mF_m tb_170 rfl) (mC_if sh_0 rfl rfl rfl) rfl h) ?_
  show mGd ar (d + 1) 170 8 [.ref 0, .int (zI x1), .int (zI x2), .ref 198, .double 0] [.int (zI b), .int (zI 0), .ref 198] (zW K A1 O t) = _
  refine Eq.trans (mG_st (i := .i2l) (len := 1) (z := (9, [.ref 0, .int (zI x1), .int (zI x2), .ref 198, .double 0], [.long ((zI b).toInt64), .int (zI 0), .ref 198], zW K A1 O t)) (mF_m tb_170 rfl) rfl) ?_
  refine Eq.trans (mG_st (i := .lastore) (len := 1) (z := (10, [.ref 0, .int (zI x1), .int (zI x2), .ref 198, .double 0], [], zW K A1 (vp_updL O 0 ((zI b).toInt64)) t)) (mF_m tb_170 rfl) zM_last) ?_
  refine Eq.trans (mG_st (i := (.goto 11)) (len := 3) (z := (21, [.ref 0, .int (zI x1), .int (zI x2), .ref 198, .double 0], [], zW K A1 (vp_updL O 0 ((zI b).toInt64)) t)) (mF_m tb_170 rfl) rfl) ?_
  refine Eq.trans (mG_st (i := (.iconst 0)) (len := 1) (z := (22, [.ref 0, .int (zI x1), .int (zI x2), .ref 198, .double 0], [.int (zI 0)], zW K A1 (vp_updL O 0 ((zI b).toInt64)) t)) (mF_m tb_170 rfl) rfl) ?_
  exact mG_ir (len := 1) (mF_m tb_170 rfl) rfl rfl
theorem w_sizes_x2 {x1 x2 : Int} {A1 : Nat → Int → Int} (h : mGd ar d 171 0 [.ref 0, .int (zI x1), .int (zI x2)] [] (zW K A O t) = some (.inr 2, zW K A1 O (t + 1))) : mGd ar (d + 1) 170 0 [.ref 0, .int (zI x1), .int (zI x2), .ref 198, .double 0] [] (zW K A O t) = some (.inl (some (.int (zI 1))), zW K A1 O (t + 1)) := by
  refine Eq.trans (mG_st (i := (.aload 3)) (len := 1) (z := (1, [.ref 0, .int (zI x1), .int (zI x2), .ref 198, .double 0], [.ref 198], zW K A O t)) (mF_m tb_170 rfl) rfl) ?_
  refine Eq.trans (mG_st (i := (.iconst 0)) (len := 1) (z := (2, [.ref 0, .int (zI x1), .int (zI x2), .ref 198, .double 0], [.int (zI 0), .ref 198], zW K A O t)) (mF_m tb_170 rfl) rfl) ?_
  refine Eq.trans (mG_st (i := (.aload 0)) (len := 1) (z := (3, [.ref 0, .int (zI x1), .int (zI x2), .ref 198, .double 0], [.ref 0, .int (zI 0), .ref 198], zW K A O t)) (mF_m tb_170 rfl) rfl) ?_
  refine Eq.trans (mG_st (i := (.iload 1)) (len := 1) (z := (4, [.ref 0, .int (zI x1), .int (zI x2), .ref 198, .double 0], [.int (zI x1), .ref 0, .int (zI 0), .ref 198], zW K A O t)) (mF_m tb_170 rfl) rfl) ?_
  refine Eq.trans (mG_st (i := (.iload 2)) (len := 1) (z := (5, [.ref 0, .int (zI x1), .int (zI x2), .ref 198, .double 0], [.int (zI x2), .int (zI x1), .ref 0, .int (zI 0), .ref 198], zW K A O t)) (mF_m tb_170 rfl) rfl) ?_
  refine Eq.trans (mG_in (i := (.invokeinterface 172 2)) (len := 3) (M' := 171) (k := 3) (x := 2) (pc' := 15) (j := 4) (w1 := zW K A1 O (t + 1)) (mF_m tb_170 rfl) (mC_if sh_0 rfl rfl rfl) rfl h rfl (show mHd 170 5 2 = some (15, 4) by decide +kernel) (show 4 < 5 by decide)) ?_
  show mGd ar (d + 1) 170 15 [.ref 0, .int (zI x1), .int (zI x2), .ref 198, .double 0] [] (zW K A1 O (t + 1)) = _
  refine Eq.trans (mG_st (i := (.iconst 1)) (len := 1) (z := (16, [.ref 0, .int (zI x1), .int (zI x2), .ref 198, .double 0], [.int (zI 1)], zW K A1 O (t + 1))) (mF_m tb_170 rfl) rfl) ?_
  exact mG_ir (len := 1) (mF_m tb_170 rfl) rfl rfl
theorem w_sizes_x0 {x1 x2 : Int} {A1 : Nat → Int → Int} (h : mGd ar d 171 0 [.ref 0, .int (zI x1), .int (zI x2)] [] (zW K A O t) = some (.inr 0, zW K A1 O (t + 1))) : mGd ar (d + 1) 170 0 [.ref 0, .int (zI x1), .int (zI x2), .ref 198, .double 0] [] (zW K A O t) = some (.inl (some (.int (zI 2))), zW K A1 O (t + 1)) := by
  refine Eq.trans (mG_st (i := (.aload 3)) (len := 1) (z := (1, [.ref 0, .int (zI x1), .int (zI x2), .ref 198, .double 0], [.ref 198], zW K A O t)) (mF_m tb_170 rfl) rfl) ?_
  refine Eq.trans (mG_st (i := (.iconst 0)) (len := 1) (z := (2, [.ref 0, .int (zI x1), .int (zI x2), .ref 198, .double 0], [.int (zI 0), .ref 198], zW K A O t)) (mF_m tb_170 rfl) rfl) ?_
  refine Eq.trans (mG_st (i := (.aload 0)) (len := 1) (z := (3, [.ref 0, .int (zI x1), .int (zI x2), .ref 198, .double 0], [.ref 0, .int (zI 0), .ref 198], zW K A O t)) (mF_m tb_170 rfl) rfl) ?_
  refine Eq.trans (mG_st (i := (.iload 1)) (len := 1) (z := (4, [.ref 0, .int (zI x1), .int (zI x2), .ref 198, .double 0], [.int (zI x1), .ref 0, .int (zI 0), .ref 198], zW K A O t)) (mF_m tb_170 rfl) rfl) ?_
  refine Eq.trans (mG_st (i := (.iload 2)) (len := 1) (z := (5, [.ref 0, .int (zI x1), .int (zI x2), .ref 198, .double 0], [.int (zI x2), .int (zI x1), .ref 0, .int (zI 0), .ref 198], zW K A O t)) (mF_m tb_170 rfl) rfl) ?_
  refine Eq.trans (mG_in (i := (.invokeinterface 172 2)) (len := 3) (M' := 171) (k := 3) (x := 0) (pc' := 19) (j := 4) (w1 := zW K A1 O (t + 1)) (mF_m tb_170 rfl) (mC_if sh_0 rfl rfl rfl) rfl h rfl (show mHd 170 5 0 = some (19, 4) by decide +kernel) (show 4 < 5 by decide)) ?_
  show mGd ar (d + 1) 170 19 [.ref 0, .int (zI x1), .int (zI x2), .ref 198, .double 0] [] (zW K A1 O (t + 1)) = _
  refine Eq.trans (mG_st (i := (.iconst 2)) (len := 1) (z := (20, [.ref 0, .int (zI x1), .int (zI x2), .ref 198, .double 0], [.int (zI 2)], zW K A1 O (t + 1))) (mF_m tb_170 rfl) rfl) ?_
  exact mG_ir (len := 1) (mF_m tb_170 rfl) rfl rfl
theorem W_sizes {x1 x2 : Int} (hq : zQ ar K O t d 171 [.ref 0, .int (zI x1), .int (zI x2)] 317 [.ref 185, .int (zI x1), .int (zI x2), .double 0, .double 0, .double 0] (fun E => if E = 2 then 1 else if E = 0 then 2 else 0) A) : zWr ar K O t (d + 1) 170 [.ref 0, .int (zI x1), .int (zI x2), .ref 198, .double 0] 317 [.ref 185, .int (zI x1), .int (zI x2), .double 0, .double 0, .double 0] (fun b => (zI b).toInt64) A := by
  obtain ⟨A1, ⟨b, h1, h2, h3⟩ | ⟨E, h1, h2, h3⟩⟩ := hq
  · obtain ⟨A2, y1, y2, y3⟩ := h3 (vp_updL O 0 ((zI b).toInt64)) t
    exact ⟨0, A1, _, t, w_sizes_ok h1, by omega, by omega, b, A2, mGd_dp1 y1, y2, y3, fun _ => ⟨rfl, h2⟩⟩
  · obtain ⟨b, A2, y1, y2, y3⟩ := h3 O (t + 1)
    by_cases e2 : E = 2
    · subst e2
      exact ⟨1, A1, O, t + 1, w_sizes_x2 h1, by omega, by omega, b, A2, mGd_dp1 y1, y2, y3, fun q => by omega⟩
    by_cases e0 : E = 0
    · subst e0
      exact ⟨2, A1, O, t + 1, w_sizes_x0 h1, by omega, by omega, b, A2, mGd_dp1 y1, y2, y3, fun q => by omega⟩
    · exfalso
      simp only [e2, e0, if_false] at h2
      omega
theorem w_fits_ok {x1 x2 x3 b : Int} {A1 : Nat → Int → Int} (h : mGd ar d 174 0 [.ref 0, .int (zI x1), .int (zI x2), .int (zI x3)] [] (zW K A O t) = some (.inl (some (.int (zI b))), zW K A1 O t)) : mGd ar (d + 1) 173 0 [.ref 0, .int (zI x1), .int (zI x2), .int (zI x3), .ref 198, .double 0] [] (zW K A O t) = some (.inl (some (.int (zI 0))), zW K A1 (vp_updL O 0 ((zI b).toInt64)) t) := by
  refine Eq.trans (mG_st (i := (.aload 4)) (len := 2) (z := (2, [.ref 0, .int (zI x1), .int (zI x2), .int (zI x3), .ref 198, .double 0], [.ref 198], zW K A O t)) (mF_m tb_173 rfl) rfl) ?_
  refine Eq.trans (mG_st (i := (.iconst 0)) (len := 1) (z := (3, [.ref 0, .int (zI x1), .int (zI x2), .int (zI x3), .ref 198, .double 0], [.int (zI 0), .ref 198], zW K A O t)) (mF_m tb_173 rfl) rfl) ?_
  refine Eq.trans (mG_st (i := (.aload 0)) (len := 1) (z := (4, [.ref 0, .int (zI x1), .int (zI x2), .int (zI x3), .ref 198, .double 0], [.ref 0, .int (zI 0), .ref 198], zW K A O t)) (mF_m tb_173 rfl) rfl) ?_
  refine Eq.trans (mG_st (i := (.iload 1)) (len := 1) (z := (5, [.ref 0, .int (zI x1), .int (zI x2), .int (zI x3), .ref 198, .double 0], [.int (zI x1), .ref 0, .int (zI 0), .ref 198], zW K A O t)) (mF_m tb_173 rfl) rfl) ?_
  refine Eq.trans (mG_st (i := (.iload 2)) (len := 1) (z := (6, [.ref 0, .int (zI x1), .int (zI x2), .int (zI x3), .ref 198, .double 0], [.int (zI x2), .int (zI x1), .ref 0, .int (zI 0), .ref 198], zW K A O t)) (mF_m tb_173 rfl) rfl) ?_
  refine Eq.trans (mG_st (i := (.iload 3)) (len := 1) (z := (7, [.ref 0, .int (zI x1), .int (zI x2), .int (zI x3), .ref 198, .double 0], [.int (zI x3), .int (zI x2), .int (zI x1), .ref 0, .int (zI 0), .ref 198], zW K A O t)) (mF_m tb_173 rfl) rfl) ?_
  refine Eq.trans (mG_ok (i := (.invokeinterface 174 3)) (len := 3) (M' := 174) (k := 4) (v := some (.int (zI b))) (w1 := zW K A1 O t) (mF_m tb_173 rfl) (mC_if sh_0 rfl rfl rfl) rfl h) ?_
  show mGd ar (d + 1) 173 10 [.ref 0, .int (zI x1), .int (zI x2), .int (zI x3), .ref 198, .double 0] [.int (zI b), .int (zI 0), .ref 198] (zW K A1 O t) = _
  refine Eq.trans (mG_st (i := .i2l) (len := 1) (z := (11, [.ref 0, .int (zI x1), .int (zI x2), .int (zI x3), .ref 198, .double 0], [.long ((zI b).toInt64), .int (zI 0), .ref 198], zW K A1 O t)) (mF_m tb_173 rfl) rfl) ?_
  refine Eq.trans (mG_st (i := .lastore) (len := 1) (z := (12, [.ref 0, .int (zI x1), .int (zI x2), .int (zI x3), .ref 198, .double 0], [], zW K A1 (vp_updL O 0 ((zI b).toInt64)) t)) (mF_m tb_173 rfl) zM_last) ?_
  refine Eq.trans (mG_st (i := (.goto 11)) (len := 3) (z := (23, [.ref 0, .int (zI x1), .int (zI x2), .int (zI x3), .ref 198, .double 0], [], zW K A1 (vp_updL O 0 ((zI b).toInt64)) t)) (mF_m tb_173 rfl) rfl) ?_
  refine Eq.trans (mG_st (i := (.iconst 0)) (len := 1) (z := (24, [.ref 0, .int (zI x1), .int (zI x2), .int (zI x3), .ref 198, .double 0], [.int (zI 0)], zW K A1 (vp_updL O 0 ((zI b).toInt64)) t)) (mF_m tb_173 rfl) rfl) ?_
  exact mG_ir (len := 1) (mF_m tb_173 rfl) rfl rfl
theorem w_fits_x2 {x1 x2 x3 : Int} {A1 : Nat → Int → Int} (h : mGd ar d 174 0 [.ref 0, .int (zI x1), .int (zI x2), .int (zI x3)] [] (zW K A O t) = some (.inr 2, zW K A1 O (t + 1))) : mGd ar (d + 1) 173 0 [.ref 0, .int (zI x1), .int (zI x2), .int (zI x3), .ref 198, .double 0] [] (zW K A O t) = some (.inl (some (.int (zI 1))), zW K A1 O (t + 1)) := by
  refine Eq.trans (mG_st (i := (.aload 4)) (len := 2) (z := (2, [.ref 0, .int (zI x1), .int (zI x2), .int (zI x3), .ref 198, .double 0], [.ref 198], zW K A O t)) (mF_m tb_173 rfl) rfl) ?_
  refine Eq.trans (mG_st (i := (.iconst 0)) (len := 1) (z := (3, [.ref 0, .int (zI x1), .int (zI x2), .int (zI x3), .ref 198, .double 0], [.int (zI 0), .ref 198], zW K A O t)) (mF_m tb_173 rfl) rfl) ?_
  refine Eq.trans (mG_st (i := (.aload 0)) (len := 1) (z := (4, [.ref 0, .int (zI x1), .int (zI x2), .int (zI x3), .ref 198, .double 0], [.ref 0, .int (zI 0), .ref 198], zW K A O t)) (mF_m tb_173 rfl) rfl) ?_
  refine Eq.trans (mG_st (i := (.iload 1)) (len := 1) (z := (5, [.ref 0, .int (zI x1), .int (zI x2), .int (zI x3), .ref 198, .double 0], [.int (zI x1), .ref 0, .int (zI 0), .ref 198], zW K A O t)) (mF_m tb_173 rfl) rfl) ?_
  refine Eq.trans (mG_st (i := (.iload 2)) (len := 1) (z := (6, [.ref 0, .int (zI x1), .int (zI x2), .int (zI x3), .ref 198, .double 0], [.int (zI x2), .int (zI x1), .ref 0, .int (zI 0), .ref 198], zW K A O t)) (mF_m tb_173 rfl) rfl) ?_
  refine Eq.trans (mG_st (i := (.iload 3)) (len := 1) (z := (7, [.ref 0, .int (zI x1), .int (zI x2), .int (zI x3), .ref 198, .double 0], [.int (zI x3), .int (zI x2), .int (zI x1), .ref 0, .int (zI 0), .ref 198], zW K A O t)) (mF_m tb_173 rfl) rfl) ?_
  refine Eq.trans (mG_in (i := (.invokeinterface 174 3)) (len := 3) (M' := 174) (k := 4) (x := 2) (pc' := 17) (j := 5) (w1 := zW K A1 O (t + 1)) (mF_m tb_173 rfl) (mC_if sh_0 rfl rfl rfl) rfl h rfl (show mHd 173 7 2 = some (17, 5) by decide +kernel) (show 5 < 6 by decide)) ?_
  show mGd ar (d + 1) 173 17 [.ref 0, .int (zI x1), .int (zI x2), .int (zI x3), .ref 198, .double 0] [] (zW K A1 O (t + 1)) = _
  refine Eq.trans (mG_st (i := (.iconst 1)) (len := 1) (z := (18, [.ref 0, .int (zI x1), .int (zI x2), .int (zI x3), .ref 198, .double 0], [.int (zI 1)], zW K A1 O (t + 1))) (mF_m tb_173 rfl) rfl) ?_
  exact mG_ir (len := 1) (mF_m tb_173 rfl) rfl rfl
theorem w_fits_x0 {x1 x2 x3 : Int} {A1 : Nat → Int → Int} (h : mGd ar d 174 0 [.ref 0, .int (zI x1), .int (zI x2), .int (zI x3)] [] (zW K A O t) = some (.inr 0, zW K A1 O (t + 1))) : mGd ar (d + 1) 173 0 [.ref 0, .int (zI x1), .int (zI x2), .int (zI x3), .ref 198, .double 0] [] (zW K A O t) = some (.inl (some (.int (zI 2))), zW K A1 O (t + 1)) := by
  refine Eq.trans (mG_st (i := (.aload 4)) (len := 2) (z := (2, [.ref 0, .int (zI x1), .int (zI x2), .int (zI x3), .ref 198, .double 0], [.ref 198], zW K A O t)) (mF_m tb_173 rfl) rfl) ?_
  refine Eq.trans (mG_st (i := (.iconst 0)) (len := 1) (z := (3, [.ref 0, .int (zI x1), .int (zI x2), .int (zI x3), .ref 198, .double 0], [.int (zI 0), .ref 198], zW K A O t)) (mF_m tb_173 rfl) rfl) ?_
  refine Eq.trans (mG_st (i := (.aload 0)) (len := 1) (z := (4, [.ref 0, .int (zI x1), .int (zI x2), .int (zI x3), .ref 198, .double 0], [.ref 0, .int (zI 0), .ref 198], zW K A O t)) (mF_m tb_173 rfl) rfl) ?_
  refine Eq.trans (mG_st (i := (.iload 1)) (len := 1) (z := (5, [.ref 0, .int (zI x1), .int (zI x2), .int (zI x3), .ref 198, .double 0], [.int (zI x1), .ref 0, .int (zI 0), .ref 198], zW K A O t)) (mF_m tb_173 rfl) rfl) ?_
  refine Eq.trans (mG_st (i := (.iload 2)) (len := 1) (z := (6, [.ref 0, .int (zI x1), .int (zI x2), .int (zI x3), .ref 198, .double 0], [.int (zI x2), .int (zI x1), .ref 0, .int (zI 0), .ref 198], zW K A O t)) (mF_m tb_173 rfl) rfl) ?_
  refine Eq.trans (mG_st (i := (.iload 3)) (len := 1) (z := (7, [.ref 0, .int (zI x1), .int (zI x2), .int (zI x3), .ref 198, .double 0], [.int (zI x3), .int (zI x2), .int (zI x1), .ref 0, .int (zI 0), .ref 198], zW K A O t)) (mF_m tb_173 rfl) rfl) ?_
  refine Eq.trans (mG_in (i := (.invokeinterface 174 3)) (len := 3) (M' := 174) (k := 4) (x := 0) (pc' := 21) (j := 5) (w1 := zW K A1 O (t + 1)) (mF_m tb_173 rfl) (mC_if sh_0 rfl rfl rfl) rfl h rfl (show mHd 173 7 0 = some (21, 5) by decide +kernel) (show 5 < 6 by decide)) ?_
  show mGd ar (d + 1) 173 21 [.ref 0, .int (zI x1), .int (zI x2), .int (zI x3), .ref 198, .double 0] [] (zW K A1 O (t + 1)) = _
  refine Eq.trans (mG_st (i := (.iconst 2)) (len := 1) (z := (22, [.ref 0, .int (zI x1), .int (zI x2), .int (zI x3), .ref 198, .double 0], [.int (zI 2)], zW K A1 O (t + 1))) (mF_m tb_173 rfl) rfl) ?_
  exact mG_ir (len := 1) (mF_m tb_173 rfl) rfl rfl
theorem W_fits {x1 x2 x3 : Int} (hq : zQ ar K O t d 174 [.ref 0, .int (zI x1), .int (zI x2), .int (zI x3)] 319 [.ref 185, .int (zI x1), .int (zI x2), .int (zI x3), .double 0, .double 0, .double 0, .double 0] (fun E => if E = 2 then 1 else if E = 0 then 2 else 0) A) : zWr ar K O t (d + 1) 173 [.ref 0, .int (zI x1), .int (zI x2), .int (zI x3), .ref 198, .double 0] 319 [.ref 185, .int (zI x1), .int (zI x2), .int (zI x3), .double 0, .double 0, .double 0, .double 0] (fun b => (zI b).toInt64) A := by
  obtain ⟨A1, ⟨b, h1, h2, h3⟩ | ⟨E, h1, h2, h3⟩⟩ := hq
  · obtain ⟨A2, y1, y2, y3⟩ := h3 (vp_updL O 0 ((zI b).toInt64)) t
    exact ⟨0, A1, _, t, w_fits_ok h1, by omega, by omega, b, A2, mGd_dp1 y1, y2, y3, fun _ => ⟨rfl, h2⟩⟩
  · obtain ⟨b, A2, y1, y2, y3⟩ := h3 O (t + 1)
    by_cases e2 : E = 2
    · subst e2
      exact ⟨1, A1, O, t + 1, w_fits_x2 h1, by omega, by omega, b, A2, mGd_dp1 y1, y2, y3, fun q => by omega⟩
    by_cases e0 : E = 0
    · subst e0
      exact ⟨2, A1, O, t + 1, w_fits_x0 h1, by omega, by omega, b, A2, mGd_dp1 y1, y2, y3, fun q => by omega⟩
    · exfalso
      simp only [e2, e0, if_false] at h2
      omega
theorem w_shoe_ok {x1 x2 b : Int} {A1 : Nat → Int → Int} (h : mGd ar d 177 0 [.ref 0, .int (zI x1), .int (zI x2)] [] (zW K A O t) = some (.inl (some (.int (zI b))), zW K A1 O t)) : mGd ar (d + 1) 176 0 [.ref 0, .int (zI x1), .int (zI x2), .ref 198, .double 0] [] (zW K A O t) = some (.inl (some (.int (zI 0))), zW K A1 (vp_updL O 0 ((zI b).toInt64)) t) := by
  refine Eq.trans (mG_st (i := (.aload 3)) (len := 1) (z := (1, [.ref 0, .int (zI x1), .int (zI x2), .ref 198, .double 0], [.ref 198], zW K A O t)) (mF_m tb_176 rfl) rfl) ?_
  refine Eq.trans (mG_st (i := (.iconst 0)) (len := 1) (z := (2, [.ref 0, .int (zI x1), .int (zI x2), .ref 198, .double 0], [.int (zI 0), .ref 198], zW K A O t)) (mF_m tb_176 rfl) rfl) ?_
  refine Eq.trans (mG_st (i := (.aload 0)) (len := 1) (z := (3, [.ref 0, .int (zI x1), .int (zI x2), .ref 198, .double 0], [.ref 0, .int (zI 0), .ref 198], zW K A O t)) (mF_m tb_176 rfl) rfl) ?_
  refine Eq.trans (mG_st (i := (.iload 1)) (len := 1) (z := (4, [.ref 0, .int (zI x1), .int (zI x2), .ref 198, .double 0], [.int (zI x1), .ref 0, .int (zI 0), .ref 198], zW K A O t)) (mF_m tb_176 rfl) rfl) ?_
  refine Eq.trans (mG_st (i := (.iload 2)) (len := 1) (z := (5, [.ref 0, .int (zI x1), .int (zI x2), .ref 198, .double 0], [.int (zI x2), .int (zI x1), .ref 0, .int (zI 0), .ref 198], zW K A O t)) (mF_m tb_176 rfl) rfl) ?_
  refine Eq.trans (mG_ok (i := (.invokeinterface 176 2)) (len := 3) (M' := 177) (k := 3) (v := some (.int (zI b))) (w1 := zW K A1 O t) (mF_m tb_176 rfl) (mC_if sh_0 rfl rfl rfl) rfl h) ?_
  show mGd ar (d + 1) 176 8 [.ref 0, .int (zI x1), .int (zI x2), .ref 198, .double 0] [.int (zI b), .int (zI 0), .ref 198] (zW K A1 O t) = _
  refine Eq.trans (mG_st (i := .i2l) (len := 1) (z := (9, [.ref 0, .int (zI x1), .int (zI x2), .ref 198, .double 0], [.long ((zI b).toInt64), .int (zI 0), .ref 198], zW K A1 O t)) (mF_m tb_176 rfl) rfl) ?_
  refine Eq.trans (mG_st (i := .lastore) (len := 1) (z := (10, [.ref 0, .int (zI x1), .int (zI x2), .ref 198, .double 0], [], zW K A1 (vp_updL O 0 ((zI b).toInt64)) t)) (mF_m tb_176 rfl) zM_last) ?_
  refine Eq.trans (mG_st (i := (.goto 11)) (len := 3) (z := (21, [.ref 0, .int (zI x1), .int (zI x2), .ref 198, .double 0], [], zW K A1 (vp_updL O 0 ((zI b).toInt64)) t)) (mF_m tb_176 rfl) rfl) ?_
  refine Eq.trans (mG_st (i := (.iconst 0)) (len := 1) (z := (22, [.ref 0, .int (zI x1), .int (zI x2), .ref 198, .double 0], [.int (zI 0)], zW K A1 (vp_updL O 0 ((zI b).toInt64)) t)) (mF_m tb_176 rfl) rfl) ?_
  exact mG_ir (len := 1) (mF_m tb_176 rfl) rfl rfl
theorem w_shoe_x2 {x1 x2 : Int} {A1 : Nat → Int → Int} (h : mGd ar d 177 0 [.ref 0, .int (zI x1), .int (zI x2)] [] (zW K A O t) = some (.inr 2, zW K A1 O (t + 1))) : mGd ar (d + 1) 176 0 [.ref 0, .int (zI x1), .int (zI x2), .ref 198, .double 0] [] (zW K A O t) = some (.inl (some (.int (zI 1))), zW K A1 O (t + 1)) := by
  refine Eq.trans (mG_st (i := (.aload 3)) (len := 1) (z := (1, [.ref 0, .int (zI x1), .int (zI x2), .ref 198, .double 0], [.ref 198], zW K A O t)) (mF_m tb_176 rfl) rfl) ?_
  refine Eq.trans (mG_st (i := (.iconst 0)) (len := 1) (z := (2, [.ref 0, .int (zI x1), .int (zI x2), .ref 198, .double 0], [.int (zI 0), .ref 198], zW K A O t)) (mF_m tb_176 rfl) rfl) ?_
  refine Eq.trans (mG_st (i := (.aload 0)) (len := 1) (z := (3, [.ref 0, .int (zI x1), .int (zI x2), .ref 198, .double 0], [.ref 0, .int (zI 0), .ref 198], zW K A O t)) (mF_m tb_176 rfl) rfl) ?_
  refine Eq.trans (mG_st (i := (.iload 1)) (len := 1) (z := (4, [.ref 0, .int (zI x1), .int (zI x2), .ref 198, .double 0], [.int (zI x1), .ref 0, .int (zI 0), .ref 198], zW K A O t)) (mF_m tb_176 rfl) rfl) ?_
  refine Eq.trans (mG_st (i := (.iload 2)) (len := 1) (z := (5, [.ref 0, .int (zI x1), .int (zI x2), .ref 198, .double 0], [.int (zI x2), .int (zI x1), .ref 0, .int (zI 0), .ref 198], zW K A O t)) (mF_m tb_176 rfl) rfl) ?_
  refine Eq.trans (mG_in (i := (.invokeinterface 176 2)) (len := 3) (M' := 177) (k := 3) (x := 2) (pc' := 15) (j := 4) (w1 := zW K A1 O (t + 1)) (mF_m tb_176 rfl) (mC_if sh_0 rfl rfl rfl) rfl h rfl (show mHd 176 5 2 = some (15, 4) by decide +kernel) (show 4 < 5 by decide)) ?_
  show mGd ar (d + 1) 176 15 [.ref 0, .int (zI x1), .int (zI x2), .ref 198, .double 0] [] (zW K A1 O (t + 1)) = _
  refine Eq.trans (mG_st (i := (.iconst 1)) (len := 1) (z := (16, [.ref 0, .int (zI x1), .int (zI x2), .ref 198, .double 0], [.int (zI 1)], zW K A1 O (t + 1))) (mF_m tb_176 rfl) rfl) ?_
  exact mG_ir (len := 1) (mF_m tb_176 rfl) rfl rfl
theorem w_shoe_x0 {x1 x2 : Int} {A1 : Nat → Int → Int} (h : mGd ar d 177 0 [.ref 0, .int (zI x1), .int (zI x2)] [] (zW K A O t) = some (.inr 0, zW K A1 O (t + 1))) : mGd ar (d + 1) 176 0 [.ref 0, .int (zI x1), .int (zI x2), .ref 198, .double 0] [] (zW K A O t) = some (.inl (some (.int (zI 2))), zW K A1 O (t + 1)) := by
  refine Eq.trans (mG_st (i := (.aload 3)) (len := 1) (z := (1, [.ref 0, .int (zI x1), .int (zI x2), .ref 198, .double 0], [.ref 198], zW K A O t)) (mF_m tb_176 rfl) rfl) ?_
  refine Eq.trans (mG_st (i := (.iconst 0)) (len := 1) (z := (2, [.ref 0, .int (zI x1), .int (zI x2), .ref 198, .double 0], [.int (zI 0), .ref 198], zW K A O t)) (mF_m tb_176 rfl) rfl) ?_
  refine Eq.trans (mG_st (i := (.aload 0)) (len := 1) (z := (3, [.ref 0, .int (zI x1), .int (zI x2), .ref 198, .double 0], [.ref 0, .int (zI 0), .ref 198], zW K A O t)) (mF_m tb_176 rfl) rfl) ?_
  refine Eq.trans (mG_st (i := (.iload 1)) (len := 1) (z := (4, [.ref 0, .int (zI x1), .int (zI x2), .ref 198, .double 0], [.int (zI x1), .ref 0, .int (zI 0), .ref 198], zW K A O t)) (mF_m tb_176 rfl) rfl) ?_
  refine Eq.trans (mG_st (i := (.iload 2)) (len := 1) (z := (5, [.ref 0, .int (zI x1), .int (zI x2), .ref 198, .double 0], [.int (zI x2), .int (zI x1), .ref 0, .int (zI 0), .ref 198], zW K A O t)) (mF_m tb_176 rfl) rfl) ?_
  refine Eq.trans (mG_in (i := (.invokeinterface 176 2)) (len := 3) (M' := 177) (k := 3) (x := 0) (pc' := 19) (j := 4) (w1 := zW K A1 O (t + 1)) (mF_m tb_176 rfl) (mC_if sh_0 rfl rfl rfl) rfl h rfl (show mHd 176 5 0 = some (19, 4) by decide +kernel) (show 4 < 5 by decide)) ?_
  show mGd ar (d + 1) 176 19 [.ref 0, .int (zI x1), .int (zI x2), .ref 198, .double 0] [] (zW K A1 O (t + 1)) = _
  refine Eq.trans (mG_st (i := (.iconst 2)) (len := 1) (z := (20, [.ref 0, .int (zI x1), .int (zI x2), .ref 198, .double 0], [.int (zI 2)], zW K A1 O (t + 1))) (mF_m tb_176 rfl) rfl) ?_
  exact mG_ir (len := 1) (mF_m tb_176 rfl) rfl rfl
theorem W_shoe {x1 x2 : Int} (hq : zQ ar K O t d 177 [.ref 0, .int (zI x1), .int (zI x2)] 320 [.ref 185, .int (zI x1), .int (zI x2), .double 0, .double 0, .double 0, .double 0] (fun E => if E = 2 then 1 else if E = 0 then 2 else 0) A) : zWr ar K O t (d + 1) 176 [.ref 0, .int (zI x1), .int (zI x2), .ref 198, .double 0] 320 [.ref 185, .int (zI x1), .int (zI x2), .double 0, .double 0, .double 0, .double 0] (fun b => (zI b).toInt64) A := by
  obtain ⟨A1, ⟨b, h1, h2, h3⟩ | ⟨E, h1, h2, h3⟩⟩ := hq
  · obtain ⟨A2, y1, y2, y3⟩ := h3 (vp_updL O 0 ((zI b).toInt64)) t
    exact ⟨0, A1, _, t, w_shoe_ok h1, by omega, by omega, b, A2, mGd_dp1 y1, y2, y3, fun _ => ⟨rfl, h2⟩⟩
  · obtain ⟨b, A2, y1, y2, y3⟩ := h3 O (t + 1)
    by_cases e2 : E = 2
    · subst e2
      exact ⟨1, A1, O, t + 1, w_shoe_x2 h1, by omega, by omega, b, A2, mGd_dp1 y1, y2, y3, fun q => by omega⟩
    by_cases e0 : E = 0
    · subst e0
      exact ⟨2, A1, O, t + 1, w_shoe_x0 h1, by omega, by omega, b, A2, mGd_dp1 y1, y2, y3, fun q => by omega⟩
    · exfalso
      simp only [e2, e0, if_false] at h2
      omega
theorem w_pull_ok {x1 x2 x3 b : Int} {A1 : Nat → Int → Int} (h : mGd ar d 180 0 [.ref 0, .int (zI x1), .int (zI x2), .int (zI x3)] [] (zW K A O t) = some (.inl (some (.int (zI b))), zW K A1 O t)) : mGd ar (d + 1) 179 0 [.ref 0, .int (zI x1), .int (zI x2), .int (zI x3), .ref 198, .double 0] [] (zW K A O t) = some (.inl (some (.int (zI 0))), zW K A1 (vp_updL O 0 ((zI b).toInt64)) t) := by
  refine Eq.trans (mG_st (i := (.aload 4)) (len := 2) (z := (2, [.ref 0, .int (zI x1), .int (zI x2), .int (zI x3), .ref 198, .double 0], [.ref 198], zW K A O t)) (mF_m tb_179 rfl) rfl) ?_
  refine Eq.trans (mG_st (i := (.iconst 0)) (len := 1) (z := (3, [.ref 0, .int (zI x1), .int (zI x2), .int (zI x3), .ref 198, .double 0], [.int (zI 0), .ref 198], zW K A O t)) (mF_m tb_179 rfl) rfl) ?_
  refine Eq.trans (mG_st (i := (.aload 0)) (len := 1) (z := (4, [.ref 0, .int (zI x1), .int (zI x2), .int (zI x3), .ref 198, .double 0], [.ref 0, .int (zI 0), .ref 198], zW K A O t)) (mF_m tb_179 rfl) rfl) ?_
  refine Eq.trans (mG_st (i := (.iload 1)) (len := 1) (z := (5, [.ref 0, .int (zI x1), .int (zI x2), .int (zI x3), .ref 198, .double 0], [.int (zI x1), .ref 0, .int (zI 0), .ref 198], zW K A O t)) (mF_m tb_179 rfl) rfl) ?_
  refine Eq.trans (mG_st (i := (.iload 2)) (len := 1) (z := (6, [.ref 0, .int (zI x1), .int (zI x2), .int (zI x3), .ref 198, .double 0], [.int (zI x2), .int (zI x1), .ref 0, .int (zI 0), .ref 198], zW K A O t)) (mF_m tb_179 rfl) rfl) ?_
  refine Eq.trans (mG_st (i := (.iload 3)) (len := 1) (z := (7, [.ref 0, .int (zI x1), .int (zI x2), .int (zI x3), .ref 198, .double 0], [.int (zI x3), .int (zI x2), .int (zI x1), .ref 0, .int (zI 0), .ref 198], zW K A O t)) (mF_m tb_179 rfl) rfl) ?_
  refine Eq.trans (mG_ok (i := (.invokeinterface 178 3)) (len := 3) (M' := 180) (k := 4) (v := some (.int (zI b))) (w1 := zW K A1 O t) (mF_m tb_179 rfl) (mC_if sh_0 rfl rfl rfl) rfl h) ?_
  show mGd ar (d + 1) 179 10 [.ref 0, .int (zI x1), .int (zI x2), .int (zI x3), .ref 198, .double 0] [.int (zI b), .int (zI 0), .ref 198] (zW K A1 O t) = _
  refine Eq.trans (mG_st (i := .i2l) (len := 1) (z := (11, [.ref 0, .int (zI x1), .int (zI x2), .int (zI x3), .ref 198, .double 0], [.long ((zI b).toInt64), .int (zI 0), .ref 198], zW K A1 O t)) (mF_m tb_179 rfl) rfl) ?_
  refine Eq.trans (mG_st (i := .lastore) (len := 1) (z := (12, [.ref 0, .int (zI x1), .int (zI x2), .int (zI x3), .ref 198, .double 0], [], zW K A1 (vp_updL O 0 ((zI b).toInt64)) t)) (mF_m tb_179 rfl) zM_last) ?_
  refine Eq.trans (mG_st (i := (.goto 11)) (len := 3) (z := (23, [.ref 0, .int (zI x1), .int (zI x2), .int (zI x3), .ref 198, .double 0], [], zW K A1 (vp_updL O 0 ((zI b).toInt64)) t)) (mF_m tb_179 rfl) rfl) ?_
  refine Eq.trans (mG_st (i := (.iconst 0)) (len := 1) (z := (24, [.ref 0, .int (zI x1), .int (zI x2), .int (zI x3), .ref 198, .double 0], [.int (zI 0)], zW K A1 (vp_updL O 0 ((zI b).toInt64)) t)) (mF_m tb_179 rfl) rfl) ?_
  exact mG_ir (len := 1) (mF_m tb_179 rfl) rfl rfl
theorem w_pull_x2 {x1 x2 x3 : Int} {A1 : Nat → Int → Int} (h : mGd ar d 180 0 [.ref 0, .int (zI x1), .int (zI x2), .int (zI x3)] [] (zW K A O t) = some (.inr 2, zW K A1 O (t + 1))) : mGd ar (d + 1) 179 0 [.ref 0, .int (zI x1), .int (zI x2), .int (zI x3), .ref 198, .double 0] [] (zW K A O t) = some (.inl (some (.int (zI 1))), zW K A1 O (t + 1)) := by
  refine Eq.trans (mG_st (i := (.aload 4)) (len := 2) (z := (2, [.ref 0, .int (zI x1), .int (zI x2), .int (zI x3), .ref 198, .double 0], [.ref 198], zW K A O t)) (mF_m tb_179 rfl) rfl) ?_
  refine Eq.trans (mG_st (i := (.iconst 0)) (len := 1) (z := (3, [.ref 0, .int (zI x1), .int (zI x2), .int (zI x3), .ref 198, .double 0], [.int (zI 0), .ref 198], zW K A O t)) (mF_m tb_179 rfl) rfl) ?_
  refine Eq.trans (mG_st (i := (.aload 0)) (len := 1) (z := (4, [.ref 0, .int (zI x1), .int (zI x2), .int (zI x3), .ref 198, .double 0], [.ref 0, .int (zI 0), .ref 198], zW K A O t)) (mF_m tb_179 rfl) rfl) ?_
  refine Eq.trans (mG_st (i := (.iload 1)) (len := 1) (z := (5, [.ref 0, .int (zI x1), .int (zI x2), .int (zI x3), .ref 198, .double 0], [.int (zI x1), .ref 0, .int (zI 0), .ref 198], zW K A O t)) (mF_m tb_179 rfl) rfl) ?_
  refine Eq.trans (mG_st (i := (.iload 2)) (len := 1) (z := (6, [.ref 0, .int (zI x1), .int (zI x2), .int (zI x3), .ref 198, .double 0], [.int (zI x2), .int (zI x1), .ref 0, .int (zI 0), .ref 198], zW K A O t)) (mF_m tb_179 rfl) rfl) ?_
  refine Eq.trans (mG_st (i := (.iload 3)) (len := 1) (z := (7, [.ref 0, .int (zI x1), .int (zI x2), .int (zI x3), .ref 198, .double 0], [.int (zI x3), .int (zI x2), .int (zI x1), .ref 0, .int (zI 0), .ref 198], zW K A O t)) (mF_m tb_179 rfl) rfl) ?_
  refine Eq.trans (mG_in (i := (.invokeinterface 178 3)) (len := 3) (M' := 180) (k := 4) (x := 2) (pc' := 17) (j := 5) (w1 := zW K A1 O (t + 1)) (mF_m tb_179 rfl) (mC_if sh_0 rfl rfl rfl) rfl h rfl (show mHd 179 7 2 = some (17, 5) by decide +kernel) (show 5 < 6 by decide)) ?_
  show mGd ar (d + 1) 179 17 [.ref 0, .int (zI x1), .int (zI x2), .int (zI x3), .ref 198, .double 0] [] (zW K A1 O (t + 1)) = _
  refine Eq.trans (mG_st (i := (.iconst 1)) (len := 1) (z := (18, [.ref 0, .int (zI x1), .int (zI x2), .int (zI x3), .ref 198, .double 0], [.int (zI 1)], zW K A1 O (t + 1))) (mF_m tb_179 rfl) rfl) ?_
  exact mG_ir (len := 1) (mF_m tb_179 rfl) rfl rfl
theorem w_pull_x0 {x1 x2 x3 : Int} {A1 : Nat → Int → Int} (h : mGd ar d 180 0 [.ref 0, .int (zI x1), .int (zI x2), .int (zI x3)] [] (zW K A O t) = some (.inr 0, zW K A1 O (t + 1))) : mGd ar (d + 1) 179 0 [.ref 0, .int (zI x1), .int (zI x2), .int (zI x3), .ref 198, .double 0] [] (zW K A O t) = some (.inl (some (.int (zI 2))), zW K A1 O (t + 1)) := by
  refine Eq.trans (mG_st (i := (.aload 4)) (len := 2) (z := (2, [.ref 0, .int (zI x1), .int (zI x2), .int (zI x3), .ref 198, .double 0], [.ref 198], zW K A O t)) (mF_m tb_179 rfl) rfl) ?_
  refine Eq.trans (mG_st (i := (.iconst 0)) (len := 1) (z := (3, [.ref 0, .int (zI x1), .int (zI x2), .int (zI x3), .ref 198, .double 0], [.int (zI 0), .ref 198], zW K A O t)) (mF_m tb_179 rfl) rfl) ?_
  refine Eq.trans (mG_st (i := (.aload 0)) (len := 1) (z := (4, [.ref 0, .int (zI x1), .int (zI x2), .int (zI x3), .ref 198, .double 0], [.ref 0, .int (zI 0), .ref 198], zW K A O t)) (mF_m tb_179 rfl) rfl) ?_
  refine Eq.trans (mG_st (i := (.iload 1)) (len := 1) (z := (5, [.ref 0, .int (zI x1), .int (zI x2), .int (zI x3), .ref 198, .double 0], [.int (zI x1), .ref 0, .int (zI 0), .ref 198], zW K A O t)) (mF_m tb_179 rfl) rfl) ?_
  refine Eq.trans (mG_st (i := (.iload 2)) (len := 1) (z := (6, [.ref 0, .int (zI x1), .int (zI x2), .int (zI x3), .ref 198, .double 0], [.int (zI x2), .int (zI x1), .ref 0, .int (zI 0), .ref 198], zW K A O t)) (mF_m tb_179 rfl) rfl) ?_
  refine Eq.trans (mG_st (i := (.iload 3)) (len := 1) (z := (7, [.ref 0, .int (zI x1), .int (zI x2), .int (zI x3), .ref 198, .double 0], [.int (zI x3), .int (zI x2), .int (zI x1), .ref 0, .int (zI 0), .ref 198], zW K A O t)) (mF_m tb_179 rfl) rfl) ?_
  refine Eq.trans (mG_in (i := (.invokeinterface 178 3)) (len := 3) (M' := 180) (k := 4) (x := 0) (pc' := 21) (j := 5) (w1 := zW K A1 O (t + 1)) (mF_m tb_179 rfl) (mC_if sh_0 rfl rfl rfl) rfl h rfl (show mHd 179 7 0 = some (21, 5) by decide +kernel) (show 5 < 6 by decide)) ?_
  show mGd ar (d + 1) 179 21 [.ref 0, .int (zI x1), .int (zI x2), .int (zI x3), .ref 198, .double 0] [] (zW K A1 O (t + 1)) = _
  refine Eq.trans (mG_st (i := (.iconst 2)) (len := 1) (z := (22, [.ref 0, .int (zI x1), .int (zI x2), .int (zI x3), .ref 198, .double 0], [.int (zI 2)], zW K A1 O (t + 1))) (mF_m tb_179 rfl) rfl) ?_
  exact mG_ir (len := 1) (mF_m tb_179 rfl) rfl rfl
theorem W_pull {x1 x2 x3 : Int} (hq : zQ ar K O t d 180 [.ref 0, .int (zI x1), .int (zI x2), .int (zI x3)] 321 [.ref 185, .int (zI x1), .int (zI x2), .int (zI x3), .double 0, .double 0, .double 0] (fun E => if E = 2 then 1 else if E = 0 then 2 else 0) A) : zWr ar K O t (d + 1) 179 [.ref 0, .int (zI x1), .int (zI x2), .int (zI x3), .ref 198, .double 0] 321 [.ref 185, .int (zI x1), .int (zI x2), .int (zI x3), .double 0, .double 0, .double 0] (fun b => (zI b).toInt64) A := by
  obtain ⟨A1, ⟨b, h1, h2, h3⟩ | ⟨E, h1, h2, h3⟩⟩ := hq
  · obtain ⟨A2, y1, y2, y3⟩ := h3 (vp_updL O 0 ((zI b).toInt64)) t
    exact ⟨0, A1, _, t, w_pull_ok h1, by omega, by omega, b, A2, mGd_dp1 y1, y2, y3, fun _ => ⟨rfl, h2⟩⟩
  · obtain ⟨b, A2, y1, y2, y3⟩ := h3 O (t + 1)
    by_cases e2 : E = 2
    · subst e2
      exact ⟨1, A1, O, t + 1, w_pull_x2 h1, by omega, by omega, b, A2, mGd_dp1 y1, y2, y3, fun q => by omega⟩
    by_cases e0 : E = 0
    · subst e0
      exact ⟨2, A1, O, t + 1, w_pull_x0 h1, by omega, by omega, b, A2, mGd_dp1 y1, y2, y3, fun q => by omega⟩
    · exfalso
      simp only [e2, e0, if_false] at h2
      omega
theorem w_samples_ok {x1 x2 x3 x4 b : Int} {A1 : Nat → Int → Int} (h : mGd ar d 186 0 [.ref 0, .int (zI x1), .int (zI x2), .int (zI x3), .int (zI x4)] [] (zW K A O t) = some (.inl (some (.int (zI b))), zW K A1 O t)) : mGd ar (d + 1) 185 0 [.ref 0, .int (zI x1), .int (zI x2), .int (zI x3), .int (zI x4), .ref 198, .double 0] [] (zW K A O t) = some (.inl (some (.int (zI 0))), zW K A1 (vp_updL O 0 ((zI b).toInt64)) t) := by
  refine Eq.trans (mG_st (i := (.aload 5)) (len := 2) (z := (2, [.ref 0, .int (zI x1), .int (zI x2), .int (zI x3), .int (zI x4), .ref 198, .double 0], [.ref 198], zW K A O t)) (mF_m tb_185 rfl) rfl) ?_
  refine Eq.trans (mG_st (i := (.iconst 0)) (len := 1) (z := (3, [.ref 0, .int (zI x1), .int (zI x2), .int (zI x3), .int (zI x4), .ref 198, .double 0], [.int (zI 0), .ref 198], zW K A O t)) (mF_m tb_185 rfl) rfl) ?_
  refine Eq.trans (mG_st (i := (.aload 0)) (len := 1) (z := (4, [.ref 0, .int (zI x1), .int (zI x2), .int (zI x3), .int (zI x4), .ref 198, .double 0], [.ref 0, .int (zI 0), .ref 198], zW K A O t)) (mF_m tb_185 rfl) rfl) ?_
  refine Eq.trans (mG_st (i := (.iload 1)) (len := 1) (z := (5, [.ref 0, .int (zI x1), .int (zI x2), .int (zI x3), .int (zI x4), .ref 198, .double 0], [.int (zI x1), .ref 0, .int (zI 0), .ref 198], zW K A O t)) (mF_m tb_185 rfl) rfl) ?_
  refine Eq.trans (mG_st (i := (.iload 2)) (len := 1) (z := (6, [.ref 0, .int (zI x1), .int (zI x2), .int (zI x3), .int (zI x4), .ref 198, .double 0], [.int (zI x2), .int (zI x1), .ref 0, .int (zI 0), .ref 198], zW K A O t)) (mF_m tb_185 rfl) rfl) ?_
  refine Eq.trans (mG_st (i := (.iload 3)) (len := 1) (z := (7, [.ref 0, .int (zI x1), .int (zI x2), .int (zI x3), .int (zI x4), .ref 198, .double 0], [.int (zI x3), .int (zI x2), .int (zI x1), .ref 0, .int (zI 0), .ref 198], zW K A O t)) (mF_m tb_185 rfl) rfl) ?_
  refine Eq.trans (mG_st (i := (.iload 4)) (len := 2) (z := (9, [.ref 0, .int (zI x1), .int (zI x2), .int (zI x3), .int (zI x4), .ref 198, .double 0], [.int (zI x4), .int (zI x3), .int (zI x2), .int (zI x1), .ref 0, .int (zI 0), .ref 198], zW K A O t)) (mF_m tb_185 rfl) rfl) ?_
  refine Eq.trans (mG_ok (i := (.invokeinterface 182 4)) (len := 3) (M' := 186) (k := 5) (v := some (.int (zI b))) (w1 := zW K A1 O t) (mF_m tb_185 rfl) (mC_if sh_0 rfl rfl rfl) rfl h) ?_
  show mGd ar (d + 1) 185 12 [.ref 0, .int (zI x1), .int (zI x2), .int (zI x3), .int (zI x4), .ref 198, .double 0] [.int (zI b), .int (zI 0), .ref 198] (zW K A1 O t) = _
  refine Eq.trans (mG_st (i := .i2l) (len := 1) (z := (13, [.ref 0, .int (zI x1), .int (zI x2), .int (zI x3), .int (zI x4), .ref 198, .double 0], [.long ((zI b).toInt64), .int (zI 0), .ref 198], zW K A1 O t)) (mF_m tb_185 rfl) rfl) ?_
  refine Eq.trans (mG_st (i := .lastore) (len := 1) (z := (14, [.ref 0, .int (zI x1), .int (zI x2), .int (zI x3), .int (zI x4), .ref 198, .double 0], [], zW K A1 (vp_updL O 0 ((zI b).toInt64)) t)) (mF_m tb_185 rfl) zM_last) ?_
  refine Eq.trans (mG_st (i := (.goto 11)) (len := 3) (z := (25, [.ref 0, .int (zI x1), .int (zI x2), .int (zI x3), .int (zI x4), .ref 198, .double 0], [], zW K A1 (vp_updL O 0 ((zI b).toInt64)) t)) (mF_m tb_185 rfl) rfl) ?_
  refine Eq.trans (mG_st (i := (.iconst 0)) (len := 1) (z := (26, [.ref 0, .int (zI x1), .int (zI x2), .int (zI x3), .int (zI x4), .ref 198, .double 0], [.int (zI 0)], zW K A1 (vp_updL O 0 ((zI b).toInt64)) t)) (mF_m tb_185 rfl) rfl) ?_
  exact mG_ir (len := 1) (mF_m tb_185 rfl) rfl rfl
theorem w_samples_x2 {x1 x2 x3 x4 : Int} {A1 : Nat → Int → Int} (h : mGd ar d 186 0 [.ref 0, .int (zI x1), .int (zI x2), .int (zI x3), .int (zI x4)] [] (zW K A O t) = some (.inr 2, zW K A1 O (t + 1))) : mGd ar (d + 1) 185 0 [.ref 0, .int (zI x1), .int (zI x2), .int (zI x3), .int (zI x4), .ref 198, .double 0] [] (zW K A O t) = some (.inl (some (.int (zI 1))), zW K A1 O (t + 1)) := by
  refine Eq.trans (mG_st (i := (.aload 5)) (len := 2) (z := (2, [.ref 0, .int (zI x1), .int (zI x2), .int (zI x3), .int (zI x4), .ref 198, .double 0], [.ref 198], zW K A O t)) (mF_m tb_185 rfl) rfl) ?_
  refine Eq.trans (mG_st (i := (.iconst 0)) (len := 1) (z := (3, [.ref 0, .int (zI x1), .int (zI x2), .int (zI x3), .int (zI x4), .ref 198, .double 0], [.int (zI 0), .ref 198], zW K A O t)) (mF_m tb_185 rfl) rfl) ?_
  refine Eq.trans (mG_st (i := (.aload 0)) (len := 1) (z := (4, [.ref 0, .int (zI x1), .int (zI x2), .int (zI x3), .int (zI x4), .ref 198, .double 0], [.ref 0, .int (zI 0), .ref 198], zW K A O t)) (mF_m tb_185 rfl) rfl) ?_
  refine Eq.trans (mG_st (i := (.iload 1)) (len := 1) (z := (5, [.ref 0, .int (zI x1), .int (zI x2), .int (zI x3), .int (zI x4), .ref 198, .double 0], [.int (zI x1), .ref 0, .int (zI 0), .ref 198], zW K A O t)) (mF_m tb_185 rfl) rfl) ?_
  refine Eq.trans (mG_st (i := (.iload 2)) (len := 1) (z := (6, [.ref 0, .int (zI x1), .int (zI x2), .int (zI x3), .int (zI x4), .ref 198, .double 0], [.int (zI x2), .int (zI x1), .ref 0, .int (zI 0), .ref 198], zW K A O t)) (mF_m tb_185 rfl) rfl) ?_
  refine Eq.trans (mG_st (i := (.iload 3)) (len := 1) (z := (7, [.ref 0, .int (zI x1), .int (zI x2), .int (zI x3), .int (zI x4), .ref 198, .double 0], [.int (zI x3), .int (zI x2), .int (zI x1), .ref 0, .int (zI 0), .ref 198], zW K A O t)) (mF_m tb_185 rfl) rfl) ?_
  refine Eq.trans (mG_st (i := (.iload 4)) (len := 2) (z := (9, [.ref 0, .int (zI x1), .int (zI x2), .int (zI x3), .int (zI x4), .ref 198, .double 0], [.int (zI x4), .int (zI x3), .int (zI x2), .int (zI x1), .ref 0, .int (zI 0), .ref 198], zW K A O t)) (mF_m tb_185 rfl) rfl) ?_
  refine Eq.trans (mG_in (i := (.invokeinterface 182 4)) (len := 3) (M' := 186) (k := 5) (x := 2) (pc' := 19) (j := 6) (w1 := zW K A1 O (t + 1)) (mF_m tb_185 rfl) (mC_if sh_0 rfl rfl rfl) rfl h rfl (show mHd 185 9 2 = some (19, 6) by decide +kernel) (show 6 < 7 by decide)) ?_
  show mGd ar (d + 1) 185 19 [.ref 0, .int (zI x1), .int (zI x2), .int (zI x3), .int (zI x4), .ref 198, .double 0] [] (zW K A1 O (t + 1)) = _
  refine Eq.trans (mG_st (i := (.iconst 1)) (len := 1) (z := (20, [.ref 0, .int (zI x1), .int (zI x2), .int (zI x3), .int (zI x4), .ref 198, .double 0], [.int (zI 1)], zW K A1 O (t + 1))) (mF_m tb_185 rfl) rfl) ?_
  exact mG_ir (len := 1) (mF_m tb_185 rfl) rfl rfl
theorem w_samples_x0 {x1 x2 x3 x4 : Int} {A1 : Nat → Int → Int} (h : mGd ar d 186 0 [.ref 0, .int (zI x1), .int (zI x2), .int (zI x3), .int (zI x4)] [] (zW K A O t) = some (.inr 0, zW K A1 O (t + 1))) : mGd ar (d + 1) 185 0 [.ref 0, .int (zI x1), .int (zI x2), .int (zI x3), .int (zI x4), .ref 198, .double 0] [] (zW K A O t) = some (.inl (some (.int (zI 2))), zW K A1 O (t + 1)) := by
  refine Eq.trans (mG_st (i := (.aload 5)) (len := 2) (z := (2, [.ref 0, .int (zI x1), .int (zI x2), .int (zI x3), .int (zI x4), .ref 198, .double 0], [.ref 198], zW K A O t)) (mF_m tb_185 rfl) rfl) ?_
  refine Eq.trans (mG_st (i := (.iconst 0)) (len := 1) (z := (3, [.ref 0, .int (zI x1), .int (zI x2), .int (zI x3), .int (zI x4), .ref 198, .double 0], [.int (zI 0), .ref 198], zW K A O t)) (mF_m tb_185 rfl) rfl) ?_
  refine Eq.trans (mG_st (i := (.aload 0)) (len := 1) (z := (4, [.ref 0, .int (zI x1), .int (zI x2), .int (zI x3), .int (zI x4), .ref 198, .double 0], [.ref 0, .int (zI 0), .ref 198], zW K A O t)) (mF_m tb_185 rfl) rfl) ?_
  refine Eq.trans (mG_st (i := (.iload 1)) (len := 1) (z := (5, [.ref 0, .int (zI x1), .int (zI x2), .int (zI x3), .int (zI x4), .ref 198, .double 0], [.int (zI x1), .ref 0, .int (zI 0), .ref 198], zW K A O t)) (mF_m tb_185 rfl) rfl) ?_
  refine Eq.trans (mG_st (i := (.iload 2)) (len := 1) (z := (6, [.ref 0, .int (zI x1), .int (zI x2), .int (zI x3), .int (zI x4), .ref 198, .double 0], [.int (zI x2), .int (zI x1), .ref 0, .int (zI 0), .ref 198], zW K A O t)) (mF_m tb_185 rfl) rfl) ?_
  refine Eq.trans (mG_st (i := (.iload 3)) (len := 1) (z := (7, [.ref 0, .int (zI x1), .int (zI x2), .int (zI x3), .int (zI x4), .ref 198, .double 0], [.int (zI x3), .int (zI x2), .int (zI x1), .ref 0, .int (zI 0), .ref 198], zW K A O t)) (mF_m tb_185 rfl) rfl) ?_
  refine Eq.trans (mG_st (i := (.iload 4)) (len := 2) (z := (9, [.ref 0, .int (zI x1), .int (zI x2), .int (zI x3), .int (zI x4), .ref 198, .double 0], [.int (zI x4), .int (zI x3), .int (zI x2), .int (zI x1), .ref 0, .int (zI 0), .ref 198], zW K A O t)) (mF_m tb_185 rfl) rfl) ?_
  refine Eq.trans (mG_in (i := (.invokeinterface 182 4)) (len := 3) (M' := 186) (k := 5) (x := 0) (pc' := 23) (j := 6) (w1 := zW K A1 O (t + 1)) (mF_m tb_185 rfl) (mC_if sh_0 rfl rfl rfl) rfl h rfl (show mHd 185 9 0 = some (23, 6) by decide +kernel) (show 6 < 7 by decide)) ?_
  show mGd ar (d + 1) 185 23 [.ref 0, .int (zI x1), .int (zI x2), .int (zI x3), .int (zI x4), .ref 198, .double 0] [] (zW K A1 O (t + 1)) = _
  refine Eq.trans (mG_st (i := (.iconst 2)) (len := 1) (z := (24, [.ref 0, .int (zI x1), .int (zI x2), .int (zI x3), .int (zI x4), .ref 198, .double 0], [.int (zI 2)], zW K A1 O (t + 1))) (mF_m tb_185 rfl) rfl) ?_
  exact mG_ir (len := 1) (mF_m tb_185 rfl) rfl rfl
theorem W_samples {x1 x2 x3 x4 : Int} (hq : zQ ar K O t d 186 [.ref 0, .int (zI x1), .int (zI x2), .int (zI x3), .int (zI x4)] 325 [.ref 185, .int (zI x1), .int (zI x2), .int (zI x3), .int (zI x4), .double 0, .double 0] (fun E => if E = 2 then 1 else if E = 0 then 2 else 0) A) : zWr ar K O t (d + 1) 185 [.ref 0, .int (zI x1), .int (zI x2), .int (zI x3), .int (zI x4), .ref 198, .double 0] 325 [.ref 185, .int (zI x1), .int (zI x2), .int (zI x3), .int (zI x4), .double 0, .double 0] (fun b => (zI b).toInt64) A := by
  obtain ⟨A1, ⟨b, h1, h2, h3⟩ | ⟨E, h1, h2, h3⟩⟩ := hq
  · obtain ⟨A2, y1, y2, y3⟩ := h3 (vp_updL O 0 ((zI b).toInt64)) t
    exact ⟨0, A1, _, t, w_samples_ok h1, by omega, by omega, b, A2, mGd_dp1 y1, y2, y3, fun _ => ⟨rfl, h2⟩⟩
  · obtain ⟨b, A2, y1, y2, y3⟩ := h3 O (t + 1)
    by_cases e2 : E = 2
    · subst e2
      exact ⟨1, A1, O, t + 1, w_samples_x2 h1, by omega, by omega, b, A2, mGd_dp1 y1, y2, y3, fun q => by omega⟩
    by_cases e0 : E = 0
    · subst e0
      exact ⟨2, A1, O, t + 1, w_samples_x0 h1, by omega, by omega, b, A2, mGd_dp1 y1, y2, y3, fun q => by omega⟩
    · exfalso
      simp only [e2, e0, if_false] at h2
      omega
end WRAP18
