/-! THE LAW, 2: wrappers (by program: wip/gen/gen30.py) -/
section WRAP0
variable {ar : Nat → Nat × (Nat → Int32)} {d D t : Nat} {K : Nat → Nat → Option Nat} {A : Nat → Int → Int} {O : Nat → Int64}

theorem w_hall_ok {b : Int} {A1 : Nat → Int → Int} (h : mGd ar d 65 0 [.ref 0] [] (zW K A O t) = some (.inl (some (.int (zI b))), zW K A1 O t)) : mGd ar (d + 1) 64 0 [.ref 0, .ref 198, .double 0] [] (zW K A O t) = some (.inl (some (.int (zI 0))), zW K A1 (vp_updL O 0 ((zI b).toInt64)) t) := by
  refine Eq.trans (mG_st (i := (.aload 1)) (len := 1) (z := (1, [.ref 0, .ref 198, .double 0], [.ref 198], zW K A O t)) (mF_m tb_64 rfl) rfl) ?_
  refine Eq.trans (mG_st (i := (.iconst 0)) (len := 1) (z := (2, [.ref 0, .ref 198, .double 0], [.int (zI 0), .ref 198], zW K A O t)) (mF_m tb_64 rfl) rfl) ?_
  refine Eq.trans (mG_st (i := (.aload 0)) (len := 1) (z := (3, [.ref 0, .ref 198, .double 0], [.ref 0, .int (zI 0), .ref 198], zW K A O t)) (mF_m tb_64 rfl) rfl) ?_
  refine Eq.trans (mG_ok (i := (.invokeinterface 96 0)) (len := 3) (M' := 65) (k := 1) (v := some (.int (zI b))) (w1 := zW K A1 O t) (mF_m tb_64 rfl) (mC_if sh_0 rfl rfl rfl) rfl h) ?_
  show mGd ar (d + 1) 64 6 [.ref 0, .ref 198, .double 0] [.int (zI b), .int (zI 0), .ref 198] (zW K A1 O t) = _
  refine Eq.trans (mG_st (i := .i2l) (len := 1) (z := (7, [.ref 0, .ref 198, .double 0], [.long ((zI b).toInt64), .int (zI 0), .ref 198], zW K A1 O t)) (mF_m tb_64 rfl) rfl) ?_
  refine Eq.trans (mG_st (i := .lastore) (len := 1) (z := (8, [.ref 0, .ref 198, .double 0], [], zW K A1 (vp_updL O 0 ((zI b).toInt64)) t)) (mF_m tb_64 rfl) zM_last) ?_
  refine Eq.trans (mG_st (i := (.goto 9)) (len := 3) (z := (17, [.ref 0, .ref 198, .double 0], [], zW K A1 (vp_updL O 0 ((zI b).toInt64)) t)) (mF_m tb_64 rfl) rfl) ?_
  refine Eq.trans (mG_st (i := (.iconst 0)) (len := 1) (z := (18, [.ref 0, .ref 198, .double 0], [.int (zI 0)], zW K A1 (vp_updL O 0 ((zI b).toInt64)) t)) (mF_m tb_64 rfl) rfl) ?_
  exact mG_ir (len := 1) (mF_m tb_64 rfl) rfl rfl
theorem w_hall_x0 {A1 : Nat → Int → Int} (h : mGd ar d 65 0 [.ref 0] [] (zW K A O t) = some (.inr 0, zW K A1 O (t + 1))) : mGd ar (d + 1) 64 0 [.ref 0, .ref 198, .double 0] [] (zW K A O t) = some (.inl (some (.int (zI 1))), zW K A1 O (t + 1)) := by
  refine Eq.trans (mG_st (i := (.aload 1)) (len := 1) (z := (1, [.ref 0, .ref 198, .double 0], [.ref 198], zW K A O t)) (mF_m tb_64 rfl) rfl) ?_
  refine Eq.trans (mG_st (i := (.iconst 0)) (len := 1) (z := (2, [.ref 0, .ref 198, .double 0], [.int (zI 0), .ref 198], zW K A O t)) (mF_m tb_64 rfl) rfl) ?_
  refine Eq.trans (mG_st (i := (.aload 0)) (len := 1) (z := (3, [.ref 0, .ref 198, .double 0], [.ref 0, .int (zI 0), .ref 198], zW K A O t)) (mF_m tb_64 rfl) rfl) ?_
  refine Eq.trans (mG_in (i := (.invokeinterface 96 0)) (len := 3) (M' := 65) (k := 1) (x := 0) (pc' := 12) (j := 2) (w1 := zW K A1 O (t + 1)) (mF_m tb_64 rfl) (mC_if sh_0 rfl rfl rfl) rfl h rfl (show mHd 64 3 0 = some (12, 2) by decide +kernel) (show 2 < 3 by decide)) ?_
  show mGd ar (d + 1) 64 12 [.ref 0, .ref 198, .double 0] [] (zW K A1 O (t + 1)) = _
  refine Eq.trans (mG_st (i := (.iconst 1)) (len := 1) (z := (13, [.ref 0, .ref 198, .double 0], [.int (zI 1)], zW K A1 O (t + 1))) (mF_m tb_64 rfl) rfl) ?_
  exact mG_ir (len := 1) (mF_m tb_64 rfl) rfl rfl
theorem w_hall_x1 {A1 : Nat → Int → Int} (h : mGd ar d 65 0 [.ref 0] [] (zW K A O t) = some (.inr 1, zW K A1 O (t + 1))) : mGd ar (d + 1) 64 0 [.ref 0, .ref 198, .double 0] [] (zW K A O t) = some (.inl (some (.int (zI 2))), zW K A1 O (t + 1)) := by
  refine Eq.trans (mG_st (i := (.aload 1)) (len := 1) (z := (1, [.ref 0, .ref 198, .double 0], [.ref 198], zW K A O t)) (mF_m tb_64 rfl) rfl) ?_
  refine Eq.trans (mG_st (i := (.iconst 0)) (len := 1) (z := (2, [.ref 0, .ref 198, .double 0], [.int (zI 0), .ref 198], zW K A O t)) (mF_m tb_64 rfl) rfl) ?_
  refine Eq.trans (mG_st (i := (.aload 0)) (len := 1) (z := (3, [.ref 0, .ref 198, .double 0], [.ref 0, .int (zI 0), .ref 198], zW K A O t)) (mF_m tb_64 rfl) rfl) ?_
  refine Eq.trans (mG_in (i := (.invokeinterface 96 0)) (len := 3) (M' := 65) (k := 1) (x := 1) (pc' := 15) (j := 2) (w1 := zW K A1 O (t + 1)) (mF_m tb_64 rfl) (mC_if sh_0 rfl rfl rfl) rfl h rfl (show mHd 64 3 1 = some (15, 2) by decide +kernel) (show 2 < 3 by decide)) ?_
  show mGd ar (d + 1) 64 15 [.ref 0, .ref 198, .double 0] [] (zW K A1 O (t + 1)) = _
  refine Eq.trans (mG_st (i := (.iconst 2)) (len := 1) (z := (16, [.ref 0, .ref 198, .double 0], [.int (zI 2)], zW K A1 O (t + 1))) (mF_m tb_64 rfl) rfl) ?_
  exact mG_ir (len := 1) (mF_m tb_64 rfl) rfl rfl
theorem W_hall (hq : zQ ar K O t d 65 [.ref 0] 223 [.ref 185, .double 0, .double 0] (fun E => if E = 0 then 1 else if E = 1 then 2 else 0) A) : zWr ar K O t (d + 1) 64 [.ref 0, .ref 198, .double 0] 223 [.ref 185, .double 0, .double 0] (fun b => (zI b).toInt64) A := by
  obtain ⟨A1, ⟨b, h1, h2, h3⟩ | ⟨E, h1, h2, h3⟩⟩ := hq
  · obtain ⟨A2, y1, y2, y3⟩ := h3 (vp_updL O 0 ((zI b).toInt64)) t
    exact ⟨0, A1, _, t, w_hall_ok h1, by omega, by omega, b, A2, mGd_dp1 y1, y2, y3, fun _ => ⟨rfl, h2⟩⟩
  · obtain ⟨b, A2, y1, y2, y3⟩ := h3 O (t + 1)
    by_cases e0 : E = 0
    · subst e0
      exact ⟨1, A1, O, t + 1, w_hall_x0 h1, by omega, by omega, b, A2, mGd_dp1 y1, y2, y3, fun q => by omega⟩
    by_cases e1 : E = 1
    · subst e1
      exact ⟨2, A1, O, t + 1, w_hall_x1 h1, by omega, by omega, b, A2, mGd_dp1 y1, y2, y3, fun q => by omega⟩
    · exfalso
      simp only [e0, e1, if_false] at h2
      omega
theorem w_law_ok {b : Int} {A1 : Nat → Int → Int} (h : mGd ar d 102 0 [.ref 0] [] (zW K A O t) = some (.inl (some (.int (zI b))), zW K A1 O t)) : mGd ar (d + 1) 101 0 [.ref 0, .ref 198, .double 0] [] (zW K A O t) = some (.inl (some (.int (zI 0))), zW K A1 (vp_updL O 0 ((zI b).toInt64)) t) := by
  refine Eq.trans (mG_st (i := (.aload 1)) (len := 1) (z := (1, [.ref 0, .ref 198, .double 0], [.ref 198], zW K A O t)) (mF_m tb_101 rfl) rfl) ?_
  refine Eq.trans (mG_st (i := (.iconst 0)) (len := 1) (z := (2, [.ref 0, .ref 198, .double 0], [.int (zI 0), .ref 198], zW K A O t)) (mF_m tb_101 rfl) rfl) ?_
  refine Eq.trans (mG_st (i := (.aload 0)) (len := 1) (z := (3, [.ref 0, .ref 198, .double 0], [.ref 0, .int (zI 0), .ref 198], zW K A O t)) (mF_m tb_101 rfl) rfl) ?_
  refine Eq.trans (mG_ok (i := (.invokeinterface 125 0)) (len := 3) (M' := 102) (k := 1) (v := some (.int (zI b))) (w1 := zW K A1 O t) (mF_m tb_101 rfl) (mC_if sh_0 rfl rfl rfl) rfl h) ?_
  show mGd ar (d + 1) 101 6 [.ref 0, .ref 198, .double 0] [.int (zI b), .int (zI 0), .ref 198] (zW K A1 O t) = _
  refine Eq.trans (mG_st (i := .i2l) (len := 1) (z := (7, [.ref 0, .ref 198, .double 0], [.long ((zI b).toInt64), .int (zI 0), .ref 198], zW K A1 O t)) (mF_m tb_101 rfl) rfl) ?_
  refine Eq.trans (mG_st (i := .lastore) (len := 1) (z := (8, [.ref 0, .ref 198, .double 0], [], zW K A1 (vp_updL O 0 ((zI b).toInt64)) t)) (mF_m tb_101 rfl) zM_last) ?_
  refine Eq.trans (mG_st (i := (.goto 6)) (len := 3) (z := (14, [.ref 0, .ref 198, .double 0], [], zW K A1 (vp_updL O 0 ((zI b).toInt64)) t)) (mF_m tb_101 rfl) rfl) ?_
  refine Eq.trans (mG_st (i := (.iconst 0)) (len := 1) (z := (15, [.ref 0, .ref 198, .double 0], [.int (zI 0)], zW K A1 (vp_updL O 0 ((zI b).toInt64)) t)) (mF_m tb_101 rfl) rfl) ?_
  exact mG_ir (len := 1) (mF_m tb_101 rfl) rfl rfl
theorem w_law_x0 {A1 : Nat → Int → Int} (h : mGd ar d 102 0 [.ref 0] [] (zW K A O t) = some (.inr 0, zW K A1 O (t + 1))) : mGd ar (d + 1) 101 0 [.ref 0, .ref 198, .double 0] [] (zW K A O t) = some (.inl (some (.int (zI 1))), zW K A1 O (t + 1)) := by
  refine Eq.trans (mG_st (i := (.aload 1)) (len := 1) (z := (1, [.ref 0, .ref 198, .double 0], [.ref 198], zW K A O t)) (mF_m tb_101 rfl) rfl) ?_
  refine Eq.trans (mG_st (i := (.iconst 0)) (len := 1) (z := (2, [.ref 0, .ref 198, .double 0], [.int (zI 0), .ref 198], zW K A O t)) (mF_m tb_101 rfl) rfl) ?_
  refine Eq.trans (mG_st (i := (.aload 0)) (len := 1) (z := (3, [.ref 0, .ref 198, .double 0], [.ref 0, .int (zI 0), .ref 198], zW K A O t)) (mF_m tb_101 rfl) rfl) ?_
  refine Eq.trans (mG_in (i := (.invokeinterface 125 0)) (len := 3) (M' := 102) (k := 1) (x := 0) (pc' := 12) (j := 2) (w1 := zW K A1 O (t + 1)) (mF_m tb_101 rfl) (mC_if sh_0 rfl rfl rfl) rfl h rfl (show mHd 101 3 0 = some (12, 2) by decide +kernel) (show 2 < 3 by decide)) ?_
  show mGd ar (d + 1) 101 12 [.ref 0, .ref 198, .double 0] [] (zW K A1 O (t + 1)) = _
  refine Eq.trans (mG_st (i := (.iconst 1)) (len := 1) (z := (13, [.ref 0, .ref 198, .double 0], [.int (zI 1)], zW K A1 O (t + 1))) (mF_m tb_101 rfl) rfl) ?_
  exact mG_ir (len := 1) (mF_m tb_101 rfl) rfl rfl
theorem W_law (hq : zQ ar K O t d 102 [.ref 0] 253 [.ref 185, .double 0, .double 0] (fun E => if E = 0 then 1 else 0) A) : zWr ar K O t (d + 1) 101 [.ref 0, .ref 198, .double 0] 253 [.ref 185, .double 0, .double 0] (fun b => (zI b).toInt64) A := by
  obtain ⟨A1, ⟨b, h1, h2, h3⟩ | ⟨E, h1, h2, h3⟩⟩ := hq
  · obtain ⟨A2, y1, y2, y3⟩ := h3 (vp_updL O 0 ((zI b).toInt64)) t
    exact ⟨0, A1, _, t, w_law_ok h1, by omega, by omega, b, A2, mGd_dp1 y1, y2, y3, fun _ => ⟨rfl, h2⟩⟩
  · obtain ⟨b, A2, y1, y2, y3⟩ := h3 O (t + 1)
    by_cases e0 : E = 0
    · subst e0
      exact ⟨1, A1, O, t + 1, w_law_x0 h1, by omega, by omega, b, A2, mGd_dp1 y1, y2, y3, fun q => by omega⟩
    · exfalso
      simp only [e0, if_false] at h2
      omega
theorem w_number_ok {x1 x2 b : Int} {A1 : Nat → Int → Int} (h : mGd ar d 105 0 [.ref 0, .int (zI x1), .int (zI x2)] [] (zW K A O t) = some (.inl (some (.int (zI b))), zW K A1 O t)) : mGd ar (d + 1) 104 0 [.ref 0, .int (zI x1), .int (zI x2), .ref 198, .double 0] [] (zW K A O t) = some (.inl (some (.int (zI 0))), zW K A1 (vp_updL O 0 ((zI b).toInt64)) t) := by
  refine Eq.trans (mG_st (i := (.aload 3)) (len := 1) (z := (1, [.ref 0, .int (zI x1), .int (zI x2), .ref 198, .double 0], [.ref 198], zW K A O t)) (mF_m tb_104 rfl) rfl) ?_
  refine Eq.trans (mG_st (i := (.iconst 0)) (len := 1) (z := (2, [.ref 0, .int (zI x1), .int (zI x2), .ref 198, .double 0], [.int (zI 0), .ref 198], zW K A O t)) (mF_m tb_104 rfl) rfl) ?_
  refine Eq.trans (mG_st (i := (.aload 0)) (len := 1) (z := (3, [.ref 0, .int (zI x1), .int (zI x2), .ref 198, .double 0], [.ref 0, .int (zI 0), .ref 198], zW K A O t)) (mF_m tb_104 rfl) rfl) ?_
  refine Eq.trans (mG_st (i := (.iload 1)) (len := 1) (z := (4, [.ref 0, .int (zI x1), .int (zI x2), .ref 198, .double 0], [.int (zI x1), .ref 0, .int (zI 0), .ref 198], zW K A O t)) (mF_m tb_104 rfl) rfl) ?_
  refine Eq.trans (mG_st (i := (.iload 2)) (len := 1) (z := (5, [.ref 0, .int (zI x1), .int (zI x2), .ref 198, .double 0], [.int (zI x2), .int (zI x1), .ref 0, .int (zI 0), .ref 198], zW K A O t)) (mF_m tb_104 rfl) rfl) ?_
  refine Eq.trans (mG_ok (i := (.invokeinterface 128 2)) (len := 3) (M' := 105) (k := 3) (v := some (.int (zI b))) (w1 := zW K A1 O t) (mF_m tb_104 rfl) (mC_if sh_0 rfl rfl rfl) rfl h) ?_
  show mGd ar (d + 1) 104 8 [.ref 0, .int (zI x1), .int (zI x2), .ref 198, .double 0] [.int (zI b), .int (zI 0), .ref 198] (zW K A1 O t) = _
  refine Eq.trans (mG_st (i := .i2l) (len := 1) (z := (9, [.ref 0, .int (zI x1), .int (zI x2), .ref 198, .double 0], [.long ((zI b).toInt64), .int (zI 0), .ref 198], zW K A1 O t)) (mF_m tb_104 rfl) rfl) ?_
  refine Eq.trans (mG_st (i := .lastore) (len := 1) (z := (10, [.ref 0, .int (zI x1), .int (zI x2), .ref 198, .double 0], [], zW K A1 (vp_updL O 0 ((zI b).toInt64)) t)) (mF_m tb_104 rfl) zM_last) ?_
  refine Eq.trans (mG_st (i := (.goto 7)) (len := 3) (z := (17, [.ref 0, .int (zI x1), .int (zI x2), .ref 198, .double 0], [], zW K A1 (vp_updL O 0 ((zI b).toInt64)) t)) (mF_m tb_104 rfl) rfl) ?_
  refine Eq.trans (mG_st (i := (.iconst 0)) (len := 1) (z := (18, [.ref 0, .int (zI x1), .int (zI x2), .ref 198, .double 0], [.int (zI 0)], zW K A1 (vp_updL O 0 ((zI b).toInt64)) t)) (mF_m tb_104 rfl) rfl) ?_
  exact mG_ir (len := 1) (mF_m tb_104 rfl) rfl rfl
theorem w_number_x2 {x1 x2 : Int} {A1 : Nat → Int → Int} (h : mGd ar d 105 0 [.ref 0, .int (zI x1), .int (zI x2)] [] (zW K A O t) = some (.inr 2, zW K A1 O (t + 1))) : mGd ar (d + 1) 104 0 [.ref 0, .int (zI x1), .int (zI x2), .ref 198, .double 0] [] (zW K A O t) = some (.inl (some (.int (zI 1))), zW K A1 O (t + 1)) := by
  refine Eq.trans (mG_st (i := (.aload 3)) (len := 1) (z := (1, [.ref 0, .int (zI x1), .int (zI x2), .ref 198, .double 0], [.ref 198], zW K A O t)) (mF_m tb_104 rfl) rfl) ?_
  refine Eq.trans (mG_st (i := (.iconst 0)) (len := 1) (z := (2, [.ref 0, .int (zI x1), .int (zI x2), .ref 198, .double 0], [.int (zI 0), .ref 198], zW K A O t)) (mF_m tb_104 rfl) rfl) ?_
  refine Eq.trans (mG_st (i := (.aload 0)) (len := 1) (z := (3, [.ref 0, .int (zI x1), .int (zI x2), .ref 198, .double 0], [.ref 0, .int (zI 0), .ref 198], zW K A O t)) (mF_m tb_104 rfl) rfl) ?_
  refine Eq.trans (mG_st (i := (.iload 1)) (len := 1) (z := (4, [.ref 0, .int (zI x1), .int (zI x2), .ref 198, .double 0], [.int (zI x1), .ref 0, .int (zI 0), .ref 198], zW K A O t)) (mF_m tb_104 rfl) rfl) ?_
  refine Eq.trans (mG_st (i := (.iload 2)) (len := 1) (z := (5, [.ref 0, .int (zI x1), .int (zI x2), .ref 198, .double 0], [.int (zI x2), .int (zI x1), .ref 0, .int (zI 0), .ref 198], zW K A O t)) (mF_m tb_104 rfl) rfl) ?_
  refine Eq.trans (mG_in (i := (.invokeinterface 128 2)) (len := 3) (M' := 105) (k := 3) (x := 2) (pc' := 15) (j := 4) (w1 := zW K A1 O (t + 1)) (mF_m tb_104 rfl) (mC_if sh_0 rfl rfl rfl) rfl h rfl (show mHd 104 5 2 = some (15, 4) by decide +kernel) (show 4 < 5 by decide)) ?_
  show mGd ar (d + 1) 104 15 [.ref 0, .int (zI x1), .int (zI x2), .ref 198, .double 0] [] (zW K A1 O (t + 1)) = _
  refine Eq.trans (mG_st (i := (.iconst 1)) (len := 1) (z := (16, [.ref 0, .int (zI x1), .int (zI x2), .ref 198, .double 0], [.int (zI 1)], zW K A1 O (t + 1))) (mF_m tb_104 rfl) rfl) ?_
  exact mG_ir (len := 1) (mF_m tb_104 rfl) rfl rfl
theorem W_number {x1 x2 : Int} (hq : zQ ar K O t d 105 [.ref 0, .int (zI x1), .int (zI x2)] 254 [.ref 185, .int (zI x1), .int (zI x2)] (fun E => if E = 2 then 1 else 0) A) : zWr ar K O t (d + 1) 104 [.ref 0, .int (zI x1), .int (zI x2), .ref 198, .double 0] 254 [.ref 185, .int (zI x1), .int (zI x2)] (fun b => (zI b).toInt64) A := by
  obtain ⟨A1, ⟨b, h1, h2, h3⟩ | ⟨E, h1, h2, h3⟩⟩ := hq
  · obtain ⟨A2, y1, y2, y3⟩ := h3 (vp_updL O 0 ((zI b).toInt64)) t
    exact ⟨0, A1, _, t, w_number_ok h1, by omega, by omega, b, A2, mGd_dp1 y1, y2, y3, fun _ => ⟨rfl, h2⟩⟩
  · obtain ⟨b, A2, y1, y2, y3⟩ := h3 O (t + 1)
    by_cases e2 : E = 2
    · subst e2
      exact ⟨1, A1, O, t + 1, w_number_x2 h1, by omega, by omega, b, A2, mGd_dp1 y1, y2, y3, fun q => by omega⟩
    · exfalso
      simp only [e2, if_false] at h2
      omega
theorem w_person_ok {x1 x2 b : Int} {A1 : Nat → Int → Int} (h : mGd ar d 109 0 [.ref 0, .int (zI x1), .int (zI x2)] [] (zW K A O t) = some (.inl (some (.int (zI b))), zW K A1 O t)) : mGd ar (d + 1) 108 0 [.ref 0, .int (zI x1), .int (zI x2), .ref 198, .double 0] [] (zW K A O t) = some (.inl (some (.int (zI 0))), zW K A1 (vp_updL O 0 ((zI b).toInt64)) t) := by
  refine Eq.trans (mG_st (i := (.aload 3)) (len := 1) (z := (1, [.ref 0, .int (zI x1), .int (zI x2), .ref 198, .double 0], [.ref 198], zW K A O t)) (mF_m tb_108 rfl) rfl) ?_
  refine Eq.trans (mG_st (i := (.iconst 0)) (len := 1) (z := (2, [.ref 0, .int (zI x1), .int (zI x2), .ref 198, .double 0], [.int (zI 0), .ref 198], zW K A O t)) (mF_m tb_108 rfl) rfl) ?_
  refine Eq.trans (mG_st (i := (.aload 0)) (len := 1) (z := (3, [.ref 0, .int (zI x1), .int (zI x2), .ref 198, .double 0], [.ref 0, .int (zI 0), .ref 198], zW K A O t)) (mF_m tb_108 rfl) rfl) ?_
  refine Eq.trans (mG_st (i := (.iload 1)) (len := 1) (z := (4, [.ref 0, .int (zI x1), .int (zI x2), .ref 198, .double 0], [.int (zI x1), .ref 0, .int (zI 0), .ref 198], zW K A O t)) (mF_m tb_108 rfl) rfl) ?_
  refine Eq.trans (mG_st (i := (.iload 2)) (len := 1) (z := (5, [.ref 0, .int (zI x1), .int (zI x2), .ref 198, .double 0], [.int (zI x2), .int (zI x1), .ref 0, .int (zI 0), .ref 198], zW K A O t)) (mF_m tb_108 rfl) rfl) ?_
  refine Eq.trans (mG_ok (i := (.invokeinterface 131 2)) (len := 3) (M' := 109) (k := 3) (v := some (.int (zI b))) (w1 := zW K A1 O t) (mF_m tb_108 rfl) (mC_if sh_0 rfl rfl rfl) rfl h) ?_
  show mGd ar (d + 1) 108 8 [.ref 0, .int (zI x1), .int (zI x2), .ref 198, .double 0] [.int (zI b), .int (zI 0), .ref 198] (zW K A1 O t) = _
  refine Eq.trans (mG_st (i := .i2l) (len := 1) (z := (9, [.ref 0, .int (zI x1), .int (zI x2), .ref 198, .double 0], [.long ((zI b).toInt64), .int (zI 0), .ref 198], zW K A1 O t)) (mF_m tb_108 rfl) rfl) ?_
  refine Eq.trans (mG_st (i := .lastore) (len := 1) (z := (10, [.ref 0, .int (zI x1), .int (zI x2), .ref 198, .double 0], [], zW K A1 (vp_updL O 0 ((zI b).toInt64)) t)) (mF_m tb_108 rfl) zM_last) ?_
  refine Eq.trans (mG_st (i := (.goto 11)) (len := 3) (z := (21, [.ref 0, .int (zI x1), .int (zI x2), .ref 198, .double 0], [], zW K A1 (vp_updL O 0 ((zI b).toInt64)) t)) (mF_m tb_108 rfl) rfl) ?_
  refine Eq.trans (mG_st (i := (.iconst 0)) (len := 1) (z := (22, [.ref 0, .int (zI x1), .int (zI x2), .ref 198, .double 0], [.int (zI 0)], zW K A1 (vp_updL O 0 ((zI b).toInt64)) t)) (mF_m tb_108 rfl) rfl) ?_
  exact mG_ir (len := 1) (mF_m tb_108 rfl) rfl rfl
theorem w_person_x2 {x1 x2 : Int} {A1 : Nat → Int → Int} (h : mGd ar d 109 0 [.ref 0, .int (zI x1), .int (zI x2)] [] (zW K A O t) = some (.inr 2, zW K A1 O (t + 1))) : mGd ar (d + 1) 108 0 [.ref 0, .int (zI x1), .int (zI x2), .ref 198, .double 0] [] (zW K A O t) = some (.inl (some (.int (zI 1))), zW K A1 O (t + 1)) := by
  refine Eq.trans (mG_st (i := (.aload 3)) (len := 1) (z := (1, [.ref 0, .int (zI x1), .int (zI x2), .ref 198, .double 0], [.ref 198], zW K A O t)) (mF_m tb_108 rfl) rfl) ?_
  refine Eq.trans (mG_st (i := (.iconst 0)) (len := 1) (z := (2, [.ref 0, .int (zI x1), .int (zI x2), .ref 198, .double 0], [.int (zI 0), .ref 198], zW K A O t)) (mF_m tb_108 rfl) rfl) ?_
  refine Eq.trans (mG_st (i := (.aload 0)) (len := 1) (z := (3, [.ref 0, .int (zI x1), .int (zI x2), .ref 198, .double 0], [.ref 0, .int (zI 0), .ref 198], zW K A O t)) (mF_m tb_108 rfl) rfl) ?_
  refine Eq.trans (mG_st (i := (.iload 1)) (len := 1) (z := (4, [.ref 0, .int (zI x1), .int (zI x2), .ref 198, .double 0], [.int (zI x1), .ref 0, .int (zI 0), .ref 198], zW K A O t)) (mF_m tb_108 rfl) rfl) ?_
  refine Eq.trans (mG_st (i := (.iload 2)) (len := 1) (z := (5, [.ref 0, .int (zI x1), .int (zI x2), .ref 198, .double 0], [.int (zI x2), .int (zI x1), .ref 0, .int (zI 0), .ref 198], zW K A O t)) (mF_m tb_108 rfl) rfl) ?_
  refine Eq.trans (mG_in (i := (.invokeinterface 131 2)) (len := 3) (M' := 109) (k := 3) (x := 2) (pc' := 15) (j := 4) (w1 := zW K A1 O (t + 1)) (mF_m tb_108 rfl) (mC_if sh_0 rfl rfl rfl) rfl h rfl (show mHd 108 5 2 = some (15, 4) by decide +kernel) (show 4 < 5 by decide)) ?_
  show mGd ar (d + 1) 108 15 [.ref 0, .int (zI x1), .int (zI x2), .ref 198, .double 0] [] (zW K A1 O (t + 1)) = _
  refine Eq.trans (mG_st (i := (.iconst 1)) (len := 1) (z := (16, [.ref 0, .int (zI x1), .int (zI x2), .ref 198, .double 0], [.int (zI 1)], zW K A1 O (t + 1))) (mF_m tb_108 rfl) rfl) ?_
  exact mG_ir (len := 1) (mF_m tb_108 rfl) rfl rfl
theorem w_person_x3 {x1 x2 : Int} {A1 : Nat → Int → Int} (h : mGd ar d 109 0 [.ref 0, .int (zI x1), .int (zI x2)] [] (zW K A O t) = some (.inr 3, zW K A1 O (t + 1))) : mGd ar (d + 1) 108 0 [.ref 0, .int (zI x1), .int (zI x2), .ref 198, .double 0] [] (zW K A O t) = some (.inl (some (.int (zI 2))), zW K A1 O (t + 1)) := by
  refine Eq.trans (mG_st (i := (.aload 3)) (len := 1) (z := (1, [.ref 0, .int (zI x1), .int (zI x2), .ref 198, .double 0], [.ref 198], zW K A O t)) (mF_m tb_108 rfl) rfl) ?_
  refine Eq.trans (mG_st (i := (.iconst 0)) (len := 1) (z := (2, [.ref 0, .int (zI x1), .int (zI x2), .ref 198, .double 0], [.int (zI 0), .ref 198], zW K A O t)) (mF_m tb_108 rfl) rfl) ?_
  refine Eq.trans (mG_st (i := (.aload 0)) (len := 1) (z := (3, [.ref 0, .int (zI x1), .int (zI x2), .ref 198, .double 0], [.ref 0, .int (zI 0), .ref 198], zW K A O t)) (mF_m tb_108 rfl) rfl) ?_
  refine Eq.trans (mG_st (i := (.iload 1)) (len := 1) (z := (4, [.ref 0, .int (zI x1), .int (zI x2), .ref 198, .double 0], [.int (zI x1), .ref 0, .int (zI 0), .ref 198], zW K A O t)) (mF_m tb_108 rfl) rfl) ?_
  refine Eq.trans (mG_st (i := (.iload 2)) (len := 1) (z := (5, [.ref 0, .int (zI x1), .int (zI x2), .ref 198, .double 0], [.int (zI x2), .int (zI x1), .ref 0, .int (zI 0), .ref 198], zW K A O t)) (mF_m tb_108 rfl) rfl) ?_
  refine Eq.trans (mG_in (i := (.invokeinterface 131 2)) (len := 3) (M' := 109) (k := 3) (x := 3) (pc' := 19) (j := 4) (w1 := zW K A1 O (t + 1)) (mF_m tb_108 rfl) (mC_if sh_0 rfl rfl rfl) rfl h rfl (show mHd 108 5 3 = some (19, 4) by decide +kernel) (show 4 < 5 by decide)) ?_
  show mGd ar (d + 1) 108 19 [.ref 0, .int (zI x1), .int (zI x2), .ref 198, .double 0] [] (zW K A1 O (t + 1)) = _
  refine Eq.trans (mG_st (i := (.iconst 2)) (len := 1) (z := (20, [.ref 0, .int (zI x1), .int (zI x2), .ref 198, .double 0], [.int (zI 2)], zW K A1 O (t + 1))) (mF_m tb_108 rfl) rfl) ?_
  exact mG_ir (len := 1) (mF_m tb_108 rfl) rfl rfl
theorem W_person {x1 x2 : Int} (hq : zQ ar K O t d 109 [.ref 0, .int (zI x1), .int (zI x2)] 259 [.ref 185, .int (zI x1), .int (zI x2)] (fun E => if E = 2 then 1 else if E = 3 then 2 else 0) A) : zWr ar K O t (d + 1) 108 [.ref 0, .int (zI x1), .int (zI x2), .ref 198, .double 0] 259 [.ref 185, .int (zI x1), .int (zI x2)] (fun b => (zI b).toInt64) A := by
  obtain ⟨A1, ⟨b, h1, h2, h3⟩ | ⟨E, h1, h2, h3⟩⟩ := hq
  · obtain ⟨A2, y1, y2, y3⟩ := h3 (vp_updL O 0 ((zI b).toInt64)) t
    exact ⟨0, A1, _, t, w_person_ok h1, by omega, by omega, b, A2, mGd_dp1 y1, y2, y3, fun _ => ⟨rfl, h2⟩⟩
  · obtain ⟨b, A2, y1, y2, y3⟩ := h3 O (t + 1)
    by_cases e2 : E = 2
    · subst e2
      exact ⟨1, A1, O, t + 1, w_person_x2 h1, by omega, by omega, b, A2, mGd_dp1 y1, y2, y3, fun q => by omega⟩
    by_cases e3 : E = 3
    · subst e3
      exact ⟨2, A1, O, t + 1, w_person_x3 h1, by omega, by omega, b, A2, mGd_dp1 y1, y2, y3, fun q => by omega⟩
    · exfalso
      simp only [e2, e3, if_false] at h2
      omega
theorem w_man_ok {x1 b : Int} {A1 : Nat → Int → Int} (h : mGd ar d 111 0 [.ref 0, .int (zI x1)] [] (zW K A O t) = some (.inl (some (.int (zI b))), zW K A1 O t)) : mGd ar (d + 1) 110 0 [.ref 0, .int (zI x1), .ref 198, .double 0] [] (zW K A O t) = some (.inl (some (.int (zI 0))), zW K A1 (vp_updL O 0 ((zI b).toInt64)) t) := by
  refine Eq.trans (mG_st (i := (.aload 2)) (len := 1) (z := (1, [.ref 0, .int (zI x1), .ref 198, .double 0], [.ref 198], zW K A O t)) (mF_m tb_110 rfl) rfl) ?_
  refine Eq.trans (mG_st (i := (.iconst 0)) (len := 1) (z := (2, [.ref 0, .int (zI x1), .ref 198, .double 0], [.int (zI 0), .ref 198], zW K A O t)) (mF_m tb_110 rfl) rfl) ?_
  refine Eq.trans (mG_st (i := (.aload 0)) (len := 1) (z := (3, [.ref 0, .int (zI x1), .ref 198, .double 0], [.ref 0, .int (zI 0), .ref 198], zW K A O t)) (mF_m tb_110 rfl) rfl) ?_
  refine Eq.trans (mG_st (i := (.iload 1)) (len := 1) (z := (4, [.ref 0, .int (zI x1), .ref 198, .double 0], [.int (zI x1), .ref 0, .int (zI 0), .ref 198], zW K A O t)) (mF_m tb_110 rfl) rfl) ?_
  refine Eq.trans (mG_ok (i := (.invokeinterface 132 1)) (len := 3) (M' := 111) (k := 2) (v := some (.int (zI b))) (w1 := zW K A1 O t) (mF_m tb_110 rfl) (mC_if sh_0 rfl rfl rfl) rfl h) ?_
  show mGd ar (d + 1) 110 7 [.ref 0, .int (zI x1), .ref 198, .double 0] [.int (zI b), .int (zI 0), .ref 198] (zW K A1 O t) = _
  refine Eq.trans (mG_st (i := .i2l) (len := 1) (z := (8, [.ref 0, .int (zI x1), .ref 198, .double 0], [.long ((zI b).toInt64), .int (zI 0), .ref 198], zW K A1 O t)) (mF_m tb_110 rfl) rfl) ?_
  refine Eq.trans (mG_st (i := .lastore) (len := 1) (z := (9, [.ref 0, .int (zI x1), .ref 198, .double 0], [], zW K A1 (vp_updL O 0 ((zI b).toInt64)) t)) (mF_m tb_110 rfl) zM_last) ?_
  refine Eq.trans (mG_st (i := (.goto 6)) (len := 3) (z := (15, [.ref 0, .int (zI x1), .ref 198, .double 0], [], zW K A1 (vp_updL O 0 ((zI b).toInt64)) t)) (mF_m tb_110 rfl) rfl) ?_
  refine Eq.trans (mG_st (i := (.iconst 0)) (len := 1) (z := (16, [.ref 0, .int (zI x1), .ref 198, .double 0], [.int (zI 0)], zW K A1 (vp_updL O 0 ((zI b).toInt64)) t)) (mF_m tb_110 rfl) rfl) ?_
  exact mG_ir (len := 1) (mF_m tb_110 rfl) rfl rfl
theorem w_man_x2 {x1 : Int} {A1 : Nat → Int → Int} (h : mGd ar d 111 0 [.ref 0, .int (zI x1)] [] (zW K A O t) = some (.inr 2, zW K A1 O (t + 1))) : mGd ar (d + 1) 110 0 [.ref 0, .int (zI x1), .ref 198, .double 0] [] (zW K A O t) = some (.inl (some (.int (zI 1))), zW K A1 O (t + 1)) := by
  refine Eq.trans (mG_st (i := (.aload 2)) (len := 1) (z := (1, [.ref 0, .int (zI x1), .ref 198, .double 0], [.ref 198], zW K A O t)) (mF_m tb_110 rfl) rfl) ?_
  refine Eq.trans (mG_st (i := (.iconst 0)) (len := 1) (z := (2, [.ref 0, .int (zI x1), .ref 198, .double 0], [.int (zI 0), .ref 198], zW K A O t)) (mF_m tb_110 rfl) rfl) ?_
  refine Eq.trans (mG_st (i := (.aload 0)) (len := 1) (z := (3, [.ref 0, .int (zI x1), .ref 198, .double 0], [.ref 0, .int (zI 0), .ref 198], zW K A O t)) (mF_m tb_110 rfl) rfl) ?_
  refine Eq.trans (mG_st (i := (.iload 1)) (len := 1) (z := (4, [.ref 0, .int (zI x1), .ref 198, .double 0], [.int (zI x1), .ref 0, .int (zI 0), .ref 198], zW K A O t)) (mF_m tb_110 rfl) rfl) ?_
  refine Eq.trans (mG_in (i := (.invokeinterface 132 1)) (len := 3) (M' := 111) (k := 2) (x := 2) (pc' := 13) (j := 3) (w1 := zW K A1 O (t + 1)) (mF_m tb_110 rfl) (mC_if sh_0 rfl rfl rfl) rfl h rfl (show mHd 110 4 2 = some (13, 3) by decide +kernel) (show 3 < 4 by decide)) ?_
  show mGd ar (d + 1) 110 13 [.ref 0, .int (zI x1), .ref 198, .double 0] [] (zW K A1 O (t + 1)) = _
  refine Eq.trans (mG_st (i := (.iconst 1)) (len := 1) (z := (14, [.ref 0, .int (zI x1), .ref 198, .double 0], [.int (zI 1)], zW K A1 O (t + 1))) (mF_m tb_110 rfl) rfl) ?_
  exact mG_ir (len := 1) (mF_m tb_110 rfl) rfl rfl
theorem W_man {x1 : Int} (hq : zQ ar K O t d 111 [.ref 0, .int (zI x1)] 261 [.ref 185, .int (zI x1)] (fun E => if E = 2 then 1 else 0) A) : zWr ar K O t (d + 1) 110 [.ref 0, .int (zI x1), .ref 198, .double 0] 261 [.ref 185, .int (zI x1)] (fun b => (zI b).toInt64) A := by
  obtain ⟨A1, ⟨b, h1, h2, h3⟩ | ⟨E, h1, h2, h3⟩⟩ := hq
  · obtain ⟨A2, y1, y2, y3⟩ := h3 (vp_updL O 0 ((zI b).toInt64)) t
    exact ⟨0, A1, _, t, w_man_ok h1, by omega, by omega, b, A2, mGd_dp1 y1, y2, y3, fun _ => ⟨rfl, h2⟩⟩
  · obtain ⟨b, A2, y1, y2, y3⟩ := h3 O (t + 1)
    by_cases e2 : E = 2
    · subst e2
      exact ⟨1, A1, O, t + 1, w_man_x2 h1, by omega, by omega, b, A2, mGd_dp1 y1, y2, y3, fun q => by omega⟩
    · exfalso
      simp only [e2, if_false] at h2
      omega
theorem w_middle_ok {x1 x2 b : Int} {A1 : Nat → Int → Int} (h : mGd ar d 113 0 [.ref 0, .int (zI x1), .int (zI x2)] [] (zW K A O t) = some (.inl (some (.int (zI b))), zW K A1 O t)) : mGd ar (d + 1) 112 0 [.ref 0, .int (zI x1), .int (zI x2), .ref 198, .double 0] [] (zW K A O t) = some (.inl (some (.int (zI 0))), zW K A1 (vp_updL O 0 ((zI b).toInt64)) t) := by
  refine Eq.trans (mG_st (i := (.aload 3)) (len := 1) (z := (1, [.ref 0, .int (zI x1), .int (zI x2), .ref 198, .double 0], [.ref 198], zW K A O t)) (mF_m tb_112 rfl) rfl) ?_
  refine Eq.trans (mG_st (i := (.iconst 0)) (len := 1) (z := (2, [.ref 0, .int (zI x1), .int (zI x2), .ref 198, .double 0], [.int (zI 0), .ref 198], zW K A O t)) (mF_m tb_112 rfl) rfl) ?_
  refine Eq.trans (mG_st (i := (.aload 0)) (len := 1) (z := (3, [.ref 0, .int (zI x1), .int (zI x2), .ref 198, .double 0], [.ref 0, .int (zI 0), .ref 198], zW K A O t)) (mF_m tb_112 rfl) rfl) ?_
  refine Eq.trans (mG_st (i := (.iload 1)) (len := 1) (z := (4, [.ref 0, .int (zI x1), .int (zI x2), .ref 198, .double 0], [.int (zI x1), .ref 0, .int (zI 0), .ref 198], zW K A O t)) (mF_m tb_112 rfl) rfl) ?_
  refine Eq.trans (mG_st (i := (.iload 2)) (len := 1) (z := (5, [.ref 0, .int (zI x1), .int (zI x2), .ref 198, .double 0], [.int (zI x2), .int (zI x1), .ref 0, .int (zI 0), .ref 198], zW K A O t)) (mF_m tb_112 rfl) rfl) ?_
  refine Eq.trans (mG_ok (i := (.invokeinterface 133 2)) (len := 3) (M' := 113) (k := 3) (v := some (.int (zI b))) (w1 := zW K A1 O t) (mF_m tb_112 rfl) (mC_if sh_0 rfl rfl rfl) rfl h) ?_
  show mGd ar (d + 1) 112 8 [.ref 0, .int (zI x1), .int (zI x2), .ref 198, .double 0] [.int (zI b), .int (zI 0), .ref 198] (zW K A1 O t) = _
  refine Eq.trans (mG_st (i := .i2l) (len := 1) (z := (9, [.ref 0, .int (zI x1), .int (zI x2), .ref 198, .double 0], [.long ((zI b).toInt64), .int (zI 0), .ref 198], zW K A1 O t)) (mF_m tb_112 rfl) rfl) ?_
  refine Eq.trans (mG_st (i := .lastore) (len := 1) (z := (10, [.ref 0, .int (zI x1), .int (zI x2), .ref 198, .double 0], [], zW K A1 (vp_updL O 0 ((zI b).toInt64)) t)) (mF_m tb_112 rfl) zM_last) ?_
  refine Eq.trans (mG_st (i := (.goto 11)) (len := 3) (z := (21, [.ref 0, .int (zI x1), .int (zI x2), .ref 198, .double 0], [], zW K A1 (vp_updL O 0 ((zI b).toInt64)) t)) (mF_m tb_112 rfl) rfl) ?_
  refine Eq.trans (mG_st (i := (.iconst 0)) (len := 1) (z := (22, [.ref 0, .int (zI x1), .int (zI x2), .ref 198, .double 0], [.int (zI 0)], zW K A1 (vp_updL O 0 ((zI b).toInt64)) t)) (mF_m tb_112 rfl) rfl) ?_
  exact mG_ir (len := 1) (mF_m tb_112 rfl) rfl rfl
theorem w_middle_x2 {x1 x2 : Int} {A1 : Nat → Int → Int} (h : mGd ar d 113 0 [.ref 0, .int (zI x1), .int (zI x2)] [] (zW K A O t) = some (.inr 2, zW K A1 O (t + 1))) : mGd ar (d + 1) 112 0 [.ref 0, .int (zI x1), .int (zI x2), .ref 198, .double 0] [] (zW K A O t) = some (.inl (some (.int (zI 1))), zW K A1 O (t + 1)) := by
  refine Eq.trans (mG_st (i := (.aload 3)) (len := 1) (z := (1, [.ref 0, .int (zI x1), .int (zI x2), .ref 198, .double 0], [.ref 198], zW K A O t)) (mF_m tb_112 rfl) rfl) ?_
  refine Eq.trans (mG_st (i := (.iconst 0)) (len := 1) (z := (2, [.ref 0, .int (zI x1), .int (zI x2), .ref 198, .double 0], [.int (zI 0), .ref 198], zW K A O t)) (mF_m tb_112 rfl) rfl) ?_
  refine Eq.trans (mG_st (i := (.aload 0)) (len := 1) (z := (3, [.ref 0, .int (zI x1), .int (zI x2), .ref 198, .double 0], [.ref 0, .int (zI 0), .ref 198], zW K A O t)) (mF_m tb_112 rfl) rfl) ?_
  refine Eq.trans (mG_st (i := (.iload 1)) (len := 1) (z := (4, [.ref 0, .int (zI x1), .int (zI x2), .ref 198, .double 0], [.int (zI x1), .ref 0, .int (zI 0), .ref 198], zW K A O t)) (mF_m tb_112 rfl) rfl) ?_
  refine Eq.trans (mG_st (i := (.iload 2)) (len := 1) (z := (5, [.ref 0, .int (zI x1), .int (zI x2), .ref 198, .double 0], [.int (zI x2), .int (zI x1), .ref 0, .int (zI 0), .ref 198], zW K A O t)) (mF_m tb_112 rfl) rfl) ?_
  refine Eq.trans (mG_in (i := (.invokeinterface 133 2)) (len := 3) (M' := 113) (k := 3) (x := 2) (pc' := 15) (j := 4) (w1 := zW K A1 O (t + 1)) (mF_m tb_112 rfl) (mC_if sh_0 rfl rfl rfl) rfl h rfl (show mHd 112 5 2 = some (15, 4) by decide +kernel) (show 4 < 5 by decide)) ?_
  show mGd ar (d + 1) 112 15 [.ref 0, .int (zI x1), .int (zI x2), .ref 198, .double 0] [] (zW K A1 O (t + 1)) = _
  refine Eq.trans (mG_st (i := (.iconst 1)) (len := 1) (z := (16, [.ref 0, .int (zI x1), .int (zI x2), .ref 198, .double 0], [.int (zI 1)], zW K A1 O (t + 1))) (mF_m tb_112 rfl) rfl) ?_
  exact mG_ir (len := 1) (mF_m tb_112 rfl) rfl rfl
theorem w_middle_x4 {x1 x2 : Int} {A1 : Nat → Int → Int} (h : mGd ar d 113 0 [.ref 0, .int (zI x1), .int (zI x2)] [] (zW K A O t) = some (.inr 4, zW K A1 O (t + 1))) : mGd ar (d + 1) 112 0 [.ref 0, .int (zI x1), .int (zI x2), .ref 198, .double 0] [] (zW K A O t) = some (.inl (some (.int (zI 2))), zW K A1 O (t + 1)) := by
  refine Eq.trans (mG_st (i := (.aload 3)) (len := 1) (z := (1, [.ref 0, .int (zI x1), .int (zI x2), .ref 198, .double 0], [.ref 198], zW K A O t)) (mF_m tb_112 rfl) rfl) ?_
  refine Eq.trans (mG_st (i := (.iconst 0)) (len := 1) (z := (2, [.ref 0, .int (zI x1), .int (zI x2), .ref 198, .double 0], [.int (zI 0), .ref 198], zW K A O t)) (mF_m tb_112 rfl) rfl) ?_
  refine Eq.trans (mG_st (i := (.aload 0)) (len := 1) (z := (3, [.ref 0, .int (zI x1), .int (zI x2), .ref 198, .double 0], [.ref 0, .int (zI 0), .ref 198], zW K A O t)) (mF_m tb_112 rfl) rfl) ?_
  refine Eq.trans (mG_st (i := (.iload 1)) (len := 1) (z := (4, [.ref 0, .int (zI x1), .int (zI x2), .ref 198, .double 0], [.int (zI x1), .ref 0, .int (zI 0), .ref 198], zW K A O t)) (mF_m tb_112 rfl) rfl) ?_
  refine Eq.trans (mG_st (i := (.iload 2)) (len := 1) (z := (5, [.ref 0, .int (zI x1), .int (zI x2), .ref 198, .double 0], [.int (zI x2), .int (zI x1), .ref 0, .int (zI 0), .ref 198], zW K A O t)) (mF_m tb_112 rfl) rfl) ?_
  refine Eq.trans (mG_in (i := (.invokeinterface 133 2)) (len := 3) (M' := 113) (k := 3) (x := 4) (pc' := 19) (j := 4) (w1 := zW K A1 O (t + 1)) (mF_m tb_112 rfl) (mC_if sh_0 rfl rfl rfl) rfl h rfl (show mHd 112 5 4 = some (19, 4) by decide +kernel) (show 4 < 5 by decide)) ?_
  show mGd ar (d + 1) 112 19 [.ref 0, .int (zI x1), .int (zI x2), .ref 198, .double 0] [] (zW K A1 O (t + 1)) = _
  refine Eq.trans (mG_st (i := (.iconst 2)) (len := 1) (z := (20, [.ref 0, .int (zI x1), .int (zI x2), .ref 198, .double 0], [.int (zI 2)], zW K A1 O (t + 1))) (mF_m tb_112 rfl) rfl) ?_
  exact mG_ir (len := 1) (mF_m tb_112 rfl) rfl rfl
theorem W_middle {x1 x2 : Int} (hq : zQ ar K O t d 113 [.ref 0, .int (zI x1), .int (zI x2)] 262 [.ref 185, .int (zI x1), .int (zI x2)] (fun E => if E = 2 then 1 else if E = 4 then 2 else 0) A) : zWr ar K O t (d + 1) 112 [.ref 0, .int (zI x1), .int (zI x2), .ref 198, .double 0] 262 [.ref 185, .int (zI x1), .int (zI x2)] (fun b => (zI b).toInt64) A := by
  obtain ⟨A1, ⟨b, h1, h2, h3⟩ | ⟨E, h1, h2, h3⟩⟩ := hq
  · obtain ⟨A2, y1, y2, y3⟩ := h3 (vp_updL O 0 ((zI b).toInt64)) t
    exact ⟨0, A1, _, t, w_middle_ok h1, by omega, by omega, b, A2, mGd_dp1 y1, y2, y3, fun _ => ⟨rfl, h2⟩⟩
  · obtain ⟨b, A2, y1, y2, y3⟩ := h3 O (t + 1)
    by_cases e2 : E = 2
    · subst e2
      exact ⟨1, A1, O, t + 1, w_middle_x2 h1, by omega, by omega, b, A2, mGd_dp1 y1, y2, y3, fun q => by omega⟩
    by_cases e4 : E = 4
    · subst e4
      exact ⟨2, A1, O, t + 1, w_middle_x4 h1, by omega, by omega, b, A2, mGd_dp1 y1, y2, y3, fun q => by omega⟩
    · exfalso
      simp only [e2, e4, if_false] at h2
      omega
theorem w_goes_ok {x1 x2 b : Int} {A1 : Nat → Int → Int} (h : mGd ar d 117 0 [.ref 0, .int (zI x1), .int (zI x2)] [] (zW K A O t) = some (.inl (some (.int (zI b))), zW K A1 O t)) : mGd ar (d + 1) 116 0 [.ref 0, .int (zI x1), .int (zI x2), .ref 198, .double 0] [] (zW K A O t) = some (.inl (some (.int (zI 0))), zW K A1 (vp_updL O 0 ((zI b).toInt64)) t) := by
  refine Eq.trans (mG_st (i := (.aload 3)) (len := 1) (z := (1, [.ref 0, .int (zI x1), .int (zI x2), .ref 198, .double 0], [.ref 198], zW K A O t)) (mF_m tb_116 rfl) rfl) ?_
  refine Eq.trans (mG_st (i := (.iconst 0)) (len := 1) (z := (2, [.ref 0, .int (zI x1), .int (zI x2), .ref 198, .double 0], [.int (zI 0), .ref 198], zW K A O t)) (mF_m tb_116 rfl) rfl) ?_
  refine Eq.trans (mG_st (i := (.aload 0)) (len := 1) (z := (3, [.ref 0, .int (zI x1), .int (zI x2), .ref 198, .double 0], [.ref 0, .int (zI 0), .ref 198], zW K A O t)) (mF_m tb_116 rfl) rfl) ?_
  refine Eq.trans (mG_st (i := (.iload 1)) (len := 1) (z := (4, [.ref 0, .int (zI x1), .int (zI x2), .ref 198, .double 0], [.int (zI x1), .ref 0, .int (zI 0), .ref 198], zW K A O t)) (mF_m tb_116 rfl) rfl) ?_
  refine Eq.trans (mG_st (i := (.iload 2)) (len := 1) (z := (5, [.ref 0, .int (zI x1), .int (zI x2), .ref 198, .double 0], [.int (zI x2), .int (zI x1), .ref 0, .int (zI 0), .ref 198], zW K A O t)) (mF_m tb_116 rfl) rfl) ?_
  refine Eq.trans (mG_ok (i := (.invokeinterface 136 2)) (len := 3) (M' := 117) (k := 3) (v := some (.int (zI b))) (w1 := zW K A1 O t) (mF_m tb_116 rfl) (mC_if sh_0 rfl rfl rfl) rfl h) ?_
  show mGd ar (d + 1) 116 8 [.ref 0, .int (zI x1), .int (zI x2), .ref 198, .double 0] [.int (zI b), .int (zI 0), .ref 198] (zW K A1 O t) = _
  refine Eq.trans (mG_st (i := .i2l) (len := 1) (z := (9, [.ref 0, .int (zI x1), .int (zI x2), .ref 198, .double 0], [.long ((zI b).toInt64), .int (zI 0), .ref 198], zW K A1 O t)) (mF_m tb_116 rfl) rfl) ?_
  refine Eq.trans (mG_st (i := .lastore) (len := 1) (z := (10, [.ref 0, .int (zI x1), .int (zI x2), .ref 198, .double 0], [], zW K A1 (vp_updL O 0 ((zI b).toInt64)) t)) (mF_m tb_116 rfl) zM_last) ?_
  refine Eq.trans (mG_st (i := (.goto 7)) (len := 3) (z := (17, [.ref 0, .int (zI x1), .int (zI x2), .ref 198, .double 0], [], zW K A1 (vp_updL O 0 ((zI b).toInt64)) t)) (mF_m tb_116 rfl) rfl) ?_
  refine Eq.trans (mG_st (i := (.iconst 0)) (len := 1) (z := (18, [.ref 0, .int (zI x1), .int (zI x2), .ref 198, .double 0], [.int (zI 0)], zW K A1 (vp_updL O 0 ((zI b).toInt64)) t)) (mF_m tb_116 rfl) rfl) ?_
  exact mG_ir (len := 1) (mF_m tb_116 rfl) rfl rfl
theorem w_goes_x2 {x1 x2 : Int} {A1 : Nat → Int → Int} (h : mGd ar d 117 0 [.ref 0, .int (zI x1), .int (zI x2)] [] (zW K A O t) = some (.inr 2, zW K A1 O (t + 1))) : mGd ar (d + 1) 116 0 [.ref 0, .int (zI x1), .int (zI x2), .ref 198, .double 0] [] (zW K A O t) = some (.inl (some (.int (zI 1))), zW K A1 O (t + 1)) := by
  refine Eq.trans (mG_st (i := (.aload 3)) (len := 1) (z := (1, [.ref 0, .int (zI x1), .int (zI x2), .ref 198, .double 0], [.ref 198], zW K A O t)) (mF_m tb_116 rfl) rfl) ?_
  refine Eq.trans (mG_st (i := (.iconst 0)) (len := 1) (z := (2, [.ref 0, .int (zI x1), .int (zI x2), .ref 198, .double 0], [.int (zI 0), .ref 198], zW K A O t)) (mF_m tb_116 rfl) rfl) ?_
  refine Eq.trans (mG_st (i := (.aload 0)) (len := 1) (z := (3, [.ref 0, .int (zI x1), .int (zI x2), .ref 198, .double 0], [.ref 0, .int (zI 0), .ref 198], zW K A O t)) (mF_m tb_116 rfl) rfl) ?_
  refine Eq.trans (mG_st (i := (.iload 1)) (len := 1) (z := (4, [.ref 0, .int (zI x1), .int (zI x2), .ref 198, .double 0], [.int (zI x1), .ref 0, .int (zI 0), .ref 198], zW K A O t)) (mF_m tb_116 rfl) rfl) ?_
  refine Eq.trans (mG_st (i := (.iload 2)) (len := 1) (z := (5, [.ref 0, .int (zI x1), .int (zI x2), .ref 198, .double 0], [.int (zI x2), .int (zI x1), .ref 0, .int (zI 0), .ref 198], zW K A O t)) (mF_m tb_116 rfl) rfl) ?_
  refine Eq.trans (mG_in (i := (.invokeinterface 136 2)) (len := 3) (M' := 117) (k := 3) (x := 2) (pc' := 15) (j := 4) (w1 := zW K A1 O (t + 1)) (mF_m tb_116 rfl) (mC_if sh_0 rfl rfl rfl) rfl h rfl (show mHd 116 5 2 = some (15, 4) by decide +kernel) (show 4 < 5 by decide)) ?_
  show mGd ar (d + 1) 116 15 [.ref 0, .int (zI x1), .int (zI x2), .ref 198, .double 0] [] (zW K A1 O (t + 1)) = _
  refine Eq.trans (mG_st (i := (.iconst 1)) (len := 1) (z := (16, [.ref 0, .int (zI x1), .int (zI x2), .ref 198, .double 0], [.int (zI 1)], zW K A1 O (t + 1))) (mF_m tb_116 rfl) rfl) ?_
  exact mG_ir (len := 1) (mF_m tb_116 rfl) rfl rfl
theorem W_goes {x1 x2 : Int} (hq : zQ ar K O t d 117 [.ref 0, .int (zI x1), .int (zI x2)] 271 [.ref 185, .int (zI x1), .int (zI x2)] (fun E => if E = 2 then 1 else 0) A) : zWr ar K O t (d + 1) 116 [.ref 0, .int (zI x1), .int (zI x2), .ref 198, .double 0] 271 [.ref 185, .int (zI x1), .int (zI x2)] (fun b => (zI b).toInt64) A := by
  obtain ⟨A1, ⟨b, h1, h2, h3⟩ | ⟨E, h1, h2, h3⟩⟩ := hq
  · obtain ⟨A2, y1, y2, y3⟩ := h3 (vp_updL O 0 ((zI b).toInt64)) t
    exact ⟨0, A1, _, t, w_goes_ok h1, by omega, by omega, b, A2, mGd_dp1 y1, y2, y3, fun _ => ⟨rfl, h2⟩⟩
  · obtain ⟨b, A2, y1, y2, y3⟩ := h3 O (t + 1)
    by_cases e2 : E = 2
    · subst e2
      exact ⟨1, A1, O, t + 1, w_goes_x2 h1, by omega, by omega, b, A2, mGd_dp1 y1, y2, y3, fun q => by omega⟩
    · exfalso
      simp only [e2, if_false] at h2
      omega
theorem w_tell_ok {x1 x2 x3 b : Int} {A1 : Nat → Int → Int} (h : mGd ar d 119 0 [.ref 0, .int (zI x1), .int (zI x2), .int (zI x3), .double 0] [] (zW K A O t) = some (.inl (some (.int (zI b))), zW K A1 O t)) : mGd ar (d + 1) 118 0 [.ref 0, .int (zI x1), .int (zI x2), .int (zI x3), .ref 198, .double 0] [] (zW K A O t) = some (.inl (some (.int (zI 0))), zW K A1 (vp_updL O 0 ((zI b).toInt64)) t) := by
  refine Eq.trans (mG_st (i := (.aload 4)) (len := 2) (z := (2, [.ref 0, .int (zI x1), .int (zI x2), .int (zI x3), .ref 198, .double 0], [.ref 198], zW K A O t)) (mF_m tb_118 rfl) rfl) ?_
  refine Eq.trans (mG_st (i := (.iconst 0)) (len := 1) (z := (3, [.ref 0, .int (zI x1), .int (zI x2), .int (zI x3), .ref 198, .double 0], [.int (zI 0), .ref 198], zW K A O t)) (mF_m tb_118 rfl) rfl) ?_
  refine Eq.trans (mG_st (i := (.aload 0)) (len := 1) (z := (4, [.ref 0, .int (zI x1), .int (zI x2), .int (zI x3), .ref 198, .double 0], [.ref 0, .int (zI 0), .ref 198], zW K A O t)) (mF_m tb_118 rfl) rfl) ?_
  refine Eq.trans (mG_st (i := (.iload 1)) (len := 1) (z := (5, [.ref 0, .int (zI x1), .int (zI x2), .int (zI x3), .ref 198, .double 0], [.int (zI x1), .ref 0, .int (zI 0), .ref 198], zW K A O t)) (mF_m tb_118 rfl) rfl) ?_
  refine Eq.trans (mG_st (i := (.iload 2)) (len := 1) (z := (6, [.ref 0, .int (zI x1), .int (zI x2), .int (zI x3), .ref 198, .double 0], [.int (zI x2), .int (zI x1), .ref 0, .int (zI 0), .ref 198], zW K A O t)) (mF_m tb_118 rfl) rfl) ?_
  refine Eq.trans (mG_st (i := (.iload 3)) (len := 1) (z := (7, [.ref 0, .int (zI x1), .int (zI x2), .int (zI x3), .ref 198, .double 0], [.int (zI x3), .int (zI x2), .int (zI x1), .ref 0, .int (zI 0), .ref 198], zW K A O t)) (mF_m tb_118 rfl) rfl) ?_
  refine Eq.trans (mG_ok (i := (.invokeinterface 137 3)) (len := 3) (M' := 119) (k := 4) (v := some (.int (zI b))) (w1 := zW K A1 O t) (mF_m tb_118 rfl) (mC_if sh_0 rfl rfl rfl) rfl h) ?_
  show mGd ar (d + 1) 118 10 [.ref 0, .int (zI x1), .int (zI x2), .int (zI x3), .ref 198, .double 0] [.int (zI b), .int (zI 0), .ref 198] (zW K A1 O t) = _
  refine Eq.trans (mG_st (i := .i2l) (len := 1) (z := (11, [.ref 0, .int (zI x1), .int (zI x2), .int (zI x3), .ref 198, .double 0], [.long ((zI b).toInt64), .int (zI 0), .ref 198], zW K A1 O t)) (mF_m tb_118 rfl) rfl) ?_
  refine Eq.trans (mG_st (i := .lastore) (len := 1) (z := (12, [.ref 0, .int (zI x1), .int (zI x2), .int (zI x3), .ref 198, .double 0], [], zW K A1 (vp_updL O 0 ((zI b).toInt64)) t)) (mF_m tb_118 rfl) zM_last) ?_
  refine Eq.trans (mG_st (i := (.goto 11)) (len := 3) (z := (23, [.ref 0, .int (zI x1), .int (zI x2), .int (zI x3), .ref 198, .double 0], [], zW K A1 (vp_updL O 0 ((zI b).toInt64)) t)) (mF_m tb_118 rfl) rfl) ?_
  refine Eq.trans (mG_st (i := (.iconst 0)) (len := 1) (z := (24, [.ref 0, .int (zI x1), .int (zI x2), .int (zI x3), .ref 198, .double 0], [.int (zI 0)], zW K A1 (vp_updL O 0 ((zI b).toInt64)) t)) (mF_m tb_118 rfl) rfl) ?_
  exact mG_ir (len := 1) (mF_m tb_118 rfl) rfl rfl
theorem w_tell_x2 {x1 x2 x3 : Int} {A1 : Nat → Int → Int} (h : mGd ar d 119 0 [.ref 0, .int (zI x1), .int (zI x2), .int (zI x3), .double 0] [] (zW K A O t) = some (.inr 2, zW K A1 O (t + 1))) : mGd ar (d + 1) 118 0 [.ref 0, .int (zI x1), .int (zI x2), .int (zI x3), .ref 198, .double 0] [] (zW K A O t) = some (.inl (some (.int (zI 1))), zW K A1 O (t + 1)) := by
  refine Eq.trans (mG_st (i := (.aload 4)) (len := 2) (z := (2, [.ref 0, .int (zI x1), .int (zI x2), .int (zI x3), .ref 198, .double 0], [.ref 198], zW K A O t)) (mF_m tb_118 rfl) rfl) ?_
  refine Eq.trans (mG_st (i := (.iconst 0)) (len := 1) (z := (3, [.ref 0, .int (zI x1), .int (zI x2), .int (zI x3), .ref 198, .double 0], [.int (zI 0), .ref 198], zW K A O t)) (mF_m tb_118 rfl) rfl) ?_
  refine Eq.trans (mG_st (i := (.aload 0)) (len := 1) (z := (4, [.ref 0, .int (zI x1), .int (zI x2), .int (zI x3), .ref 198, .double 0], [.ref 0, .int (zI 0), .ref 198], zW K A O t)) (mF_m tb_118 rfl) rfl) ?_
  refine Eq.trans (mG_st (i := (.iload 1)) (len := 1) (z := (5, [.ref 0, .int (zI x1), .int (zI x2), .int (zI x3), .ref 198, .double 0], [.int (zI x1), .ref 0, .int (zI 0), .ref 198], zW K A O t)) (mF_m tb_118 rfl) rfl) ?_
  refine Eq.trans (mG_st (i := (.iload 2)) (len := 1) (z := (6, [.ref 0, .int (zI x1), .int (zI x2), .int (zI x3), .ref 198, .double 0], [.int (zI x2), .int (zI x1), .ref 0, .int (zI 0), .ref 198], zW K A O t)) (mF_m tb_118 rfl) rfl) ?_
  refine Eq.trans (mG_st (i := (.iload 3)) (len := 1) (z := (7, [.ref 0, .int (zI x1), .int (zI x2), .int (zI x3), .ref 198, .double 0], [.int (zI x3), .int (zI x2), .int (zI x1), .ref 0, .int (zI 0), .ref 198], zW K A O t)) (mF_m tb_118 rfl) rfl) ?_
  refine Eq.trans (mG_in (i := (.invokeinterface 137 3)) (len := 3) (M' := 119) (k := 4) (x := 2) (pc' := 17) (j := 5) (w1 := zW K A1 O (t + 1)) (mF_m tb_118 rfl) (mC_if sh_0 rfl rfl rfl) rfl h rfl (show mHd 118 7 2 = some (17, 5) by decide +kernel) (show 5 < 6 by decide)) ?_
  show mGd ar (d + 1) 118 17 [.ref 0, .int (zI x1), .int (zI x2), .int (zI x3), .ref 198, .double 0] [] (zW K A1 O (t + 1)) = _
  refine Eq.trans (mG_st (i := (.iconst 1)) (len := 1) (z := (18, [.ref 0, .int (zI x1), .int (zI x2), .int (zI x3), .ref 198, .double 0], [.int (zI 1)], zW K A1 O (t + 1))) (mF_m tb_118 rfl) rfl) ?_
  exact mG_ir (len := 1) (mF_m tb_118 rfl) rfl rfl
theorem w_tell_x0 {x1 x2 x3 : Int} {A1 : Nat → Int → Int} (h : mGd ar d 119 0 [.ref 0, .int (zI x1), .int (zI x2), .int (zI x3), .double 0] [] (zW K A O t) = some (.inr 0, zW K A1 O (t + 1))) : mGd ar (d + 1) 118 0 [.ref 0, .int (zI x1), .int (zI x2), .int (zI x3), .ref 198, .double 0] [] (zW K A O t) = some (.inl (some (.int (zI 2))), zW K A1 O (t + 1)) := by
  refine Eq.trans (mG_st (i := (.aload 4)) (len := 2) (z := (2, [.ref 0, .int (zI x1), .int (zI x2), .int (zI x3), .ref 198, .double 0], [.ref 198], zW K A O t)) (mF_m tb_118 rfl) rfl) ?_
  refine Eq.trans (mG_st (i := (.iconst 0)) (len := 1) (z := (3, [.ref 0, .int (zI x1), .int (zI x2), .int (zI x3), .ref 198, .double 0], [.int (zI 0), .ref 198], zW K A O t)) (mF_m tb_118 rfl) rfl) ?_
  refine Eq.trans (mG_st (i := (.aload 0)) (len := 1) (z := (4, [.ref 0, .int (zI x1), .int (zI x2), .int (zI x3), .ref 198, .double 0], [.ref 0, .int (zI 0), .ref 198], zW K A O t)) (mF_m tb_118 rfl) rfl) ?_
  refine Eq.trans (mG_st (i := (.iload 1)) (len := 1) (z := (5, [.ref 0, .int (zI x1), .int (zI x2), .int (zI x3), .ref 198, .double 0], [.int (zI x1), .ref 0, .int (zI 0), .ref 198], zW K A O t)) (mF_m tb_118 rfl) rfl) ?_
  refine Eq.trans (mG_st (i := (.iload 2)) (len := 1) (z := (6, [.ref 0, .int (zI x1), .int (zI x2), .int (zI x3), .ref 198, .double 0], [.int (zI x2), .int (zI x1), .ref 0, .int (zI 0), .ref 198], zW K A O t)) (mF_m tb_118 rfl) rfl) ?_
  refine Eq.trans (mG_st (i := (.iload 3)) (len := 1) (z := (7, [.ref 0, .int (zI x1), .int (zI x2), .int (zI x3), .ref 198, .double 0], [.int (zI x3), .int (zI x2), .int (zI x1), .ref 0, .int (zI 0), .ref 198], zW K A O t)) (mF_m tb_118 rfl) rfl) ?_
  refine Eq.trans (mG_in (i := (.invokeinterface 137 3)) (len := 3) (M' := 119) (k := 4) (x := 0) (pc' := 21) (j := 5) (w1 := zW K A1 O (t + 1)) (mF_m tb_118 rfl) (mC_if sh_0 rfl rfl rfl) rfl h rfl (show mHd 118 7 0 = some (21, 5) by decide +kernel) (show 5 < 6 by decide)) ?_
  show mGd ar (d + 1) 118 21 [.ref 0, .int (zI x1), .int (zI x2), .int (zI x3), .ref 198, .double 0] [] (zW K A1 O (t + 1)) = _
  refine Eq.trans (mG_st (i := (.iconst 2)) (len := 1) (z := (22, [.ref 0, .int (zI x1), .int (zI x2), .int (zI x3), .ref 198, .double 0], [.int (zI 2)], zW K A1 O (t + 1))) (mF_m tb_118 rfl) rfl) ?_
  exact mG_ir (len := 1) (mF_m tb_118 rfl) rfl rfl
theorem W_tell {x1 x2 x3 : Int} (hq : zQ ar K O t d 119 [.ref 0, .int (zI x1), .int (zI x2), .int (zI x3), .double 0] 276 [.ref 185, .int (zI x1), .int (zI x2), .int (zI x3), .double 0] (fun E => if E = 2 then 1 else if E = 0 then 2 else 0) A) : zWr ar K O t (d + 1) 118 [.ref 0, .int (zI x1), .int (zI x2), .int (zI x3), .ref 198, .double 0] 276 [.ref 185, .int (zI x1), .int (zI x2), .int (zI x3), .double 0] (fun b => (zI b).toInt64) A := by
  obtain ⟨A1, ⟨b, h1, h2, h3⟩ | ⟨E, h1, h2, h3⟩⟩ := hq
  · obtain ⟨A2, y1, y2, y3⟩ := h3 (vp_updL O 0 ((zI b).toInt64)) t
    exact ⟨0, A1, _, t, w_tell_ok h1, by omega, by omega, b, A2, mGd_dp1 y1, y2, y3, fun _ => ⟨rfl, h2⟩⟩
  · obtain ⟨b, A2, y1, y2, y3⟩ := h3 O (t + 1)
    by_cases e2 : E = 2
    · subst e2
      exact ⟨1, A1, O, t + 1, w_tell_x2 h1, by omega, by omega, b, A2, mGd_dp1 y1, y2, y3, fun q => by omega⟩
    by_cases e0 : E = 0
    · subst e0
      exact ⟨2, A1, O, t + 1, w_tell_x0 h1, by omega, by omega, b, A2, mGd_dp1 y1, y2, y3, fun q => by omega⟩
    · exfalso
      simp only [e2, e0, if_false] at h2
      omega
theorem w_rule_ok {x1 x2 b : Int} {A1 : Nat → Int → Int} (h : mGd ar d 123 0 [.ref 0, .int (zI x1), .int (zI x2), .double 0] [] (zW K A O t) = some (.inl (some (.int (zI b))), zW K A1 O t)) : mGd ar (d + 1) 122 0 [.ref 0, .int (zI x1), .int (zI x2), .ref 198, .double 0] [] (zW K A O t) = some (.inl (some (.int (zI 0))), zW K A1 (vp_updL O 0 ((zI b).toInt64)) t) := by
  refine Eq.trans (mG_st (i := (.aload 3)) (len := 1) (z := (1, [.ref 0, .int (zI x1), .int (zI x2), .ref 198, .double 0], [.ref 198], zW K A O t)) (mF_m tb_122 rfl) rfl) ?_
  refine Eq.trans (mG_st (i := (.iconst 0)) (len := 1) (z := (2, [.ref 0, .int (zI x1), .int (zI x2), .ref 198, .double 0], [.int (zI 0), .ref 198], zW K A O t)) (mF_m tb_122 rfl) rfl) ?_
  refine Eq.trans (mG_st (i := (.aload 0)) (len := 1) (z := (3, [.ref 0, .int (zI x1), .int (zI x2), .ref 198, .double 0], [.ref 0, .int (zI 0), .ref 198], zW K A O t)) (mF_m tb_122 rfl) rfl) ?_
  refine Eq.trans (mG_st (i := (.iload 1)) (len := 1) (z := (4, [.ref 0, .int (zI x1), .int (zI x2), .ref 198, .double 0], [.int (zI x1), .ref 0, .int (zI 0), .ref 198], zW K A O t)) (mF_m tb_122 rfl) rfl) ?_
  refine Eq.trans (mG_st (i := (.iload 2)) (len := 1) (z := (5, [.ref 0, .int (zI x1), .int (zI x2), .ref 198, .double 0], [.int (zI x2), .int (zI x1), .ref 0, .int (zI 0), .ref 198], zW K A O t)) (mF_m tb_122 rfl) rfl) ?_
  refine Eq.trans (mG_ok (i := (.invokeinterface 140 2)) (len := 3) (M' := 123) (k := 3) (v := some (.int (zI b))) (w1 := zW K A1 O t) (mF_m tb_122 rfl) (mC_if sh_0 rfl rfl rfl) rfl h) ?_
  show mGd ar (d + 1) 122 8 [.ref 0, .int (zI x1), .int (zI x2), .ref 198, .double 0] [.int (zI b), .int (zI 0), .ref 198] (zW K A1 O t) = _
  refine Eq.trans (mG_st (i := .i2l) (len := 1) (z := (9, [.ref 0, .int (zI x1), .int (zI x2), .ref 198, .double 0], [.long ((zI b).toInt64), .int (zI 0), .ref 198], zW K A1 O t)) (mF_m tb_122 rfl) rfl) ?_
  refine Eq.trans (mG_st (i := .lastore) (len := 1) (z := (10, [.ref 0, .int (zI x1), .int (zI x2), .ref 198, .double 0], [], zW K A1 (vp_updL O 0 ((zI b).toInt64)) t)) (mF_m tb_122 rfl) zM_last) ?_
  refine Eq.trans (mG_st (i := (.goto 7)) (len := 3) (z := (17, [.ref 0, .int (zI x1), .int (zI x2), .ref 198, .double 0], [], zW K A1 (vp_updL O 0 ((zI b).toInt64)) t)) (mF_m tb_122 rfl) rfl) ?_
  refine Eq.trans (mG_st (i := (.iconst 0)) (len := 1) (z := (18, [.ref 0, .int (zI x1), .int (zI x2), .ref 198, .double 0], [.int (zI 0)], zW K A1 (vp_updL O 0 ((zI b).toInt64)) t)) (mF_m tb_122 rfl) rfl) ?_
  exact mG_ir (len := 1) (mF_m tb_122 rfl) rfl rfl
theorem w_rule_x2 {x1 x2 : Int} {A1 : Nat → Int → Int} (h : mGd ar d 123 0 [.ref 0, .int (zI x1), .int (zI x2), .double 0] [] (zW K A O t) = some (.inr 2, zW K A1 O (t + 1))) : mGd ar (d + 1) 122 0 [.ref 0, .int (zI x1), .int (zI x2), .ref 198, .double 0] [] (zW K A O t) = some (.inl (some (.int (zI 1))), zW K A1 O (t + 1)) := by
  refine Eq.trans (mG_st (i := (.aload 3)) (len := 1) (z := (1, [.ref 0, .int (zI x1), .int (zI x2), .ref 198, .double 0], [.ref 198], zW K A O t)) (mF_m tb_122 rfl) rfl) ?_
  refine Eq.trans (mG_st (i := (.iconst 0)) (len := 1) (z := (2, [.ref 0, .int (zI x1), .int (zI x2), .ref 198, .double 0], [.int (zI 0), .ref 198], zW K A O t)) (mF_m tb_122 rfl) rfl) ?_
  refine Eq.trans (mG_st (i := (.aload 0)) (len := 1) (z := (3, [.ref 0, .int (zI x1), .int (zI x2), .ref 198, .double 0], [.ref 0, .int (zI 0), .ref 198], zW K A O t)) (mF_m tb_122 rfl) rfl) ?_
  refine Eq.trans (mG_st (i := (.iload 1)) (len := 1) (z := (4, [.ref 0, .int (zI x1), .int (zI x2), .ref 198, .double 0], [.int (zI x1), .ref 0, .int (zI 0), .ref 198], zW K A O t)) (mF_m tb_122 rfl) rfl) ?_
  refine Eq.trans (mG_st (i := (.iload 2)) (len := 1) (z := (5, [.ref 0, .int (zI x1), .int (zI x2), .ref 198, .double 0], [.int (zI x2), .int (zI x1), .ref 0, .int (zI 0), .ref 198], zW K A O t)) (mF_m tb_122 rfl) rfl) ?_
  refine Eq.trans (mG_in (i := (.invokeinterface 140 2)) (len := 3) (M' := 123) (k := 3) (x := 2) (pc' := 15) (j := 4) (w1 := zW K A1 O (t + 1)) (mF_m tb_122 rfl) (mC_if sh_0 rfl rfl rfl) rfl h rfl (show mHd 122 5 2 = some (15, 4) by decide +kernel) (show 4 < 5 by decide)) ?_
  show mGd ar (d + 1) 122 15 [.ref 0, .int (zI x1), .int (zI x2), .ref 198, .double 0] [] (zW K A1 O (t + 1)) = _
  refine Eq.trans (mG_st (i := (.iconst 1)) (len := 1) (z := (16, [.ref 0, .int (zI x1), .int (zI x2), .ref 198, .double 0], [.int (zI 1)], zW K A1 O (t + 1))) (mF_m tb_122 rfl) rfl) ?_
  exact mG_ir (len := 1) (mF_m tb_122 rfl) rfl rfl
theorem W_rule {x1 x2 : Int} (hq : zQ ar K O t d 123 [.ref 0, .int (zI x1), .int (zI x2), .double 0] 279 [.ref 185, .int (zI x1), .int (zI x2), .double 0] (fun E => if E = 2 then 1 else 0) A) : zWr ar K O t (d + 1) 122 [.ref 0, .int (zI x1), .int (zI x2), .ref 198, .double 0] 279 [.ref 185, .int (zI x1), .int (zI x2), .double 0] (fun b => (zI b).toInt64) A := by
  obtain ⟨A1, ⟨b, h1, h2, h3⟩ | ⟨E, h1, h2, h3⟩⟩ := hq
  · obtain ⟨A2, y1, y2, y3⟩ := h3 (vp_updL O 0 ((zI b).toInt64)) t
    exact ⟨0, A1, _, t, w_rule_ok h1, by omega, by omega, b, A2, mGd_dp1 y1, y2, y3, fun _ => ⟨rfl, h2⟩⟩
  · obtain ⟨b, A2, y1, y2, y3⟩ := h3 O (t + 1)
    by_cases e2 : E = 2
    · subst e2
      exact ⟨1, A1, O, t + 1, w_rule_x2 h1, by omega, by omega, b, A2, mGd_dp1 y1, y2, y3, fun q => by omega⟩
    · exfalso
      simp only [e2, if_false] at h2
      omega
end WRAP0
