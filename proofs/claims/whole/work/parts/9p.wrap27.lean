/-! THE LAW, 2: wrappers (by program: wip/gen/gen30.py) -/
section WRAP27
variable {ar : Nat → Nat × (Nat → Int32)} {d D t : Nat} {K : Nat → Nat → Option Nat} {A : Nat → Int → Int} {O : Nat → Int64}

theorem w_hates_ok {x1 b : Int} {A1 : Nat → Int → Int} (h : mGd ar d 191 0 [.ref 0, .int (zI x1), .double 0, .double 0] [] (zW K A O t) = some (.inl (some (.int (zI b))), zW K A1 O t)) : mGd ar (d + 1) 190 0 [.ref 0, .int (zI x1), .ref 198, .double 0] [] (zW K A O t) = some (.inl (some (.int (zI 0))), zW K A1 (vp_updL O 0 ((zI b).toInt64)) t) := by
  refine Eq.trans (mG_st (i := (.aload 2)) (len := 1) (z := (1, [.ref 0, .int (zI x1), .ref 198, .double 0], [.ref 198], zW K A O t)) (mF_m tb_190 rfl) rfl) ?_
  refine Eq.trans (mG_st (i := (.iconst 0)) (len := 1) (z := (2, [.ref 0, .int (zI x1), .ref 198, .double 0], [.int (zI 0), .ref 198], zW K A O t)) (mF_m tb_190 rfl) rfl) ?_
  refine Eq.trans (mG_st (i := (.aload 0)) (len := 1) (z := (3, [.ref 0, .int (zI x1), .ref 198, .double 0], [.ref 0, .int (zI 0), .ref 198], zW K A O t)) (mF_m tb_190 rfl) rfl) ?_
  refine Eq.trans (mG_st (i := (.iload 1)) (len := 1) (z := (4, [.ref 0, .int (zI x1), .ref 198, .double 0], [.int (zI x1), .ref 0, .int (zI 0), .ref 198], zW K A O t)) (mF_m tb_190 rfl) rfl) ?_
  refine Eq.trans (mG_ok (i := (.invokeinterface 186 1)) (len := 3) (M' := 191) (k := 2) (v := some (.int (zI b))) (w1 := zW K A1 O t) (mF_m tb_190 rfl) (mC_if sh_0 rfl rfl rfl) rfl h) ?_
  show mGd ar (d + 1) 190 7 [.ref 0, .int (zI x1), .ref 198, .double 0] [.int (zI b), .int (zI 0), .ref 198] (zW K A1 O t) = _
  refine Eq.trans (mG_st (i := .i2l) (len := 1) (z := (8, [.ref 0, .int (zI x1), .ref 198, .double 0], [.long ((zI b).toInt64), .int (zI 0), .ref 198], zW K A1 O t)) (mF_m tb_190 rfl) rfl) ?_
  refine Eq.trans (mG_st (i := .lastore) (len := 1) (z := (9, [.ref 0, .int (zI x1), .ref 198, .double 0], [], zW K A1 (vp_updL O 0 ((zI b).toInt64)) t)) (mF_m tb_190 rfl) zM_last) ?_
  refine Eq.trans (mG_st (i := (.goto 6)) (len := 3) (z := (15, [.ref 0, .int (zI x1), .ref 198, .double 0], [], zW K A1 (vp_updL O 0 ((zI b).toInt64)) t)) (mF_m tb_190 rfl) rfl) ?_
  refine Eq.trans (mG_st (i := (.iconst 0)) (len := 1) (z := (16, [.ref 0, .int (zI x1), .ref 198, .double 0], [.int (zI 0)], zW K A1 (vp_updL O 0 ((zI b).toInt64)) t)) (mF_m tb_190 rfl) rfl) ?_
  exact mG_ir (len := 1) (mF_m tb_190 rfl) rfl rfl
theorem w_hates_x0 {x1 : Int} {A1 : Nat → Int → Int} (h : mGd ar d 191 0 [.ref 0, .int (zI x1), .double 0, .double 0] [] (zW K A O t) = some (.inr 0, zW K A1 O (t + 1))) : mGd ar (d + 1) 190 0 [.ref 0, .int (zI x1), .ref 198, .double 0] [] (zW K A O t) = some (.inl (some (.int (zI 1))), zW K A1 O (t + 1)) := by
  refine Eq.trans (mG_st (i := (.aload 2)) (len := 1) (z := (1, [.ref 0, .int (zI x1), .ref 198, .double 0], [.ref 198], zW K A O t)) (mF_m tb_190 rfl) rfl) ?_
  refine Eq.trans (mG_st (i := (.iconst 0)) (len := 1) (z := (2, [.ref 0, .int (zI x1), .ref 198, .double 0], [.int (zI 0), .ref 198], zW K A O t)) (mF_m tb_190 rfl) rfl) ?_
  refine Eq.trans (mG_st (i := (.aload 0)) (len := 1) (z := (3, [.ref 0, .int (zI x1), .ref 198, .double 0], [.ref 0, .int (zI 0), .ref 198], zW K A O t)) (mF_m tb_190 rfl) rfl) ?_
  refine Eq.trans (mG_st (i := (.iload 1)) (len := 1) (z := (4, [.ref 0, .int (zI x1), .ref 198, .double 0], [.int (zI x1), .ref 0, .int (zI 0), .ref 198], zW K A O t)) (mF_m tb_190 rfl) rfl) ?_
  refine Eq.trans (mG_in (i := (.invokeinterface 186 1)) (len := 3) (M' := 191) (k := 2) (x := 0) (pc' := 13) (j := 3) (w1 := zW K A1 O (t + 1)) (mF_m tb_190 rfl) (mC_if sh_0 rfl rfl rfl) rfl h rfl (show mHd 190 4 0 = some (13, 3) by decide +kernel) (show 3 < 4 by decide)) ?_
  show mGd ar (d + 1) 190 13 [.ref 0, .int (zI x1), .ref 198, .double 0] [] (zW K A1 O (t + 1)) = _
  refine Eq.trans (mG_st (i := (.iconst 1)) (len := 1) (z := (14, [.ref 0, .int (zI x1), .ref 198, .double 0], [.int (zI 1)], zW K A1 O (t + 1))) (mF_m tb_190 rfl) rfl) ?_
  exact mG_ir (len := 1) (mF_m tb_190 rfl) rfl rfl
theorem W_hates {x1 : Int} (hq : zQ ar K O t d 191 [.ref 0, .int (zI x1), .double 0, .double 0] 327 [.ref 185, .int (zI x1), .double 0, .double 0] (fun E => if E = 0 then 1 else 0) A) : zWr ar K O t (d + 1) 190 [.ref 0, .int (zI x1), .ref 198, .double 0] 327 [.ref 185, .int (zI x1), .double 0, .double 0] (fun b => (zI b).toInt64) A := by
  obtain ⟨A1, ⟨b, h1, h2, h3⟩ | ⟨E, h1, h2, h3⟩⟩ := hq
  · obtain ⟨A2, y1, y2, y3⟩ := h3 (vp_updL O 0 ((zI b).toInt64)) t
    exact ⟨0, A1, _, t, w_hates_ok h1, by omega, by omega, b, A2, mGd_dp1 y1, y2, y3, fun _ => ⟨rfl, h2⟩⟩
  · obtain ⟨b, A2, y1, y2, y3⟩ := h3 O (t + 1)
    by_cases e0 : E = 0
    · subst e0
      exact ⟨1, A1, O, t + 1, w_hates_x0 h1, by omega, by omega, b, A2, mGd_dp1 y1, y2, y3, fun q => by omega⟩
    · exfalso
      simp only [e0, if_false] at h2
      omega
theorem w_village_ok {x1 b : Int} {A1 : Nat → Int → Int} (h : mGd ar d 193 0 [.ref 0, .int (zI x1)] [] (zW K A O t) = some (.inl (some (.int (zI b))), zW K A1 O t)) : mGd ar (d + 1) 192 0 [.ref 0, .int (zI x1), .ref 198, .double 0] [] (zW K A O t) = some (.inl (some (.int (zI 0))), zW K A1 (vp_updL O 0 ((zI b).toInt64)) t) := by
  refine Eq.trans (mG_st (i := (.aload 2)) (len := 1) (z := (1, [.ref 0, .int (zI x1), .ref 198, .double 0], [.ref 198], zW K A O t)) (mF_m tb_192 rfl) rfl) ?_
  refine Eq.trans (mG_st (i := (.iconst 0)) (len := 1) (z := (2, [.ref 0, .int (zI x1), .ref 198, .double 0], [.int (zI 0), .ref 198], zW K A O t)) (mF_m tb_192 rfl) rfl) ?_
  refine Eq.trans (mG_st (i := (.aload 0)) (len := 1) (z := (3, [.ref 0, .int (zI x1), .ref 198, .double 0], [.ref 0, .int (zI 0), .ref 198], zW K A O t)) (mF_m tb_192 rfl) rfl) ?_
  refine Eq.trans (mG_st (i := (.iload 1)) (len := 1) (z := (4, [.ref 0, .int (zI x1), .ref 198, .double 0], [.int (zI x1), .ref 0, .int (zI 0), .ref 198], zW K A O t)) (mF_m tb_192 rfl) rfl) ?_
  refine Eq.trans (mG_ok (i := (.invokeinterface 187 1)) (len := 3) (M' := 193) (k := 2) (v := some (.int (zI b))) (w1 := zW K A1 O t) (mF_m tb_192 rfl) (mC_if sh_0 rfl rfl rfl) rfl h) ?_
  show mGd ar (d + 1) 192 7 [.ref 0, .int (zI x1), .ref 198, .double 0] [.int (zI b), .int (zI 0), .ref 198] (zW K A1 O t) = _
  refine Eq.trans (mG_st (i := .i2l) (len := 1) (z := (8, [.ref 0, .int (zI x1), .ref 198, .double 0], [.long ((zI b).toInt64), .int (zI 0), .ref 198], zW K A1 O t)) (mF_m tb_192 rfl) rfl) ?_
  refine Eq.trans (mG_st (i := .lastore) (len := 1) (z := (9, [.ref 0, .int (zI x1), .ref 198, .double 0], [], zW K A1 (vp_updL O 0 ((zI b).toInt64)) t)) (mF_m tb_192 rfl) zM_last) ?_
  refine Eq.trans (mG_st (i := (.goto 6)) (len := 3) (z := (15, [.ref 0, .int (zI x1), .ref 198, .double 0], [], zW K A1 (vp_updL O 0 ((zI b).toInt64)) t)) (mF_m tb_192 rfl) rfl) ?_
  refine Eq.trans (mG_st (i := (.iconst 0)) (len := 1) (z := (16, [.ref 0, .int (zI x1), .ref 198, .double 0], [.int (zI 0)], zW K A1 (vp_updL O 0 ((zI b).toInt64)) t)) (mF_m tb_192 rfl) rfl) ?_
  exact mG_ir (len := 1) (mF_m tb_192 rfl) rfl rfl
theorem w_village_x0 {x1 : Int} {A1 : Nat → Int → Int} (h : mGd ar d 193 0 [.ref 0, .int (zI x1)] [] (zW K A O t) = some (.inr 0, zW K A1 O (t + 1))) : mGd ar (d + 1) 192 0 [.ref 0, .int (zI x1), .ref 198, .double 0] [] (zW K A O t) = some (.inl (some (.int (zI 1))), zW K A1 O (t + 1)) := by
  refine Eq.trans (mG_st (i := (.aload 2)) (len := 1) (z := (1, [.ref 0, .int (zI x1), .ref 198, .double 0], [.ref 198], zW K A O t)) (mF_m tb_192 rfl) rfl) ?_
  refine Eq.trans (mG_st (i := (.iconst 0)) (len := 1) (z := (2, [.ref 0, .int (zI x1), .ref 198, .double 0], [.int (zI 0), .ref 198], zW K A O t)) (mF_m tb_192 rfl) rfl) ?_
  refine Eq.trans (mG_st (i := (.aload 0)) (len := 1) (z := (3, [.ref 0, .int (zI x1), .ref 198, .double 0], [.ref 0, .int (zI 0), .ref 198], zW K A O t)) (mF_m tb_192 rfl) rfl) ?_
  refine Eq.trans (mG_st (i := (.iload 1)) (len := 1) (z := (4, [.ref 0, .int (zI x1), .ref 198, .double 0], [.int (zI x1), .ref 0, .int (zI 0), .ref 198], zW K A O t)) (mF_m tb_192 rfl) rfl) ?_
  refine Eq.trans (mG_in (i := (.invokeinterface 187 1)) (len := 3) (M' := 193) (k := 2) (x := 0) (pc' := 13) (j := 3) (w1 := zW K A1 O (t + 1)) (mF_m tb_192 rfl) (mC_if sh_0 rfl rfl rfl) rfl h rfl (show mHd 192 4 0 = some (13, 3) by decide +kernel) (show 3 < 4 by decide)) ?_
  show mGd ar (d + 1) 192 13 [.ref 0, .int (zI x1), .ref 198, .double 0] [] (zW K A1 O (t + 1)) = _
  refine Eq.trans (mG_st (i := (.iconst 1)) (len := 1) (z := (14, [.ref 0, .int (zI x1), .ref 198, .double 0], [.int (zI 1)], zW K A1 O (t + 1))) (mF_m tb_192 rfl) rfl) ?_
  exact mG_ir (len := 1) (mF_m tb_192 rfl) rfl rfl
theorem W_village {x1 : Int} (hq : zQ ar K O t d 193 [.ref 0, .int (zI x1)] 330 [.ref 185, .int (zI x1), .double 0, .double 0, .double 0] (fun E => if E = 0 then 1 else 0) A) : zWr ar K O t (d + 1) 192 [.ref 0, .int (zI x1), .ref 198, .double 0] 330 [.ref 185, .int (zI x1), .double 0, .double 0, .double 0] (fun b => (zI b).toInt64) A := by
  obtain ⟨A1, ⟨b, h1, h2, h3⟩ | ⟨E, h1, h2, h3⟩⟩ := hq
  · obtain ⟨A2, y1, y2, y3⟩ := h3 (vp_updL O 0 ((zI b).toInt64)) t
    exact ⟨0, A1, _, t, w_village_ok h1, by omega, by omega, b, A2, mGd_dp1 y1, y2, y3, fun _ => ⟨rfl, h2⟩⟩
  · obtain ⟨b, A2, y1, y2, y3⟩ := h3 O (t + 1)
    by_cases e0 : E = 0
    · subst e0
      exact ⟨1, A1, O, t + 1, w_village_x0 h1, by omega, by omega, b, A2, mGd_dp1 y1, y2, y3, fun q => by omega⟩
    · exfalso
      simp only [e0, if_false] at h2
      omega
theorem w_majority_ok {x1 x2 b : Int} {A1 : Nat → Int → Int} (h : mGd ar d 197 0 [.ref 0, .int (zI x1), .int (zI x2), .double 0, .double 0] [] (zW K A O t) = some (.inl (some (.int (zI b))), zW K A1 O t)) : mGd ar (d + 1) 196 0 [.ref 0, .int (zI x1), .int (zI x2), .ref 198, .double 0] [] (zW K A O t) = some (.inl (some (.int (zI 0))), zW K A1 (vp_updL O 0 ((zI b).toInt64)) t) := by
  refine Eq.trans (mG_st (i := (.aload 3)) (len := 1) (z := (1, [.ref 0, .int (zI x1), .int (zI x2), .ref 198, .double 0], [.ref 198], zW K A O t)) (mF_m tb_196 rfl) rfl) ?_
  refine Eq.trans (mG_st (i := (.iconst 0)) (len := 1) (z := (2, [.ref 0, .int (zI x1), .int (zI x2), .ref 198, .double 0], [.int (zI 0), .ref 198], zW K A O t)) (mF_m tb_196 rfl) rfl) ?_
  refine Eq.trans (mG_st (i := (.aload 0)) (len := 1) (z := (3, [.ref 0, .int (zI x1), .int (zI x2), .ref 198, .double 0], [.ref 0, .int (zI 0), .ref 198], zW K A O t)) (mF_m tb_196 rfl) rfl) ?_
  refine Eq.trans (mG_st (i := (.iload 1)) (len := 1) (z := (4, [.ref 0, .int (zI x1), .int (zI x2), .ref 198, .double 0], [.int (zI x1), .ref 0, .int (zI 0), .ref 198], zW K A O t)) (mF_m tb_196 rfl) rfl) ?_
  refine Eq.trans (mG_st (i := (.iload 2)) (len := 1) (z := (5, [.ref 0, .int (zI x1), .int (zI x2), .ref 198, .double 0], [.int (zI x2), .int (zI x1), .ref 0, .int (zI 0), .ref 198], zW K A O t)) (mF_m tb_196 rfl) rfl) ?_
  refine Eq.trans (mG_ok (i := (.invokeinterface 190 2)) (len := 3) (M' := 197) (k := 3) (v := some (.int (zI b))) (w1 := zW K A1 O t) (mF_m tb_196 rfl) (mC_if sh_0 rfl rfl rfl) rfl h) ?_
  show mGd ar (d + 1) 196 8 [.ref 0, .int (zI x1), .int (zI x2), .ref 198, .double 0] [.int (zI b), .int (zI 0), .ref 198] (zW K A1 O t) = _
  refine Eq.trans (mG_st (i := .i2l) (len := 1) (z := (9, [.ref 0, .int (zI x1), .int (zI x2), .ref 198, .double 0], [.long ((zI b).toInt64), .int (zI 0), .ref 198], zW K A1 O t)) (mF_m tb_196 rfl) rfl) ?_
  refine Eq.trans (mG_st (i := .lastore) (len := 1) (z := (10, [.ref 0, .int (zI x1), .int (zI x2), .ref 198, .double 0], [], zW K A1 (vp_updL O 0 ((zI b).toInt64)) t)) (mF_m tb_196 rfl) zM_last) ?_
  refine Eq.trans (mG_st (i := (.goto 11)) (len := 3) (z := (21, [.ref 0, .int (zI x1), .int (zI x2), .ref 198, .double 0], [], zW K A1 (vp_updL O 0 ((zI b).toInt64)) t)) (mF_m tb_196 rfl) rfl) ?_
  refine Eq.trans (mG_st (i := (.iconst 0)) (len := 1) (z := (22, [.ref 0, .int (zI x1), .int (zI x2), .ref 198, .double 0], [.int (zI 0)], zW K A1 (vp_updL O 0 ((zI b).toInt64)) t)) (mF_m tb_196 rfl) rfl) ?_
  exact mG_ir (len := 1) (mF_m tb_196 rfl) rfl rfl
theorem w_majority_x2 {x1 x2 : Int} {A1 : Nat → Int → Int} (h : mGd ar d 197 0 [.ref 0, .int (zI x1), .int (zI x2), .double 0, .double 0] [] (zW K A O t) = some (.inr 2, zW K A1 O (t + 1))) : mGd ar (d + 1) 196 0 [.ref 0, .int (zI x1), .int (zI x2), .ref 198, .double 0] [] (zW K A O t) = some (.inl (some (.int (zI 1))), zW K A1 O (t + 1)) := by
  refine Eq.trans (mG_st (i := (.aload 3)) (len := 1) (z := (1, [.ref 0, .int (zI x1), .int (zI x2), .ref 198, .double 0], [.ref 198], zW K A O t)) (mF_m tb_196 rfl) rfl) ?_
  refine Eq.trans (mG_st (i := (.iconst 0)) (len := 1) (z := (2, [.ref 0, .int (zI x1), .int (zI x2), .ref 198, .double 0], [.int (zI 0), .ref 198], zW K A O t)) (mF_m tb_196 rfl) rfl) ?_
  refine Eq.trans (mG_st (i := (.aload 0)) (len := 1) (z := (3, [.ref 0, .int (zI x1), .int (zI x2), .ref 198, .double 0], [.ref 0, .int (zI 0), .ref 198], zW K A O t)) (mF_m tb_196 rfl) rfl) ?_
  refine Eq.trans (mG_st (i := (.iload 1)) (len := 1) (z := (4, [.ref 0, .int (zI x1), .int (zI x2), .ref 198, .double 0], [.int (zI x1), .ref 0, .int (zI 0), .ref 198], zW K A O t)) (mF_m tb_196 rfl) rfl) ?_
  refine Eq.trans (mG_st (i := (.iload 2)) (len := 1) (z := (5, [.ref 0, .int (zI x1), .int (zI x2), .ref 198, .double 0], [.int (zI x2), .int (zI x1), .ref 0, .int (zI 0), .ref 198], zW K A O t)) (mF_m tb_196 rfl) rfl) ?_
  refine Eq.trans (mG_in (i := (.invokeinterface 190 2)) (len := 3) (M' := 197) (k := 3) (x := 2) (pc' := 15) (j := 4) (w1 := zW K A1 O (t + 1)) (mF_m tb_196 rfl) (mC_if sh_0 rfl rfl rfl) rfl h rfl (show mHd 196 5 2 = some (15, 4) by decide +kernel) (show 4 < 5 by decide)) ?_
  show mGd ar (d + 1) 196 15 [.ref 0, .int (zI x1), .int (zI x2), .ref 198, .double 0] [] (zW K A1 O (t + 1)) = _
  refine Eq.trans (mG_st (i := (.iconst 1)) (len := 1) (z := (16, [.ref 0, .int (zI x1), .int (zI x2), .ref 198, .double 0], [.int (zI 1)], zW K A1 O (t + 1))) (mF_m tb_196 rfl) rfl) ?_
  exact mG_ir (len := 1) (mF_m tb_196 rfl) rfl rfl
theorem w_majority_x0 {x1 x2 : Int} {A1 : Nat → Int → Int} (h : mGd ar d 197 0 [.ref 0, .int (zI x1), .int (zI x2), .double 0, .double 0] [] (zW K A O t) = some (.inr 0, zW K A1 O (t + 1))) : mGd ar (d + 1) 196 0 [.ref 0, .int (zI x1), .int (zI x2), .ref 198, .double 0] [] (zW K A O t) = some (.inl (some (.int (zI 2))), zW K A1 O (t + 1)) := by
  refine Eq.trans (mG_st (i := (.aload 3)) (len := 1) (z := (1, [.ref 0, .int (zI x1), .int (zI x2), .ref 198, .double 0], [.ref 198], zW K A O t)) (mF_m tb_196 rfl) rfl) ?_
  refine Eq.trans (mG_st (i := (.iconst 0)) (len := 1) (z := (2, [.ref 0, .int (zI x1), .int (zI x2), .ref 198, .double 0], [.int (zI 0), .ref 198], zW K A O t)) (mF_m tb_196 rfl) rfl) ?_
  refine Eq.trans (mG_st (i := (.aload 0)) (len := 1) (z := (3, [.ref 0, .int (zI x1), .int (zI x2), .ref 198, .double 0], [.ref 0, .int (zI 0), .ref 198], zW K A O t)) (mF_m tb_196 rfl) rfl) ?_
  refine Eq.trans (mG_st (i := (.iload 1)) (len := 1) (z := (4, [.ref 0, .int (zI x1), .int (zI x2), .ref 198, .double 0], [.int (zI x1), .ref 0, .int (zI 0), .ref 198], zW K A O t)) (mF_m tb_196 rfl) rfl) ?_
  refine Eq.trans (mG_st (i := (.iload 2)) (len := 1) (z := (5, [.ref 0, .int (zI x1), .int (zI x2), .ref 198, .double 0], [.int (zI x2), .int (zI x1), .ref 0, .int (zI 0), .ref 198], zW K A O t)) (mF_m tb_196 rfl) rfl) ?_
  refine Eq.trans (mG_in (i := (.invokeinterface 190 2)) (len := 3) (M' := 197) (k := 3) (x := 0) (pc' := 19) (j := 4) (w1 := zW K A1 O (t + 1)) (mF_m tb_196 rfl) (mC_if sh_0 rfl rfl rfl) rfl h rfl (show mHd 196 5 0 = some (19, 4) by decide +kernel) (show 4 < 5 by decide)) ?_
  show mGd ar (d + 1) 196 19 [.ref 0, .int (zI x1), .int (zI x2), .ref 198, .double 0] [] (zW K A1 O (t + 1)) = _
  refine Eq.trans (mG_st (i := (.iconst 2)) (len := 1) (z := (20, [.ref 0, .int (zI x1), .int (zI x2), .ref 198, .double 0], [.int (zI 2)], zW K A1 O (t + 1))) (mF_m tb_196 rfl) rfl) ?_
  exact mG_ir (len := 1) (mF_m tb_196 rfl) rfl rfl
theorem W_majority {x1 x2 : Int} (hq : zQ ar K O t d 197 [.ref 0, .int (zI x1), .int (zI x2), .double 0, .double 0] 332 [.ref 185, .int (zI x1), .int (zI x2), .double 0, .double 0] (fun E => if E = 2 then 1 else if E = 0 then 2 else 0) A) : zWr ar K O t (d + 1) 196 [.ref 0, .int (zI x1), .int (zI x2), .ref 198, .double 0] 332 [.ref 185, .int (zI x1), .int (zI x2), .double 0, .double 0] (fun b => (zI b).toInt64) A := by
  obtain ⟨A1, ⟨b, h1, h2, h3⟩ | ⟨E, h1, h2, h3⟩⟩ := hq
  · obtain ⟨A2, y1, y2, y3⟩ := h3 (vp_updL O 0 ((zI b).toInt64)) t
    exact ⟨0, A1, _, t, w_majority_ok h1, by omega, by omega, b, A2, mGd_dp1 y1, y2, y3, fun _ => ⟨rfl, h2⟩⟩
  · obtain ⟨b, A2, y1, y2, y3⟩ := h3 O (t + 1)
    by_cases e2 : E = 2
    · subst e2
      exact ⟨1, A1, O, t + 1, w_majority_x2 h1, by omega, by omega, b, A2, mGd_dp1 y1, y2, y3, fun q => by omega⟩
    by_cases e0 : E = 0
    · subst e0
      exact ⟨2, A1, O, t + 1, w_majority_x0 h1, by omega, by omega, b, A2, mGd_dp1 y1, y2, y3, fun q => by omega⟩
    · exfalso
      simp only [e2, e0, if_false] at h2
      omega
theorem w_rank_ok {x1 x2 b : Int} {A1 : Nat → Int → Int} (h : mGd ar d 200 0 [.ref 0, .int (zI x1), .int (zI x2), .double 0, .double 0, .double 0] [] (zW K A O t) = some (.inl (some (.int (zI b))), zW K A1 O t)) : mGd ar (d + 1) 199 0 [.ref 0, .int (zI x1), .int (zI x2), .ref 198, .double 0] [] (zW K A O t) = some (.inl (some (.int (zI 0))), zW K A1 (vp_updL O 0 ((zI b).toInt64)) t) := by
  refine Eq.trans (mG_st (i := (.aload 3)) (len := 1) (z := (1, [.ref 0, .int (zI x1), .int (zI x2), .ref 198, .double 0], [.ref 198], zW K A O t)) (mF_m tb_199 rfl) rfl) ?_
  refine Eq.trans (mG_st (i := (.iconst 0)) (len := 1) (z := (2, [.ref 0, .int (zI x1), .int (zI x2), .ref 198, .double 0], [.int (zI 0), .ref 198], zW K A O t)) (mF_m tb_199 rfl) rfl) ?_
  refine Eq.trans (mG_st (i := (.aload 0)) (len := 1) (z := (3, [.ref 0, .int (zI x1), .int (zI x2), .ref 198, .double 0], [.ref 0, .int (zI 0), .ref 198], zW K A O t)) (mF_m tb_199 rfl) rfl) ?_
  refine Eq.trans (mG_st (i := (.iload 1)) (len := 1) (z := (4, [.ref 0, .int (zI x1), .int (zI x2), .ref 198, .double 0], [.int (zI x1), .ref 0, .int (zI 0), .ref 198], zW K A O t)) (mF_m tb_199 rfl) rfl) ?_
  refine Eq.trans (mG_st (i := (.iload 2)) (len := 1) (z := (5, [.ref 0, .int (zI x1), .int (zI x2), .ref 198, .double 0], [.int (zI x2), .int (zI x1), .ref 0, .int (zI 0), .ref 198], zW K A O t)) (mF_m tb_199 rfl) rfl) ?_
  refine Eq.trans (mG_ok (i := (.invokeinterface 191 2)) (len := 3) (M' := 200) (k := 3) (v := some (.int (zI b))) (w1 := zW K A1 O t) (mF_m tb_199 rfl) (mC_if sh_0 rfl rfl rfl) rfl h) ?_
  show mGd ar (d + 1) 199 8 [.ref 0, .int (zI x1), .int (zI x2), .ref 198, .double 0] [.int (zI b), .int (zI 0), .ref 198] (zW K A1 O t) = _
  refine Eq.trans (mG_st (i := .i2l) (len := 1) (z := (9, [.ref 0, .int (zI x1), .int (zI x2), .ref 198, .double 0], [.long ((zI b).toInt64), .int (zI 0), .ref 198], zW K A1 O t)) (mF_m tb_199 rfl) rfl) ?_
  refine Eq.trans (mG_st (i := .lastore) (len := 1) (z := (10, [.ref 0, .int (zI x1), .int (zI x2), .ref 198, .double 0], [], zW K A1 (vp_updL O 0 ((zI b).toInt64)) t)) (mF_m tb_199 rfl) zM_last) ?_
  refine Eq.trans (mG_st (i := (.goto 7)) (len := 3) (z := (17, [.ref 0, .int (zI x1), .int (zI x2), .ref 198, .double 0], [], zW K A1 (vp_updL O 0 ((zI b).toInt64)) t)) (mF_m tb_199 rfl) rfl) ?_
  refine Eq.trans (mG_st (i := (.iconst 0)) (len := 1) (z := (18, [.ref 0, .int (zI x1), .int (zI x2), .ref 198, .double 0], [.int (zI 0)], zW K A1 (vp_updL O 0 ((zI b).toInt64)) t)) (mF_m tb_199 rfl) rfl) ?_
  exact mG_ir (len := 1) (mF_m tb_199 rfl) rfl rfl
theorem w_rank_x2 {x1 x2 : Int} {A1 : Nat → Int → Int} (h : mGd ar d 200 0 [.ref 0, .int (zI x1), .int (zI x2), .double 0, .double 0, .double 0] [] (zW K A O t) = some (.inr 2, zW K A1 O (t + 1))) : mGd ar (d + 1) 199 0 [.ref 0, .int (zI x1), .int (zI x2), .ref 198, .double 0] [] (zW K A O t) = some (.inl (some (.int (zI 1))), zW K A1 O (t + 1)) := by
  refine Eq.trans (mG_st (i := (.aload 3)) (len := 1) (z := (1, [.ref 0, .int (zI x1), .int (zI x2), .ref 198, .double 0], [.ref 198], zW K A O t)) (mF_m tb_199 rfl) rfl) ?_
  refine Eq.trans (mG_st (i := (.iconst 0)) (len := 1) (z := (2, [.ref 0, .int (zI x1), .int (zI x2), .ref 198, .double 0], [.int (zI 0), .ref 198], zW K A O t)) (mF_m tb_199 rfl) rfl) ?_
  refine Eq.trans (mG_st (i := (.aload 0)) (len := 1) (z := (3, [.ref 0, .int (zI x1), .int (zI x2), .ref 198, .double 0], [.ref 0, .int (zI 0), .ref 198], zW K A O t)) (mF_m tb_199 rfl) rfl) ?_
  refine Eq.trans (mG_st (i := (.iload 1)) (len := 1) (z := (4, [.ref 0, .int (zI x1), .int (zI x2), .ref 198, .double 0], [.int (zI x1), .ref 0, .int (zI 0), .ref 198], zW K A O t)) (mF_m tb_199 rfl) rfl) ?_
  refine Eq.trans (mG_st (i := (.iload 2)) (len := 1) (z := (5, [.ref 0, .int (zI x1), .int (zI x2), .ref 198, .double 0], [.int (zI x2), .int (zI x1), .ref 0, .int (zI 0), .ref 198], zW K A O t)) (mF_m tb_199 rfl) rfl) ?_
  refine Eq.trans (mG_in (i := (.invokeinterface 191 2)) (len := 3) (M' := 200) (k := 3) (x := 2) (pc' := 15) (j := 4) (w1 := zW K A1 O (t + 1)) (mF_m tb_199 rfl) (mC_if sh_0 rfl rfl rfl) rfl h rfl (show mHd 199 5 2 = some (15, 4) by decide +kernel) (show 4 < 5 by decide)) ?_
  show mGd ar (d + 1) 199 15 [.ref 0, .int (zI x1), .int (zI x2), .ref 198, .double 0] [] (zW K A1 O (t + 1)) = _
  refine Eq.trans (mG_st (i := (.iconst 1)) (len := 1) (z := (16, [.ref 0, .int (zI x1), .int (zI x2), .ref 198, .double 0], [.int (zI 1)], zW K A1 O (t + 1))) (mF_m tb_199 rfl) rfl) ?_
  exact mG_ir (len := 1) (mF_m tb_199 rfl) rfl rfl
theorem W_rank {x1 x2 : Int} (hq : zQ ar K O t d 200 [.ref 0, .int (zI x1), .int (zI x2), .double 0, .double 0, .double 0] 334 [.ref 185, .int (zI x1), .int (zI x2)] (fun E => if E = 2 then 1 else 0) A) : zWr ar K O t (d + 1) 199 [.ref 0, .int (zI x1), .int (zI x2), .ref 198, .double 0] 334 [.ref 185, .int (zI x1), .int (zI x2)] (fun b => (zI b).toInt64) A := by
  obtain ⟨A1, ⟨b, h1, h2, h3⟩ | ⟨E, h1, h2, h3⟩⟩ := hq
  · obtain ⟨A2, y1, y2, y3⟩ := h3 (vp_updL O 0 ((zI b).toInt64)) t
    exact ⟨0, A1, _, t, w_rank_ok h1, by omega, by omega, b, A2, mGd_dp1 y1, y2, y3, fun _ => ⟨rfl, h2⟩⟩
  · obtain ⟨b, A2, y1, y2, y3⟩ := h3 O (t + 1)
    by_cases e2 : E = 2
    · subst e2
      exact ⟨1, A1, O, t + 1, w_rank_x2 h1, by omega, by omega, b, A2, mGd_dp1 y1, y2, y3, fun q => by omega⟩
    · exfalso
      simp only [e2, if_false] at h2
      omega
theorem w_range_ok {x1 b : Int} {A1 : Nat → Int → Int} (h : mGd ar d 202 0 [.ref 0, .int (zI x1)] [] (zW K A O t) = some (.inl (some (.int (zI b))), zW K A1 O t)) : mGd ar (d + 1) 201 0 [.ref 0, .int (zI x1), .ref 198, .double 0] [] (zW K A O t) = some (.inl (some (.int (zI 0))), zW K A1 (vp_updL O 0 ((zI b).toInt64)) t) := by
  refine Eq.trans (mG_st (i := (.aload 2)) (len := 1) (z := (1, [.ref 0, .int (zI x1), .ref 198, .double 0], [.ref 198], zW K A O t)) (mF_m tb_201 rfl) rfl) ?_
  refine Eq.trans (mG_st (i := (.iconst 0)) (len := 1) (z := (2, [.ref 0, .int (zI x1), .ref 198, .double 0], [.int (zI 0), .ref 198], zW K A O t)) (mF_m tb_201 rfl) rfl) ?_
  refine Eq.trans (mG_st (i := (.aload 0)) (len := 1) (z := (3, [.ref 0, .int (zI x1), .ref 198, .double 0], [.ref 0, .int (zI 0), .ref 198], zW K A O t)) (mF_m tb_201 rfl) rfl) ?_
  refine Eq.trans (mG_st (i := (.iload 1)) (len := 1) (z := (4, [.ref 0, .int (zI x1), .ref 198, .double 0], [.int (zI x1), .ref 0, .int (zI 0), .ref 198], zW K A O t)) (mF_m tb_201 rfl) rfl) ?_
  refine Eq.trans (mG_ok (i := (.invokeinterface 192 1)) (len := 3) (M' := 202) (k := 2) (v := some (.int (zI b))) (w1 := zW K A1 O t) (mF_m tb_201 rfl) (mC_if sh_0 rfl rfl rfl) rfl h) ?_
  show mGd ar (d + 1) 201 7 [.ref 0, .int (zI x1), .ref 198, .double 0] [.int (zI b), .int (zI 0), .ref 198] (zW K A1 O t) = _
  refine Eq.trans (mG_st (i := .i2l) (len := 1) (z := (8, [.ref 0, .int (zI x1), .ref 198, .double 0], [.long ((zI b).toInt64), .int (zI 0), .ref 198], zW K A1 O t)) (mF_m tb_201 rfl) rfl) ?_
  refine Eq.trans (mG_st (i := .lastore) (len := 1) (z := (9, [.ref 0, .int (zI x1), .ref 198, .double 0], [], zW K A1 (vp_updL O 0 ((zI b).toInt64)) t)) (mF_m tb_201 rfl) zM_last) ?_
  refine Eq.trans (mG_st (i := (.goto 6)) (len := 3) (z := (15, [.ref 0, .int (zI x1), .ref 198, .double 0], [], zW K A1 (vp_updL O 0 ((zI b).toInt64)) t)) (mF_m tb_201 rfl) rfl) ?_
  refine Eq.trans (mG_st (i := (.iconst 0)) (len := 1) (z := (16, [.ref 0, .int (zI x1), .ref 198, .double 0], [.int (zI 0)], zW K A1 (vp_updL O 0 ((zI b).toInt64)) t)) (mF_m tb_201 rfl) rfl) ?_
  exact mG_ir (len := 1) (mF_m tb_201 rfl) rfl rfl
theorem w_range_x2 {x1 : Int} {A1 : Nat → Int → Int} (h : mGd ar d 202 0 [.ref 0, .int (zI x1)] [] (zW K A O t) = some (.inr 2, zW K A1 O (t + 1))) : mGd ar (d + 1) 201 0 [.ref 0, .int (zI x1), .ref 198, .double 0] [] (zW K A O t) = some (.inl (some (.int (zI 1))), zW K A1 O (t + 1)) := by
  refine Eq.trans (mG_st (i := (.aload 2)) (len := 1) (z := (1, [.ref 0, .int (zI x1), .ref 198, .double 0], [.ref 198], zW K A O t)) (mF_m tb_201 rfl) rfl) ?_
  refine Eq.trans (mG_st (i := (.iconst 0)) (len := 1) (z := (2, [.ref 0, .int (zI x1), .ref 198, .double 0], [.int (zI 0), .ref 198], zW K A O t)) (mF_m tb_201 rfl) rfl) ?_
  refine Eq.trans (mG_st (i := (.aload 0)) (len := 1) (z := (3, [.ref 0, .int (zI x1), .ref 198, .double 0], [.ref 0, .int (zI 0), .ref 198], zW K A O t)) (mF_m tb_201 rfl) rfl) ?_
  refine Eq.trans (mG_st (i := (.iload 1)) (len := 1) (z := (4, [.ref 0, .int (zI x1), .ref 198, .double 0], [.int (zI x1), .ref 0, .int (zI 0), .ref 198], zW K A O t)) (mF_m tb_201 rfl) rfl) ?_
  refine Eq.trans (mG_in (i := (.invokeinterface 192 1)) (len := 3) (M' := 202) (k := 2) (x := 2) (pc' := 13) (j := 3) (w1 := zW K A1 O (t + 1)) (mF_m tb_201 rfl) (mC_if sh_0 rfl rfl rfl) rfl h rfl (show mHd 201 4 2 = some (13, 3) by decide +kernel) (show 3 < 4 by decide)) ?_
  show mGd ar (d + 1) 201 13 [.ref 0, .int (zI x1), .ref 198, .double 0] [] (zW K A1 O (t + 1)) = _
  refine Eq.trans (mG_st (i := (.iconst 1)) (len := 1) (z := (14, [.ref 0, .int (zI x1), .ref 198, .double 0], [.int (zI 1)], zW K A1 O (t + 1))) (mF_m tb_201 rfl) rfl) ?_
  exact mG_ir (len := 1) (mF_m tb_201 rfl) rfl rfl
theorem W_range {x1 : Int} (hq : zQ ar K O t d 202 [.ref 0, .int (zI x1)] 335 [.ref 185, .int (zI x1)] (fun E => if E = 2 then 1 else 0) A) : zWr ar K O t (d + 1) 201 [.ref 0, .int (zI x1), .ref 198, .double 0] 335 [.ref 185, .int (zI x1)] (fun b => (zI b).toInt64) A := by
  obtain ⟨A1, ⟨b, h1, h2, h3⟩ | ⟨E, h1, h2, h3⟩⟩ := hq
  · obtain ⟨A2, y1, y2, y3⟩ := h3 (vp_updL O 0 ((zI b).toInt64)) t
    exact ⟨0, A1, _, t, w_range_ok h1, by omega, by omega, b, A2, mGd_dp1 y1, y2, y3, fun _ => ⟨rfl, h2⟩⟩
  · obtain ⟨b, A2, y1, y2, y3⟩ := h3 O (t + 1)
    by_cases e2 : E = 2
    · subst e2
      exact ⟨1, A1, O, t + 1, w_range_x2 h1, by omega, by omega, b, A2, mGd_dp1 y1, y2, y3, fun q => by omega⟩
    · exfalso
      simp only [e2, if_false] at h2
      omega
theorem w_trial_ok {x1 x2 b : Int} {A1 : Nat → Int → Int} (h : mGd ar d 204 0 [.ref 0, .int (zI x1), .int (zI x2)] [] (zW K A O t) = some (.inl (some (.int (zI b))), zW K A1 O t)) : mGd ar (d + 1) 203 0 [.ref 0, .int (zI x1), .int (zI x2), .ref 198, .double 0] [] (zW K A O t) = some (.inl (some (.int (zI 0))), zW K A1 (vp_updL O 0 ((zI b).toInt64)) t) := by
  refine Eq.trans (mG_st (i := (.aload 3)) (len := 1) (z := (1, [.ref 0, .int (zI x1), .int (zI x2), .ref 198, .double 0], [.ref 198], zW K A O t)) (mF_m tb_203 rfl) rfl) ?_
  refine Eq.trans (mG_st (i := (.iconst 0)) (len := 1) (z := (2, [.ref 0, .int (zI x1), .int (zI x2), .ref 198, .double 0], [.int (zI 0), .ref 198], zW K A O t)) (mF_m tb_203 rfl) rfl) ?_
  refine Eq.trans (mG_st (i := (.aload 0)) (len := 1) (z := (3, [.ref 0, .int (zI x1), .int (zI x2), .ref 198, .double 0], [.ref 0, .int (zI 0), .ref 198], zW K A O t)) (mF_m tb_203 rfl) rfl) ?_
  refine Eq.trans (mG_st (i := (.iload 1)) (len := 1) (z := (4, [.ref 0, .int (zI x1), .int (zI x2), .ref 198, .double 0], [.int (zI x1), .ref 0, .int (zI 0), .ref 198], zW K A O t)) (mF_m tb_203 rfl) rfl) ?_
  refine Eq.trans (mG_st (i := (.iload 2)) (len := 1) (z := (5, [.ref 0, .int (zI x1), .int (zI x2), .ref 198, .double 0], [.int (zI x2), .int (zI x1), .ref 0, .int (zI 0), .ref 198], zW K A O t)) (mF_m tb_203 rfl) rfl) ?_
  refine Eq.trans (mG_ok (i := (.invokeinterface 193 2)) (len := 3) (M' := 204) (k := 3) (v := some (.int (zI b))) (w1 := zW K A1 O t) (mF_m tb_203 rfl) (mC_if sh_0 rfl rfl rfl) rfl h) ?_
  show mGd ar (d + 1) 203 8 [.ref 0, .int (zI x1), .int (zI x2), .ref 198, .double 0] [.int (zI b), .int (zI 0), .ref 198] (zW K A1 O t) = _
  refine Eq.trans (mG_st (i := .i2l) (len := 1) (z := (9, [.ref 0, .int (zI x1), .int (zI x2), .ref 198, .double 0], [.long ((zI b).toInt64), .int (zI 0), .ref 198], zW K A1 O t)) (mF_m tb_203 rfl) rfl) ?_
  refine Eq.trans (mG_st (i := .lastore) (len := 1) (z := (10, [.ref 0, .int (zI x1), .int (zI x2), .ref 198, .double 0], [], zW K A1 (vp_updL O 0 ((zI b).toInt64)) t)) (mF_m tb_203 rfl) zM_last) ?_
  refine Eq.trans (mG_st (i := (.goto 11)) (len := 3) (z := (21, [.ref 0, .int (zI x1), .int (zI x2), .ref 198, .double 0], [], zW K A1 (vp_updL O 0 ((zI b).toInt64)) t)) (mF_m tb_203 rfl) rfl) ?_
  refine Eq.trans (mG_st (i := (.iconst 0)) (len := 1) (z := (22, [.ref 0, .int (zI x1), .int (zI x2), .ref 198, .double 0], [.int (zI 0)], zW K A1 (vp_updL O 0 ((zI b).toInt64)) t)) (mF_m tb_203 rfl) rfl) ?_
  exact mG_ir (len := 1) (mF_m tb_203 rfl) rfl rfl
theorem w_trial_x2 {x1 x2 : Int} {A1 : Nat → Int → Int} (h : mGd ar d 204 0 [.ref 0, .int (zI x1), .int (zI x2)] [] (zW K A O t) = some (.inr 2, zW K A1 O (t + 1))) : mGd ar (d + 1) 203 0 [.ref 0, .int (zI x1), .int (zI x2), .ref 198, .double 0] [] (zW K A O t) = some (.inl (some (.int (zI 1))), zW K A1 O (t + 1)) := by
  refine Eq.trans (mG_st (i := (.aload 3)) (len := 1) (z := (1, [.ref 0, .int (zI x1), .int (zI x2), .ref 198, .double 0], [.ref 198], zW K A O t)) (mF_m tb_203 rfl) rfl) ?_
  refine Eq.trans (mG_st (i := (.iconst 0)) (len := 1) (z := (2, [.ref 0, .int (zI x1), .int (zI x2), .ref 198, .double 0], [.int (zI 0), .ref 198], zW K A O t)) (mF_m tb_203 rfl) rfl) ?_
  refine Eq.trans (mG_st (i := (.aload 0)) (len := 1) (z := (3, [.ref 0, .int (zI x1), .int (zI x2), .ref 198, .double 0], [.ref 0, .int (zI 0), .ref 198], zW K A O t)) (mF_m tb_203 rfl) rfl) ?_
  refine Eq.trans (mG_st (i := (.iload 1)) (len := 1) (z := (4, [.ref 0, .int (zI x1), .int (zI x2), .ref 198, .double 0], [.int (zI x1), .ref 0, .int (zI 0), .ref 198], zW K A O t)) (mF_m tb_203 rfl) rfl) ?_
  refine Eq.trans (mG_st (i := (.iload 2)) (len := 1) (z := (5, [.ref 0, .int (zI x1), .int (zI x2), .ref 198, .double 0], [.int (zI x2), .int (zI x1), .ref 0, .int (zI 0), .ref 198], zW K A O t)) (mF_m tb_203 rfl) rfl) ?_
  refine Eq.trans (mG_in (i := (.invokeinterface 193 2)) (len := 3) (M' := 204) (k := 3) (x := 2) (pc' := 15) (j := 4) (w1 := zW K A1 O (t + 1)) (mF_m tb_203 rfl) (mC_if sh_0 rfl rfl rfl) rfl h rfl (show mHd 203 5 2 = some (15, 4) by decide +kernel) (show 4 < 5 by decide)) ?_
  show mGd ar (d + 1) 203 15 [.ref 0, .int (zI x1), .int (zI x2), .ref 198, .double 0] [] (zW K A1 O (t + 1)) = _
  refine Eq.trans (mG_st (i := (.iconst 1)) (len := 1) (z := (16, [.ref 0, .int (zI x1), .int (zI x2), .ref 198, .double 0], [.int (zI 1)], zW K A1 O (t + 1))) (mF_m tb_203 rfl) rfl) ?_
  exact mG_ir (len := 1) (mF_m tb_203 rfl) rfl rfl
theorem w_trial_x0 {x1 x2 : Int} {A1 : Nat → Int → Int} (h : mGd ar d 204 0 [.ref 0, .int (zI x1), .int (zI x2)] [] (zW K A O t) = some (.inr 0, zW K A1 O (t + 1))) : mGd ar (d + 1) 203 0 [.ref 0, .int (zI x1), .int (zI x2), .ref 198, .double 0] [] (zW K A O t) = some (.inl (some (.int (zI 2))), zW K A1 O (t + 1)) := by
  refine Eq.trans (mG_st (i := (.aload 3)) (len := 1) (z := (1, [.ref 0, .int (zI x1), .int (zI x2), .ref 198, .double 0], [.ref 198], zW K A O t)) (mF_m tb_203 rfl) rfl) ?_
  refine Eq.trans (mG_st (i := (.iconst 0)) (len := 1) (z := (2, [.ref 0, .int (zI x1), .int (zI x2), .ref 198, .double 0], [.int (zI 0), .ref 198], zW K A O t)) (mF_m tb_203 rfl) rfl) ?_
  refine Eq.trans (mG_st (i := (.aload 0)) (len := 1) (z := (3, [.ref 0, .int (zI x1), .int (zI x2), .ref 198, .double 0], [.ref 0, .int (zI 0), .ref 198], zW K A O t)) (mF_m tb_203 rfl) rfl) ?_
  refine Eq.trans (mG_st (i := (.iload 1)) (len := 1) (z := (4, [.ref 0, .int (zI x1), .int (zI x2), .ref 198, .double 0], [.int (zI x1), .ref 0, .int (zI 0), .ref 198], zW K A O t)) (mF_m tb_203 rfl) rfl) ?_
  refine Eq.trans (mG_st (i := (.iload 2)) (len := 1) (z := (5, [.ref 0, .int (zI x1), .int (zI x2), .ref 198, .double 0], [.int (zI x2), .int (zI x1), .ref 0, .int (zI 0), .ref 198], zW K A O t)) (mF_m tb_203 rfl) rfl) ?_
  refine Eq.trans (mG_in (i := (.invokeinterface 193 2)) (len := 3) (M' := 204) (k := 3) (x := 0) (pc' := 19) (j := 4) (w1 := zW K A1 O (t + 1)) (mF_m tb_203 rfl) (mC_if sh_0 rfl rfl rfl) rfl h rfl (show mHd 203 5 0 = some (19, 4) by decide +kernel) (show 4 < 5 by decide)) ?_
  show mGd ar (d + 1) 203 19 [.ref 0, .int (zI x1), .int (zI x2), .ref 198, .double 0] [] (zW K A1 O (t + 1)) = _
  refine Eq.trans (mG_st (i := (.iconst 2)) (len := 1) (z := (20, [.ref 0, .int (zI x1), .int (zI x2), .ref 198, .double 0], [.int (zI 2)], zW K A1 O (t + 1))) (mF_m tb_203 rfl) rfl) ?_
  exact mG_ir (len := 1) (mF_m tb_203 rfl) rfl rfl
theorem W_trial {x1 x2 : Int} (hq : zQ ar K O t d 204 [.ref 0, .int (zI x1), .int (zI x2)] 336 [.ref 185, .int (zI x1), .int (zI x2), .double 0] (fun E => if E = 2 then 1 else if E = 0 then 2 else 0) A) : zWr ar K O t (d + 1) 203 [.ref 0, .int (zI x1), .int (zI x2), .ref 198, .double 0] 336 [.ref 185, .int (zI x1), .int (zI x2), .double 0] (fun b => (zI b).toInt64) A := by
  obtain ⟨A1, ⟨b, h1, h2, h3⟩ | ⟨E, h1, h2, h3⟩⟩ := hq
  · obtain ⟨A2, y1, y2, y3⟩ := h3 (vp_updL O 0 ((zI b).toInt64)) t
    exact ⟨0, A1, _, t, w_trial_ok h1, by omega, by omega, b, A2, mGd_dp1 y1, y2, y3, fun _ => ⟨rfl, h2⟩⟩
  · obtain ⟨b, A2, y1, y2, y3⟩ := h3 O (t + 1)
    by_cases e2 : E = 2
    · subst e2
      exact ⟨1, A1, O, t + 1, w_trial_x2 h1, by omega, by omega, b, A2, mGd_dp1 y1, y2, y3, fun q => by omega⟩
    by_cases e0 : E = 0
    · subst e0
      exact ⟨2, A1, O, t + 1, w_trial_x0 h1, by omega, by omega, b, A2, mGd_dp1 y1, y2, y3, fun q => by omega⟩
    · exfalso
      simp only [e2, e0, if_false] at h2
      omega
theorem w_span_ok {x1 x2 x3 b : Int} {A1 : Nat → Int → Int} (h : mGd ar d 207 0 [.ref 0, .int (zI x1), .int (zI x2), .int (zI x3), .double 0, .double 0, .double 0] [] (zW K A O t) = some (.inl (some (.int (zI b))), zW K A1 O t)) : mGd ar (d + 1) 206 0 [.ref 0, .int (zI x1), .int (zI x2), .int (zI x3), .ref 198, .double 0] [] (zW K A O t) = some (.inl (some (.int (zI 0))), zW K A1 (vp_updL O 0 ((zI b).toInt64)) t) := by
  refine Eq.trans (mG_st (i := (.aload 4)) (len := 2) (z := (2, [.ref 0, .int (zI x1), .int (zI x2), .int (zI x3), .ref 198, .double 0], [.ref 198], zW K A O t)) (mF_m tb_206 rfl) rfl) ?_
  refine Eq.trans (mG_st (i := (.iconst 0)) (len := 1) (z := (3, [.ref 0, .int (zI x1), .int (zI x2), .int (zI x3), .ref 198, .double 0], [.int (zI 0), .ref 198], zW K A O t)) (mF_m tb_206 rfl) rfl) ?_
  refine Eq.trans (mG_st (i := (.aload 0)) (len := 1) (z := (4, [.ref 0, .int (zI x1), .int (zI x2), .int (zI x3), .ref 198, .double 0], [.ref 0, .int (zI 0), .ref 198], zW K A O t)) (mF_m tb_206 rfl) rfl) ?_
  refine Eq.trans (mG_st (i := (.iload 1)) (len := 1) (z := (5, [.ref 0, .int (zI x1), .int (zI x2), .int (zI x3), .ref 198, .double 0], [.int (zI x1), .ref 0, .int (zI 0), .ref 198], zW K A O t)) (mF_m tb_206 rfl) rfl) ?_
  refine Eq.trans (mG_st (i := (.iload 2)) (len := 1) (z := (6, [.ref 0, .int (zI x1), .int (zI x2), .int (zI x3), .ref 198, .double 0], [.int (zI x2), .int (zI x1), .ref 0, .int (zI 0), .ref 198], zW K A O t)) (mF_m tb_206 rfl) rfl) ?_
  refine Eq.trans (mG_st (i := (.iload 3)) (len := 1) (z := (7, [.ref 0, .int (zI x1), .int (zI x2), .int (zI x3), .ref 198, .double 0], [.int (zI x3), .int (zI x2), .int (zI x1), .ref 0, .int (zI 0), .ref 198], zW K A O t)) (mF_m tb_206 rfl) rfl) ?_
  refine Eq.trans (mG_ok (i := (.invokeinterface 195 3)) (len := 3) (M' := 207) (k := 4) (v := some (.int (zI b))) (w1 := zW K A1 O t) (mF_m tb_206 rfl) (mC_if sh_0 rfl rfl rfl) rfl h) ?_
  show mGd ar (d + 1) 206 10 [.ref 0, .int (zI x1), .int (zI x2), .int (zI x3), .ref 198, .double 0] [.int (zI b), .int (zI 0), .ref 198] (zW K A1 O t) = _
  refine Eq.trans (mG_st (i := .i2l) (len := 1) (z := (11, [.ref 0, .int (zI x1), .int (zI x2), .int (zI x3), .ref 198, .double 0], [.long ((zI b).toInt64), .int (zI 0), .ref 198], zW K A1 O t)) (mF_m tb_206 rfl) rfl) ?_
  refine Eq.trans (mG_st (i := .lastore) (len := 1) (z := (12, [.ref 0, .int (zI x1), .int (zI x2), .int (zI x3), .ref 198, .double 0], [], zW K A1 (vp_updL O 0 ((zI b).toInt64)) t)) (mF_m tb_206 rfl) zM_last) ?_
  refine Eq.trans (mG_st (i := (.goto 11)) (len := 3) (z := (23, [.ref 0, .int (zI x1), .int (zI x2), .int (zI x3), .ref 198, .double 0], [], zW K A1 (vp_updL O 0 ((zI b).toInt64)) t)) (mF_m tb_206 rfl) rfl) ?_
  refine Eq.trans (mG_st (i := (.iconst 0)) (len := 1) (z := (24, [.ref 0, .int (zI x1), .int (zI x2), .int (zI x3), .ref 198, .double 0], [.int (zI 0)], zW K A1 (vp_updL O 0 ((zI b).toInt64)) t)) (mF_m tb_206 rfl) rfl) ?_
  exact mG_ir (len := 1) (mF_m tb_206 rfl) rfl rfl
theorem w_span_x2 {x1 x2 x3 : Int} {A1 : Nat → Int → Int} (h : mGd ar d 207 0 [.ref 0, .int (zI x1), .int (zI x2), .int (zI x3), .double 0, .double 0, .double 0] [] (zW K A O t) = some (.inr 2, zW K A1 O (t + 1))) : mGd ar (d + 1) 206 0 [.ref 0, .int (zI x1), .int (zI x2), .int (zI x3), .ref 198, .double 0] [] (zW K A O t) = some (.inl (some (.int (zI 1))), zW K A1 O (t + 1)) := by
  refine Eq.trans (mG_st (i := (.aload 4)) (len := 2) (z := (2, [.ref 0, .int (zI x1), .int (zI x2), .int (zI x3), .ref 198, .double 0], [.ref 198], zW K A O t)) (mF_m tb_206 rfl) rfl) ?_
  refine Eq.trans (mG_st (i := (.iconst 0)) (len := 1) (z := (3, [.ref 0, .int (zI x1), .int (zI x2), .int (zI x3), .ref 198, .double 0], [.int (zI 0), .ref 198], zW K A O t)) (mF_m tb_206 rfl) rfl) ?_
  refine Eq.trans (mG_st (i := (.aload 0)) (len := 1) (z := (4, [.ref 0, .int (zI x1), .int (zI x2), .int (zI x3), .ref 198, .double 0], [.ref 0, .int (zI 0), .ref 198], zW K A O t)) (mF_m tb_206 rfl) rfl) ?_
  refine Eq.trans (mG_st (i := (.iload 1)) (len := 1) (z := (5, [.ref 0, .int (zI x1), .int (zI x2), .int (zI x3), .ref 198, .double 0], [.int (zI x1), .ref 0, .int (zI 0), .ref 198], zW K A O t)) (mF_m tb_206 rfl) rfl) ?_
  refine Eq.trans (mG_st (i := (.iload 2)) (len := 1) (z := (6, [.ref 0, .int (zI x1), .int (zI x2), .int (zI x3), .ref 198, .double 0], [.int (zI x2), .int (zI x1), .ref 0, .int (zI 0), .ref 198], zW K A O t)) (mF_m tb_206 rfl) rfl) ?_
  refine Eq.trans (mG_st (i := (.iload 3)) (len := 1) (z := (7, [.ref 0, .int (zI x1), .int (zI x2), .int (zI x3), .ref 198, .double 0], [.int (zI x3), .int (zI x2), .int (zI x1), .ref 0, .int (zI 0), .ref 198], zW K A O t)) (mF_m tb_206 rfl) rfl) ?_
  refine Eq.trans (mG_in (i := (.invokeinterface 195 3)) (len := 3) (M' := 207) (k := 4) (x := 2) (pc' := 17) (j := 5) (w1 := zW K A1 O (t + 1)) (mF_m tb_206 rfl) (mC_if sh_0 rfl rfl rfl) rfl h rfl (show mHd 206 7 2 = some (17, 5) by decide +kernel) (show 5 < 6 by decide)) ?_
  show mGd ar (d + 1) 206 17 [.ref 0, .int (zI x1), .int (zI x2), .int (zI x3), .ref 198, .double 0] [] (zW K A1 O (t + 1)) = _
  refine Eq.trans (mG_st (i := (.iconst 1)) (len := 1) (z := (18, [.ref 0, .int (zI x1), .int (zI x2), .int (zI x3), .ref 198, .double 0], [.int (zI 1)], zW K A1 O (t + 1))) (mF_m tb_206 rfl) rfl) ?_
  exact mG_ir (len := 1) (mF_m tb_206 rfl) rfl rfl
theorem w_span_x0 {x1 x2 x3 : Int} {A1 : Nat → Int → Int} (h : mGd ar d 207 0 [.ref 0, .int (zI x1), .int (zI x2), .int (zI x3), .double 0, .double 0, .double 0] [] (zW K A O t) = some (.inr 0, zW K A1 O (t + 1))) : mGd ar (d + 1) 206 0 [.ref 0, .int (zI x1), .int (zI x2), .int (zI x3), .ref 198, .double 0] [] (zW K A O t) = some (.inl (some (.int (zI 2))), zW K A1 O (t + 1)) := by
  refine Eq.trans (mG_st (i := (.aload 4)) (len := 2) (z := (2, [.ref 0, .int (zI x1), .int (zI x2), .int (zI x3), .ref 198, .double 0], [.ref 198], zW K A O t)) (mF_m tb_206 rfl) rfl) ?_
  refine Eq.trans (mG_st (i := (.iconst 0)) (len := 1) (z := (3, [.ref 0, .int (zI x1), .int (zI x2), .int (zI x3), .ref 198, .double 0], [.int (zI 0), .ref 198], zW K A O t)) (mF_m tb_206 rfl) rfl) ?_
  refine Eq.trans (mG_st (i := (.aload 0)) (len := 1) (z := (4, [.ref 0, .int (zI x1), .int (zI x2), .int (zI x3), .ref 198, .double 0], [.ref 0, .int (zI 0), .ref 198], zW K A O t)) (mF_m tb_206 rfl) rfl) ?_
  refine Eq.trans (mG_st (i := (.iload 1)) (len := 1) (z := (5, [.ref 0, .int (zI x1), .int (zI x2), .int (zI x3), .ref 198, .double 0], [.int (zI x1), .ref 0, .int (zI 0), .ref 198], zW K A O t)) (mF_m tb_206 rfl) rfl) ?_
  refine Eq.trans (mG_st (i := (.iload 2)) (len := 1) (z := (6, [.ref 0, .int (zI x1), .int (zI x2), .int (zI x3), .ref 198, .double 0], [.int (zI x2), .int (zI x1), .ref 0, .int (zI 0), .ref 198], zW K A O t)) (mF_m tb_206 rfl) rfl) ?_
  refine Eq.trans (mG_st (i := (.iload 3)) (len := 1) (z := (7, [.ref 0, .int (zI x1), .int (zI x2), .int (zI x3), .ref 198, .double 0], [.int (zI x3), .int (zI x2), .int (zI x1), .ref 0, .int (zI 0), .ref 198], zW K A O t)) (mF_m tb_206 rfl) rfl) ?_
  refine Eq.trans (mG_in (i := (.invokeinterface 195 3)) (len := 3) (M' := 207) (k := 4) (x := 0) (pc' := 21) (j := 5) (w1 := zW K A1 O (t + 1)) (mF_m tb_206 rfl) (mC_if sh_0 rfl rfl rfl) rfl h rfl (show mHd 206 7 0 = some (21, 5) by decide +kernel) (show 5 < 6 by decide)) ?_
  show mGd ar (d + 1) 206 21 [.ref 0, .int (zI x1), .int (zI x2), .int (zI x3), .ref 198, .double 0] [] (zW K A1 O (t + 1)) = _
  refine Eq.trans (mG_st (i := (.iconst 2)) (len := 1) (z := (22, [.ref 0, .int (zI x1), .int (zI x2), .int (zI x3), .ref 198, .double 0], [.int (zI 2)], zW K A1 O (t + 1))) (mF_m tb_206 rfl) rfl) ?_
  exact mG_ir (len := 1) (mF_m tb_206 rfl) rfl rfl
theorem W_span {x1 x2 x3 : Int} (hq : zQ ar K O t d 207 [.ref 0, .int (zI x1), .int (zI x2), .int (zI x3), .double 0, .double 0, .double 0] 337 [.ref 185, .int (zI x1), .int (zI x2), .int (zI x3), .double 0, .double 0, .double 0] (fun E => if E = 2 then 1 else if E = 0 then 2 else 0) A) : zWr ar K O t (d + 1) 206 [.ref 0, .int (zI x1), .int (zI x2), .int (zI x3), .ref 198, .double 0] 337 [.ref 185, .int (zI x1), .int (zI x2), .int (zI x3), .double 0, .double 0, .double 0] (fun b => (zI b).toInt64) A := by
  obtain ⟨A1, ⟨b, h1, h2, h3⟩ | ⟨E, h1, h2, h3⟩⟩ := hq
  · obtain ⟨A2, y1, y2, y3⟩ := h3 (vp_updL O 0 ((zI b).toInt64)) t
    exact ⟨0, A1, _, t, w_span_ok h1, by omega, by omega, b, A2, mGd_dp1 y1, y2, y3, fun _ => ⟨rfl, h2⟩⟩
  · obtain ⟨b, A2, y1, y2, y3⟩ := h3 O (t + 1)
    by_cases e2 : E = 2
    · subst e2
      exact ⟨1, A1, O, t + 1, w_span_x2 h1, by omega, by omega, b, A2, mGd_dp1 y1, y2, y3, fun q => by omega⟩
    by_cases e0 : E = 0
    · subst e0
      exact ⟨2, A1, O, t + 1, w_span_x0 h1, by omega, by omega, b, A2, mGd_dp1 y1, y2, y3, fun q => by omega⟩
    · exfalso
      simp only [e2, e0, if_false] at h2
      omega
theorem w_led_ok {x1 x2 b : Int} {A1 : Nat → Int → Int} (h : mGd ar d 209 0 [.ref 0, .int (zI x1), .int (zI x2), .double 0, .double 0] [] (zW K A O t) = some (.inl (some (.int (zI b))), zW K A1 O t)) : mGd ar (d + 1) 208 0 [.ref 0, .int (zI x1), .int (zI x2), .ref 198, .double 0] [] (zW K A O t) = some (.inl (some (.int (zI 0))), zW K A1 (vp_updL O 0 ((zI b).toInt64)) t) := by
  refine Eq.trans (mG_st (i := (.aload 3)) (len := 1) (z := (1, [.ref 0, .int (zI x1), .int (zI x2), .ref 198, .double 0], [.ref 198], zW K A O t)) (mF_m tb_208 rfl) rfl) ?_
  refine Eq.trans (mG_st (i := (.iconst 0)) (len := 1) (z := (2, [.ref 0, .int (zI x1), .int (zI x2), .ref 198, .double 0], [.int (zI 0), .ref 198], zW K A O t)) (mF_m tb_208 rfl) rfl) ?_
  refine Eq.trans (mG_st (i := (.aload 0)) (len := 1) (z := (3, [.ref 0, .int (zI x1), .int (zI x2), .ref 198, .double 0], [.ref 0, .int (zI 0), .ref 198], zW K A O t)) (mF_m tb_208 rfl) rfl) ?_
  refine Eq.trans (mG_st (i := (.iload 1)) (len := 1) (z := (4, [.ref 0, .int (zI x1), .int (zI x2), .ref 198, .double 0], [.int (zI x1), .ref 0, .int (zI 0), .ref 198], zW K A O t)) (mF_m tb_208 rfl) rfl) ?_
  refine Eq.trans (mG_st (i := (.iload 2)) (len := 1) (z := (5, [.ref 0, .int (zI x1), .int (zI x2), .ref 198, .double 0], [.int (zI x2), .int (zI x1), .ref 0, .int (zI 0), .ref 198], zW K A O t)) (mF_m tb_208 rfl) rfl) ?_
  refine Eq.trans (mG_ok (i := (.invokeinterface 196 2)) (len := 3) (M' := 209) (k := 3) (v := some (.int (zI b))) (w1 := zW K A1 O t) (mF_m tb_208 rfl) (mC_if sh_0 rfl rfl rfl) rfl h) ?_
  show mGd ar (d + 1) 208 8 [.ref 0, .int (zI x1), .int (zI x2), .ref 198, .double 0] [.int (zI b), .int (zI 0), .ref 198] (zW K A1 O t) = _
  refine Eq.trans (mG_st (i := .i2l) (len := 1) (z := (9, [.ref 0, .int (zI x1), .int (zI x2), .ref 198, .double 0], [.long ((zI b).toInt64), .int (zI 0), .ref 198], zW K A1 O t)) (mF_m tb_208 rfl) rfl) ?_
  refine Eq.trans (mG_st (i := .lastore) (len := 1) (z := (10, [.ref 0, .int (zI x1), .int (zI x2), .ref 198, .double 0], [], zW K A1 (vp_updL O 0 ((zI b).toInt64)) t)) (mF_m tb_208 rfl) zM_last) ?_
  refine Eq.trans (mG_st (i := (.goto 7)) (len := 3) (z := (17, [.ref 0, .int (zI x1), .int (zI x2), .ref 198, .double 0], [], zW K A1 (vp_updL O 0 ((zI b).toInt64)) t)) (mF_m tb_208 rfl) rfl) ?_
  refine Eq.trans (mG_st (i := (.iconst 0)) (len := 1) (z := (18, [.ref 0, .int (zI x1), .int (zI x2), .ref 198, .double 0], [.int (zI 0)], zW K A1 (vp_updL O 0 ((zI b).toInt64)) t)) (mF_m tb_208 rfl) rfl) ?_
  exact mG_ir (len := 1) (mF_m tb_208 rfl) rfl rfl
theorem w_led_x2 {x1 x2 : Int} {A1 : Nat → Int → Int} (h : mGd ar d 209 0 [.ref 0, .int (zI x1), .int (zI x2), .double 0, .double 0] [] (zW K A O t) = some (.inr 2, zW K A1 O (t + 1))) : mGd ar (d + 1) 208 0 [.ref 0, .int (zI x1), .int (zI x2), .ref 198, .double 0] [] (zW K A O t) = some (.inl (some (.int (zI 1))), zW K A1 O (t + 1)) := by
  refine Eq.trans (mG_st (i := (.aload 3)) (len := 1) (z := (1, [.ref 0, .int (zI x1), .int (zI x2), .ref 198, .double 0], [.ref 198], zW K A O t)) (mF_m tb_208 rfl) rfl) ?_
  refine Eq.trans (mG_st (i := (.iconst 0)) (len := 1) (z := (2, [.ref 0, .int (zI x1), .int (zI x2), .ref 198, .double 0], [.int (zI 0), .ref 198], zW K A O t)) (mF_m tb_208 rfl) rfl) ?_
  refine Eq.trans (mG_st (i := (.aload 0)) (len := 1) (z := (3, [.ref 0, .int (zI x1), .int (zI x2), .ref 198, .double 0], [.ref 0, .int (zI 0), .ref 198], zW K A O t)) (mF_m tb_208 rfl) rfl) ?_
  refine Eq.trans (mG_st (i := (.iload 1)) (len := 1) (z := (4, [.ref 0, .int (zI x1), .int (zI x2), .ref 198, .double 0], [.int (zI x1), .ref 0, .int (zI 0), .ref 198], zW K A O t)) (mF_m tb_208 rfl) rfl) ?_
  refine Eq.trans (mG_st (i := (.iload 2)) (len := 1) (z := (5, [.ref 0, .int (zI x1), .int (zI x2), .ref 198, .double 0], [.int (zI x2), .int (zI x1), .ref 0, .int (zI 0), .ref 198], zW K A O t)) (mF_m tb_208 rfl) rfl) ?_
  refine Eq.trans (mG_in (i := (.invokeinterface 196 2)) (len := 3) (M' := 209) (k := 3) (x := 2) (pc' := 15) (j := 4) (w1 := zW K A1 O (t + 1)) (mF_m tb_208 rfl) (mC_if sh_0 rfl rfl rfl) rfl h rfl (show mHd 208 5 2 = some (15, 4) by decide +kernel) (show 4 < 5 by decide)) ?_
  show mGd ar (d + 1) 208 15 [.ref 0, .int (zI x1), .int (zI x2), .ref 198, .double 0] [] (zW K A1 O (t + 1)) = _
  refine Eq.trans (mG_st (i := (.iconst 1)) (len := 1) (z := (16, [.ref 0, .int (zI x1), .int (zI x2), .ref 198, .double 0], [.int (zI 1)], zW K A1 O (t + 1))) (mF_m tb_208 rfl) rfl) ?_
  exact mG_ir (len := 1) (mF_m tb_208 rfl) rfl rfl
theorem W_led {x1 x2 : Int} (hq : zQ ar K O t d 209 [.ref 0, .int (zI x1), .int (zI x2), .double 0, .double 0] 338 [.ref 185, .int (zI x1), .int (zI x2), .double 0] (fun E => if E = 2 then 1 else 0) A) : zWr ar K O t (d + 1) 208 [.ref 0, .int (zI x1), .int (zI x2), .ref 198, .double 0] 338 [.ref 185, .int (zI x1), .int (zI x2), .double 0] (fun b => (zI b).toInt64) A := by
  obtain ⟨A1, ⟨b, h1, h2, h3⟩ | ⟨E, h1, h2, h3⟩⟩ := hq
  · obtain ⟨A2, y1, y2, y3⟩ := h3 (vp_updL O 0 ((zI b).toInt64)) t
    exact ⟨0, A1, _, t, w_led_ok h1, by omega, by omega, b, A2, mGd_dp1 y1, y2, y3, fun _ => ⟨rfl, h2⟩⟩
  · obtain ⟨b, A2, y1, y2, y3⟩ := h3 O (t + 1)
    by_cases e2 : E = 2
    · subst e2
      exact ⟨1, A1, O, t + 1, w_led_x2 h1, by omega, by omega, b, A2, mGd_dp1 y1, y2, y3, fun q => by omega⟩
    · exfalso
      simp only [e2, if_false] at h2
      omega
theorem w_log_ok {x1 x2 b : Int} {A1 : Nat → Int → Int} (h : mGd ar d 213 0 [.ref 0, .int (zI x1), .int (zI x2), .double 0] [] (zW K A O t) = some (.inl (some (.int (zI b))), zW K A1 O t)) : mGd ar (d + 1) 212 0 [.ref 0, .int (zI x1), .int (zI x2), .ref 198, .double 0] [] (zW K A O t) = some (.inl (some (.int (zI 0))), zW K A1 (vp_updL O 0 ((zI b).toInt64)) t) := by
  refine Eq.trans (mG_st (i := (.aload 3)) (len := 1) (z := (1, [.ref 0, .int (zI x1), .int (zI x2), .ref 198, .double 0], [.ref 198], zW K A O t)) (mF_m tb_212 rfl) rfl) ?_
  refine Eq.trans (mG_st (i := (.iconst 0)) (len := 1) (z := (2, [.ref 0, .int (zI x1), .int (zI x2), .ref 198, .double 0], [.int (zI 0), .ref 198], zW K A O t)) (mF_m tb_212 rfl) rfl) ?_
  refine Eq.trans (mG_st (i := (.aload 0)) (len := 1) (z := (3, [.ref 0, .int (zI x1), .int (zI x2), .ref 198, .double 0], [.ref 0, .int (zI 0), .ref 198], zW K A O t)) (mF_m tb_212 rfl) rfl) ?_
  refine Eq.trans (mG_st (i := (.iload 1)) (len := 1) (z := (4, [.ref 0, .int (zI x1), .int (zI x2), .ref 198, .double 0], [.int (zI x1), .ref 0, .int (zI 0), .ref 198], zW K A O t)) (mF_m tb_212 rfl) rfl) ?_
  refine Eq.trans (mG_st (i := (.iload 2)) (len := 1) (z := (5, [.ref 0, .int (zI x1), .int (zI x2), .ref 198, .double 0], [.int (zI x2), .int (zI x1), .ref 0, .int (zI 0), .ref 198], zW K A O t)) (mF_m tb_212 rfl) rfl) ?_
  refine Eq.trans (mG_ok (i := (.invokeinterface 199 2)) (len := 3) (M' := 213) (k := 3) (v := some (.int (zI b))) (w1 := zW K A1 O t) (mF_m tb_212 rfl) (mC_if sh_0 rfl rfl rfl) rfl h) ?_
  show mGd ar (d + 1) 212 8 [.ref 0, .int (zI x1), .int (zI x2), .ref 198, .double 0] [.int (zI b), .int (zI 0), .ref 198] (zW K A1 O t) = _
  refine Eq.trans (mG_st (i := .i2l) (len := 1) (z := (9, [.ref 0, .int (zI x1), .int (zI x2), .ref 198, .double 0], [.long ((zI b).toInt64), .int (zI 0), .ref 198], zW K A1 O t)) (mF_m tb_212 rfl) rfl) ?_
  refine Eq.trans (mG_st (i := .lastore) (len := 1) (z := (10, [.ref 0, .int (zI x1), .int (zI x2), .ref 198, .double 0], [], zW K A1 (vp_updL O 0 ((zI b).toInt64)) t)) (mF_m tb_212 rfl) zM_last) ?_
  refine Eq.trans (mG_st (i := (.goto 7)) (len := 3) (z := (17, [.ref 0, .int (zI x1), .int (zI x2), .ref 198, .double 0], [], zW K A1 (vp_updL O 0 ((zI b).toInt64)) t)) (mF_m tb_212 rfl) rfl) ?_
  refine Eq.trans (mG_st (i := (.iconst 0)) (len := 1) (z := (18, [.ref 0, .int (zI x1), .int (zI x2), .ref 198, .double 0], [.int (zI 0)], zW K A1 (vp_updL O 0 ((zI b).toInt64)) t)) (mF_m tb_212 rfl) rfl) ?_
  exact mG_ir (len := 1) (mF_m tb_212 rfl) rfl rfl
theorem w_log_x3 {x1 x2 : Int} {A1 : Nat → Int → Int} (h : mGd ar d 213 0 [.ref 0, .int (zI x1), .int (zI x2), .double 0] [] (zW K A O t) = some (.inr 3, zW K A1 O (t + 1))) : mGd ar (d + 1) 212 0 [.ref 0, .int (zI x1), .int (zI x2), .ref 198, .double 0] [] (zW K A O t) = some (.inl (some (.int (zI 1))), zW K A1 O (t + 1)) := by
  refine Eq.trans (mG_st (i := (.aload 3)) (len := 1) (z := (1, [.ref 0, .int (zI x1), .int (zI x2), .ref 198, .double 0], [.ref 198], zW K A O t)) (mF_m tb_212 rfl) rfl) ?_
  refine Eq.trans (mG_st (i := (.iconst 0)) (len := 1) (z := (2, [.ref 0, .int (zI x1), .int (zI x2), .ref 198, .double 0], [.int (zI 0), .ref 198], zW K A O t)) (mF_m tb_212 rfl) rfl) ?_
  refine Eq.trans (mG_st (i := (.aload 0)) (len := 1) (z := (3, [.ref 0, .int (zI x1), .int (zI x2), .ref 198, .double 0], [.ref 0, .int (zI 0), .ref 198], zW K A O t)) (mF_m tb_212 rfl) rfl) ?_
  refine Eq.trans (mG_st (i := (.iload 1)) (len := 1) (z := (4, [.ref 0, .int (zI x1), .int (zI x2), .ref 198, .double 0], [.int (zI x1), .ref 0, .int (zI 0), .ref 198], zW K A O t)) (mF_m tb_212 rfl) rfl) ?_
  refine Eq.trans (mG_st (i := (.iload 2)) (len := 1) (z := (5, [.ref 0, .int (zI x1), .int (zI x2), .ref 198, .double 0], [.int (zI x2), .int (zI x1), .ref 0, .int (zI 0), .ref 198], zW K A O t)) (mF_m tb_212 rfl) rfl) ?_
  refine Eq.trans (mG_in (i := (.invokeinterface 199 2)) (len := 3) (M' := 213) (k := 3) (x := 3) (pc' := 15) (j := 4) (w1 := zW K A1 O (t + 1)) (mF_m tb_212 rfl) (mC_if sh_0 rfl rfl rfl) rfl h rfl (show mHd 212 5 3 = some (15, 4) by decide +kernel) (show 4 < 5 by decide)) ?_
  show mGd ar (d + 1) 212 15 [.ref 0, .int (zI x1), .int (zI x2), .ref 198, .double 0] [] (zW K A1 O (t + 1)) = _
  refine Eq.trans (mG_st (i := (.iconst 1)) (len := 1) (z := (16, [.ref 0, .int (zI x1), .int (zI x2), .ref 198, .double 0], [.int (zI 1)], zW K A1 O (t + 1))) (mF_m tb_212 rfl) rfl) ?_
  exact mG_ir (len := 1) (mF_m tb_212 rfl) rfl rfl
theorem W_log {x1 x2 : Int} (hq : zQ ar K O t d 213 [.ref 0, .int (zI x1), .int (zI x2), .double 0] 342 [.ref 185, .int (zI x1), .int (zI x2)] (fun E => if E = 3 then 1 else 0) A) : zWr ar K O t (d + 1) 212 [.ref 0, .int (zI x1), .int (zI x2), .ref 198, .double 0] 342 [.ref 185, .int (zI x1), .int (zI x2)] (fun b => (zI b).toInt64) A := by
  obtain ⟨A1, ⟨b, h1, h2, h3⟩ | ⟨E, h1, h2, h3⟩⟩ := hq
  · obtain ⟨A2, y1, y2, y3⟩ := h3 (vp_updL O 0 ((zI b).toInt64)) t
    exact ⟨0, A1, _, t, w_log_ok h1, by omega, by omega, b, A2, mGd_dp1 y1, y2, y3, fun _ => ⟨rfl, h2⟩⟩
  · obtain ⟨b, A2, y1, y2, y3⟩ := h3 O (t + 1)
    by_cases e3 : E = 3
    · subst e3
      exact ⟨1, A1, O, t + 1, w_log_x3 h1, by omega, by omega, b, A2, mGd_dp1 y1, y2, y3, fun q => by omega⟩
    · exfalso
      simp only [e3, if_false] at h2
      omega
end WRAP27
