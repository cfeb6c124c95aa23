/-! FROM THE LAW'S ENTRY, 2: what stays the same, at the start -/
def mXi (w : Cond) : Bool := decide (w ∈ tables_1_4) || decide (w ∈ tables_1_3) || decide (w ∈ tables_1_5) || decide (w ∈ k2_sels lw_privs) || decide (w ∈ tables_1_1) || decide (w ∈ tables_1_2) || decide (w ∈ tables_1_6) || decide (w ∈ tables_1_9) || decide (w ∈ tables_1_7) || decide (w ∈ tables_1_8)
theorem mXv_in : (mXv.all mXi) = true := by decide +kernel
theorem mSup_in : mAt 1 234 = some (.superclass "MeanMan$HallText" "MeanMan$Lines") := by decide +kernel
def mAr (L : Nat) (xs : Nat → Int32) : Nat → Nat × (Nat → Int32) := fun k => if k = 150 then (L, xs) else ((mBy (k - 64)).length, fun j => (mBy (k - 64)).getD j 0)
theorem mTs_in {w : Cond} (k : Nat) (hk : k < 10) (h : w ∈ mTs.getD k []) : w ∈ lw_tbl := by
  refine mTs_sub (mTs.getD k []) ?_ w h
  have hl : k < mTs.length := hk
  rw [List.getD_eq_getElem?_getD, List.getElem?_eq_getElem hl]
  exact List.getElem_mem hl
theorem mXv_tbl {w : Cond} (h : w ∈ mXv) : w ∈ lw_tbl := by
  have h1 := List.all_eq_true.mp mXv_in w h
  simp only [mXi, Bool.or_eq_true, decide_eq_true_eq] at h1
  rcases h1 with ((((((((h1 | h1) | h1) | h1) | h1) | h1) | h1) | h1) | h1) | h1
  · exact mTs_in 4 (by decide) h1
  · exact mTs_in 3 (by decide) h1
  · exact mTs_in 5 (by decide) h1
  · exact mTs_in 0 (by decide) h1
  · exact mTs_in 1 (by decide) h1
  · exact mTs_in 2 (by decide) h1
  · exact mTs_in 6 (by decide) h1
  · exact mTs_in 9 (by decide) h1
  · exact mTs_in 7 (by decide) h1
  · exact mTs_in 8 (by decide) h1
theorem mXw_tbl {w : Cond} (h : w ∈ mXw) : w ∈ lw_tbl := by
  have h1 := List.all_eq_true.mp mXw_in w h
  simp only [Bool.or_eq_true, decide_eq_true_eq] at h1
  rcases h1 with h1 | h1
  · exact mTs_in 1 (by decide) h1
  · exact mTs_in 2 (by decide) h1
section START
variable {s : State} {b L : Nat} {xs : Nat → Int32}
theorem mStr_of (hs : ∀ w ∈ mFl, w.before #[Value.ref b] s = true) {A : Nat → Prop} (hA : ∀ a : Nat, a < s.heap.size → ¬ A a) {k : Nat} (hk : k < 31) : ∃ q : Nat × Nat, (mTm k).eval #[Value.ref b] s none [] s = some (.ref q.1) ∧ va_O "java/lang/String" q.1 A s s.heap ∧ va_OF "java/lang/String" "coder" "B" (.int 0) q.1 A s s.heap ∧ va_OF "java/lang/String" "value" "[B" (.ref q.2) q.1 A s s.heap ∧
    va_T .byte q.2 (mBy k).length (fun j => .int ((mBy k).getD j 0)) A s s.heap := by
  have h1 := List.all_eq_true.mp mSw_ok k (List.mem_range.mpr hk)
  simp only [Bool.and_eq_true, decide_eq_true_eq, Nat.blt_eq] at h1
  have hw : ∀ w ∈ mSw k, w.before #[Value.ref b] s = true := fun w hw => by
    rw [h1.1] at hw
    exact hs w (List.mem_of_mem_drop (List.mem_of_mem_take hw))
  have w0 := hw (.exactly (mTm k) "java/lang/String") (by unfold mSw; simp)
  have w1 := hw (.eq (.field (mTm k) "java/lang/String" "coder" "B") (.int 0)) (by unfold mSw; simp)
  have w2 := hw (.arrayOf (mFd k) .byte) (by unfold mSw; simp)
  have w3 := hw (.eq (.length (mFd k)) (.int (Int32.ofNat (mBy k).length))) (by unfold mSw; simp)
  have w4 : ∀ j, j < (mBy k).length → (Cond.eq (.elem (mFd k) (.int (Int32.ofNat j))) (.int ((mBy k).getD j 0))).before #[Value.ref b] s = true := fun j hj => hw _ (by
    unfold mSw
    exact List.mem_append_right _ (List.mem_map.mpr ⟨j, List.mem_range.mpr hj, rfl⟩))
  obtain ⟨adK, adV, hS, he⟩ := vk_Sof (args := #[Value.ref b]) (s := s) (N := 1) (tm := fun _ => mTm k) (len := [(mBy k).length]) (byt := [mBy k]) (A := A)
    (fun i hi => by
      have : i = 0 := by omega
      subst this
      show (mBy k).length < 2 ^ 31
      omega) (fun i hi => w0) (fun i hi => w1) (fun i hi => w2) (fun i hi => by
      have : i = 0 := by omega
      subst this
      exact w3) (fun i hi j hj => by
      have : i = 0 := by omega
      subst this
      exact w4 j hj) (fun i j hi hj hij => absurd (show i = j by omega) hij) hA
  exact ⟨(adK 0, adV 0), he 0 (by omega), hS.1 0 (by omega)⟩
theorem mCls_of (hts : ∀ w ∈ lw_tbl, w.before #[Value.ref b] s = true) {c : Nat} (hc : c < 13) : ∃ q : ClassId × (Nat → Nat), u_Kn s (mOn.getD c "") (mT c) (mCN c) q.1 q.2 := by
  by_cases h6 : c = 6
  · subst h6
    have h3 := List.all_eq_true.mp mIp_ok 3 (by decide)
    simp only [Bool.or_eq_true, decide_eq_true_eq] at h3
    have h3 := h3.resolve_left (by decide)
    obtain ⟨c3, k3, hf3, -⟩ := Cond.instantiable_spec (hts _ (mAt_mem h3))
    obtain ⟨p, k, kp, e1, -, e3, -, -, e6, -⟩ := Cond.superclass_spec (args := #[Value.ref b]) (first := s) (o := none) (idx := []) hf3 (hts _ (mAt_mem mSup_in))
    refine ⟨(p, fun _ => 0), fun k hk => absurd hk (by show ¬ k < 0; omega), e1, kp, e3, e6⟩
  · have h3 := List.all_eq_true.mp mIp_ok c (List.mem_range.mpr hc)
    simp only [Bool.or_eq_true, decide_eq_true_eq, Nat.beq_eq] at h3
    have h3 := h3.resolve_left h6
    obtain ⟨cC, iS, h⟩ := u_known (ws := lw_tbl) (C := mOn.getD c "") (T := mT c) (N := mCN c) hts (fun w hw => (List.mem_filter.mp (mLy_ok hc w hw)).1) (hts _ (mAt_mem h3))
    exact ⟨(cC, iS), h⟩
theorem mTys_of (hts : ∀ w ∈ lw_tbl, w.before #[Value.ref b] s = true) : ∃ t : Nat → ClassId, ∀ (k : Nat) (q : ClassId × FieldType), (mTys t)[k]? = some q → ArrOfT s q.1 q.2 ∧ va_RA s q.1 q.2 := by
  have hm : ∀ w ∈ mTb, w.before #[Value.ref b] s = true := fun w hw => hts w (List.mem_filter.mp hw).1
  obtain ⟨c0, k0, p0, a0, a1, a2⟩ := Cond.arrayClass_spec (args := #[Value.ref b]) (first := s) (o := none) (idx := []) (hm _ wo_aci)
  obtain ⟨c1, k1, p1, b0, b1, b2⟩ := Cond.arrayClass_spec (args := #[Value.ref b]) (first := s) (o := none) (idx := []) (hm _ wo_acb)
  obtain ⟨c2, k2, p2, d0, d1, d2⟩ := Cond.arrayClass_spec (args := #[Value.ref b]) (first := s) (o := none) (idx := []) (hm _ wo_acl)
  obtain ⟨p3, c3, k3, f0, -, f1, f2, f3⟩ := Cond.arrayOver_spec (args := #[Value.ref b]) (first := s) (o := none) (idx := []) (hts _ (mAt_mem mAo_in.1))
  obtain ⟨p4, c4, k4, g0, g1, g2, g3⟩ := Cond.arrayOver_specA (args := #[Value.ref b]) (first := s) (o := none) (idx := []) (hts _ (mAt_mem mAo_in.2))
  refine ⟨fun i => [c0, c1, c2, c3, c4].getD i c0, fun k q hq => ?_⟩
  have hk : k < 5 := (List.getElem?_eq_some_iff.mp hq).1
  rcases (show k = 0 ∨ k = 1 ∨ k = 2 ∨ k = 3 ∨ k = 4 by omega) with rfl | rfl | rfl | rfl | rfl
  · cases hq; exact ⟨fun N z => ⟨(fun k h => by cases h), k0, a1, p0, a2⟩, a0⟩
  · cases hq; exact ⟨fun N z => ⟨(fun k h => by cases h), k1, b1, p1, b2⟩, b0⟩
  · cases hq; exact ⟨fun N z => ⟨(fun k h => by cases h), k2, d1, p2, d2⟩, d0⟩
  · cases hq; exact ⟨fun N z => ⟨(fun k h => by cases h), k3, f1, p3, f2⟩, k3, p3, f1, f2, f0, f3⟩
  · cases hq; exact ⟨fun N z => ⟨(fun k h => by cases h), k4, g1, p4, g2⟩, g3⟩
theorem mNc_of (hs : ∀ w ∈ mFl, w.before #[Value.ref b] s = true) : ∀ x ∈ mExn, ∀ y ∈ mExn, x ≠ y → va_Nc x y s := by
  have h : ∀ e ∈ mNp, va_Nc (mExn.getD e.1 "") (mExn.getD e.2.1 "") s := fun e he => by
    have h1 := List.all_eq_true.mp mNp_ok e he
    simp only [decide_eq_true_eq] at h1
    exact va_Nc.of (hs _ (List.mem_of_getElem? h1))
  have hall : ((List.range 5).all fun i => (List.range 5).all fun j => Nat.beq i j || (mNp.any fun e => Nat.beq e.1 i && Nat.beq e.2.1 j)) = true := by decide
  have hg : ∀ x ∈ mExn, ∃ i, i < 5 ∧ mExn.getD i "" = x := fun x hx => by
    obtain ⟨i, hi⟩ := List.getElem?_of_mem hx
    have hi5 : i < 5 := (List.getElem?_eq_some_iff.mp hi).1
    exact ⟨i, hi5, by rw [List.getD_eq_getElem?_getD, hi]; rfl⟩
  intro x hx y hy hxy
  obtain ⟨i, hi, rfl⟩ := hg x hx
  obtain ⟨j, hj, rfl⟩ := hg y hy
  have h1 := List.all_eq_true.mp (List.all_eq_true.mp hall i (List.mem_range.mpr hi)) j (List.mem_range.mpr hj)
  simp only [Bool.or_eq_true, Nat.beq_eq, List.any_eq_true, Bool.and_eq_true] at h1
  rcases h1 with rfl | ⟨e, he, e1, e2⟩
  · exact absurd rfl hxy
  · have h2 := h e he
    rw [e1, e2] at h2
    exact h2
theorem mEntry (hts : ∀ w ∈ lw_tbl, w.before #[Value.ref b] s = true) (hg : (Jvm.Cond.and given_1 narrow_1).before #[Value.ref b] s = true) (hX : va_X b L xs s s.heap) (hb : b < s.heap.size) : ∃ G : mG, gA G = mAr L xs ∧ gB G = s.heap.size ∧ gS G 150 = b ∧ mSta G s := by
  have hs : ∀ w ∈ mFl, w.before #[Value.ref b] s = true := flat_of_before _ hg
  have hm : ∀ w ∈ mTb, w.before #[Value.ref b] s = true := fun w hw => hts w (List.mem_filter.mp hw).1
  have hA : ∀ a : Nat, a < s.heap.size → ¬ (s.heap.size ≤ a) := fun a ha h => by omega
  have h0 : ∀ k : Nat, ∃ q : Nat × Nat, k < 31 → (mTm k).eval #[Value.ref b] s none [] s = some (.ref q.1) ∧ va_O "java/lang/String" q.1 (fun a => s.heap.size ≤ a) s s.heap ∧ va_OF "java/lang/String" "coder" "B" (.int 0) q.1 (fun a => s.heap.size ≤ a) s s.heap ∧ va_OF "java/lang/String" "value" "[B" (.ref q.2) q.1 (fun a => s.heap.size ≤ a) s s.heap ∧
      va_T .byte q.2 (mBy k).length (fun j => .int ((mBy k).getD j 0)) (fun a => s.heap.size ≤ a) s s.heap := fun k => by
    by_cases hk : k < 31
    · obtain ⟨q, hq⟩ := mStr_of hs (A := fun a => s.heap.size ≤ a) hA hk
      exact ⟨q, fun _ => hq⟩
    · exact ⟨(0, 0), fun h => absurd h hk⟩
  obtain ⟨ad, had⟩ := Classical.axiomOfChoice h0
  have h1 : ∀ c : Nat, ∃ q : ClassId × (Nat → Nat), c < 13 → u_Kn s (mOn.getD c "") (mT c) (mCN c) q.1 q.2 := fun c => by
    by_cases hc : c < 13
    · obtain ⟨q, hq⟩ := mCls_of hts hc
      exact ⟨q, fun _ => hq⟩
    · obtain ⟨q, -⟩ := mCls_of hts (show 0 < 13 by decide)
      exact ⟨q, fun h => absurd h hc⟩
  obtain ⟨cd, hcd⟩ := Classical.axiomOfChoice h1
  obtain ⟨ty, hty⟩ := mTys_of hts
  have hini : ∀ {C : String} (i : Nat), mOn.getD i "" = C → i ∈ ws_ini → (Cond.initialized C).before #[Value.ref b] s = true := fun i h hi => by
    rw [← h]
    exact hm _ (wm_ini hi)
  have hz1 := va_Zof (A := fun a => s.heap.size ≤ a) (hts _ (mAt_mem mLs_in.1)) (hini 14 rfl (by decide)) (va_eqi (hs _ (List.mem_of_getElem? mSt_ok.1))) hA
  have hz2 := va_Zqof (A := fun a => s.heap.size ≤ a) (hts _ (mAt_mem mLs_in.2.1)) (hini 16 rfl (by decide)) (hs _ (List.mem_of_getElem? mSt_ok.2.1)) hA
  have hti : (Cond.initialized "java/lang/Throwable").before #[Value.ref b] s = true := by
    have h2 : (Cond.initialized "java/lang/Throwable" : Cond) ∈ mXv := by decide +kernel
    exact hts _ (mXv_tbl h2)
  have hz3 := vx_Zqof (A := fun a => s.heap.size ≤ a) (hts _ (mAt_mem mLs_in.2.2.1)) hti (hs _ (List.mem_of_getElem? mSt_ok.2.2.1)) hA
  have hz4 := vx_Zqof (A := fun a => s.heap.size ≤ a) (hts _ (mAt_mem mLs_in.2.2.2)) hti (hs _ (List.mem_of_getElem? mSt_ok.2.2.2)) hA
  have hz5 : ∃ u : Value, u.category = 1 ∧ va_Z "jdk/internal/util/Preconditions" "SIOOBE_FORMATTER" "Ljava/util/function/BiFunction;" u (fun a => s.heap.size ≤ a) s s.heap := by
    rcases hz2 with h | ⟨t, h⟩
    · exact ⟨.null, rfl, h⟩
    · exact ⟨.ref t, rfl, h⟩
  obtain ⟨u, hu, hz5⟩ := hz5
  refine ⟨((fun c => (cd c).1, fun c => (cd c).2), ty, s.heap.size, (fun k => if k < 31 then (ad k).1 else if k = 150 then b else (ad (k - 64)).2), u, mAr L xs), rfl, rfl, rfl, ⟨⟨fun c q hq => ?_, hty⟩, fun w hw => ?_, fun w hw => ?_, va_AO.of (hts _ (mAt_mem mAo_in.1)), ?_, mNc_of hs, fun e he => ?_, fun e he => ?_⟩, ⟨fun k hk => ?_, hz1, hz5, hz3, hz4, ?_, hb⟩, hu, Nat.le_refl _⟩
  · have hc : c < 13 := (List.getElem?_eq_some_iff.mp hq).1
    rw [mCl_at c hc] at hq
    cases hq
    exact hcd c hc
  · refine va_Nw.of ?_ (hts _ (mXw_tbl hw))
    simp only [mXw, List.mem_cons, List.not_mem_nil, or_false] at hw
    rcases hw with rfl | rfl | rfl | rfl | rfl | rfl <;> rfl
  · have h2 := List.all_eq_true.mp mXv_ok w hw
    simp only [Bool.and_eq_true] at h2
    exact va_Nw.of h2.1 (hts _ (mXv_tbl hw))
  · exact hts _ (mAt_mem mAo_in.2)
  · have h2 := List.all_eq_true.mp mSr_ok e he
    simp only [Bool.and_eq_true, Nat.blt_eq, Nat.beq_eq] at h2
    obtain ⟨⟨e1, e2⟩, e3⟩ := h2
    have h3 := List.all_eq_true.mp mSp_ok e.2.2 (List.mem_range.mpr e1)
    simp only [decide_eq_true_eq] at h3
    rw [← e2, ← e3]
    show vk_R _ _ _ (if e.2.2 < 31 then _ else _) s
    rw [if_pos e1]
    exact vk_R.of (hts _ (mAt_mem h3)) (had e.2.2 e1).1
  · obtain ⟨k, hk⟩ := List.getElem?_of_mem he
    have hk11 : k < 11 := (List.getElem?_eq_some_iff.mp hk).1
    have hgd : mTx.getD k (0, "") = e := by rw [List.getD_eq_getElem?_getD, hk]; rfl
    have h2 := List.all_eq_true.mp mTr_ok k (List.mem_range.mpr hk11)
    simp only [Bool.and_eq_true, decide_eq_true_eq, Nat.beq_eq] at h2
    rw [hgd] at h2
    have hp : mTp.getD k (0, 0) ∈ mTp := by
      have hl : k < mTp.length := hk11
      rw [List.getD_eq_getElem?_getD, List.getElem?_eq_getElem hl]
      exact List.getElem_mem hl
    have h3 := List.all_eq_true.mp mTp_ok _ hp
    simp only [decide_eq_true_eq] at h3
    rw [h2.2] at h3
    obtain ⟨a, c, cA, kA, q1, -⟩ := Cond.exactly_spec (args := #[Value.ref b]) (first := s) (o := none) (s := s) (idx := []) (hs _ (List.mem_of_getElem? h3))
    exact ⟨a, vk_R.of (hts _ (mAt_mem h2.1)) q1⟩
  · obtain ⟨-, a1, a2, a3, a4⟩ := had k hk
    unfold mStO
    have e1 : (if k < 31 then (ad k).1 else if k = 150 then b else (ad (k - 64)).2) = (ad k).1 := if_pos hk
    have e2 : (if 64 + k < 31 then (ad (64 + k)).1 else if 64 + k = 150 then b else (ad (64 + k - 64)).2) = (ad k).2 := by
      rw [if_neg (by omega), if_neg (by omega), show 64 + k - 64 = k by omega]
    have e3 : mAr L xs (64 + k) = ((mBy k).length, fun j => (mBy k).getD j 0) := by
      unfold mAr
      rw [if_neg (by omega), show 64 + k - 64 = k by omega]
    refine ⟨?_, ?_, ?_, ?_⟩
    · show va_O "java/lang/String" (if k < 31 then (ad k).1 else if k = 150 then b else (ad (k - 64)).2) _ s s.heap
      rw [e1]; exact a1
    · show va_OF "java/lang/String" "coder" "B" (.int 0) (if k < 31 then (ad k).1 else if k = 150 then b else (ad (k - 64)).2) _ s s.heap
      rw [e1]; exact a2
    · show va_OF "java/lang/String" "value" "[B" (.ref (if 64 + k < 31 then (ad (64 + k)).1 else if 64 + k = 150 then b else (ad (64 + k - 64)).2)) (if k < 31 then (ad k).1 else if k = 150 then b else (ad (k - 64)).2) _ s s.heap
      rw [e1, e2]; exact a3
    · show va_T .byte (if 64 + k < 31 then (ad (64 + k)).1 else if 64 + k = 150 then b else (ad (64 + k - 64)).2) (mAr L xs (64 + k)).1 (fun j => .int ((mAr L xs (64 + k)).2 j)) _ s s.heap
      rw [e2, e3]; exact a4
  · exact hX
end START
