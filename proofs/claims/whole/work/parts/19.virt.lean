/-! THE SMALL MACHINE IS THE MACHINE, 9: calls on a receiver, and the whole -/
section CALLS2
variable {p : Program} {l0 : Launch} {e : Env} {R : Room} {s : State} {m : MethodId} {args : Array Value} {below : List Frame} {meth : Method} {c : Code} {H : Heap} {locs : List Loc} {cells slots : Nat} {Q : State → Prop}
variable {G : mG} {n d M M' k c0 s0 pc : Nat} {ls : Array Slot} {l st : List Value} {w w1 : mW} {E1 : mEnd}
theorem mC_dyn {idx q : Nat} (hC : mCx l0 R s cells slots G n d M' k c0 s0 st w w1 E1) (hF : mFr G M p s m args meth c) (hd : decode (mB M) pc = .ok (.invokevirtual idx, 3)) (hm : (mOw M, idx, M') ∈ mTL) (hk : k = mNa M') (hrc : st[mNa M' - 1]? = some (.retAddr q)) (hq : q < 31) (hI : mInv G s c0 s0 w H locs cells slots) (hl : mLR G ls l) (hll : l.length = mLn M)
    (kr : mKr p l0 e R s m args below meth c Q G c0 s0 pc k ls st w1 E1) (kx : mKx p l0 e R s m args below meth c Q G c0 s0 pc k ls st w1 E1) : W p l0 e R s m args below meth c H locs cells slots Q (F0 m pc ls (st.map (mRv G))) := by
  obtain ⟨IH, htr, hok, hgo, hcap, hR⟩ := hC
  have hts := hF.2.2.2.2.1
  have hSta := hF.2.2.2.2.2.2.2.2.2
  have hc := List.all_eq_true.mp mTL_c _ hm
  simp only [Bool.and_eq_true, Nat.blt_eq, Bool.not_eq_true', beq_eq_false_iff_ne, decide_eq_true_eq] at hc
  obtain ⟨⟨⟨⟨⟨⟨c1, c2⟩, c3⟩, c4⟩, c6⟩, c7⟩, c8⟩ := hc
  obtain ⟨f1, f2, f3, f4, f5, f6, f7, f8, f9, f10⟩ := mM_ok c1 c2
  have f8 : (parseMethodDescriptor (mY M').desc).map (fun d => d.parameters.length) = some (mNa M' - 1) := by rw [f8, if_neg (by rw [c4]; decide)]
  have f9 : 1 ≤ mNa M' := by
    rcases f9 with f9 | f9
    · rw [List.contains_iff_mem.mpr f9] at c4; cases c4
    · exact f9.2.2
  obtain ⟨o1, o2, o3, o4⟩ := mOk_ok hok
  have hin : (.instanceMethod (mY M') : Cond) ∈ mTb := wm_in (List.contains_iff_mem.mp c3)
  have hsel : (.selects "java/lang/String" (mY M') (mY M') : Cond) ∈ mTb := wm_ss (List.contains_iff_mem.mp c8)
  obtain ⟨mo1, mo2⟩ := mGo_mono hgo
  have h4 := hI.2.2.2.1
  have h5 := hI.2.2.2.2.1
  have hpl : M' ∈ ws_c ∧ mHt M' = [] := ⟨List.contains_iff_mem.mp c6, c7⟩
  refine mSz hI hSta.2.2.2 (fun hz => ?_)
  obtain ⟨j, hj⟩ : ∃ j, k = j + 1 := ⟨k - 1, by omega⟩
  have hrc : st[j]? = some (.retAddr q) := by rw [show j = mNa M' - 1 by omega]; exact hrc
  have hrq : mRv G (.retAddr q) = .ref (gS G q) := if_pos (by omega)
  have hargs : (mArgs k st).map (mRv G) = .ref (gS G q) :: (mArgs j st).map (mRv G) := by rw [hj, mArgs_recv hrc, ← hrq]; rfl
  have hstk : st.map (mRv G) = ((mArgs j st).map (mRv G)).reverse ++ .ref (gS G q) :: (st.drop k).map (mRv G) := by
    rw [mStk (k := j) (mRv G), mDrop_recv hrc, hj, ← hrq]
    rfl
  rw [hstk]
  have hlen : ((mArgs j st).map (mRv G)).length = mNa M' - 1 := by
    have := congrArg List.length hargs
    rw [List.length_map, o4, List.length_cons] at this
    omega
  have hrecv : ∃ cellB : Cell, H[gS G q]? = some cellB ∧ cellB.vm.isStatics = false ∧ s.vm.findClass "java/lang/String" = some cellB.cls := by
    obtain ⟨cell, a1, a2, a3, a4⟩ := (hSta.2.1.1 q hq).1
    have hlt : gS G q < s.heap.size := (Array.getElem?_eq_some_iff.mp a1).1
    exact ⟨cell, by rw [hI.2.2.1.2.1 _ hlt a4]; exact a1, a2, a3⟩
  have hPre : PreV s H "java/lang/String" (gS G q) (mPc G (mArgs k st) w) ((mArgs j st).map (mRv G)) := ⟨mPc_blind, hrecv, fun U hU hW => by rw [← hargs]; exact mPc_of hW hU hSta hI hz.2⟩
  have hrm := mRm_ok (mc := mNc w1 - mNc w) (ms := mNs w1 - mNs w) f6 hR
  have hsz : ls.size = mLn M := hl.1.trans hll
  have hroom : 2 * (F0 m pc ls (((mArgs j st).map (mRv G)).reverse ++ .ref (gS G q) :: (st.drop k).map (mRv G))).monitorRoom + (((st.drop k).map (mRv G)).map fun v => v.category).sum ≤ 8 := lv_room (by rw [mRv_sum hSta.2.2.1]; exact o3)
  refine mCallX (vx_runV (C := "java/lang/String") (As := (mArgs j st).map (mRv G)) (rest := (st.drop k).map (mRv G)) (Ts := mTb) ⟨hF.1, hF.2.1, hF.2.2.1, hF.2.2.2.1, hts⟩ (mMetX IH htr c1 c2 hpl hgo o2 (by rw [o4, hk]; exact f7)) ⟨callB_of (mNa M' - 1) hts (mGood_c hpl.1) rfl rfl rfl (hts _ f5) (hts _ (wm_t hm)) ⟨f3, f4, f8⟩ hrm, hts _ hin, hts _ hsel⟩ hPre rfl hlen hsz rfl hroom hd ⟨by omega, by omega⟩) hI.2.2.1 (fun v hE H1 locs1 hP1 hS1 => ?_) (fun x hE H1 locs1 q ce hP1 hS1 a1 a2 a3 => ?_)
  · rw [mOptMap]
    exact kr v hE H1 locs1 _ _ (hI.back hgo hP1 hS1)
  · exact kx x hE H1 locs1 _ _ q ce (hI.back hgo hP1 hS1) a1 a2 a3
theorem mC_virt {idx v a ci : Nat} {fs : List Value} (hC : mCx l0 R s cells slots G n d M' k c0 s0 st w w1 E1) (hF : mFr G M p s m args meth c) (hd : decode (mB M) pc = .ok (.invokevirtual idx, 3)) (hm : (mOw M, idx, v) ∈ mVL) (hk : k = mNa M') (hrc : st[mNa M' - 1]? = some (.ref a)) (ha : w.1 a = .inr (ci, fs)) (hv : mV v ci = some M') (hE1 : (∃ z, E1 = .inl z) ∨ mDu.contains v = false) (hI : mInv G s c0 s0 w H locs cells slots) (hl : mLR G ls l) (hll : l.length = mLn M)
    (kr : mKr p l0 e R s m args below meth c Q G c0 s0 pc k ls st w1 E1) (kx : mKx p l0 e R s m args below meth c Q G c0 s0 pc k ls st w1 E1) : W p l0 e R s m args below meth c H locs cells slots Q (F0 m pc ls (st.map (mRv G))) := by
  obtain ⟨IH, htr, hok, hgo, hcap, hR⟩ := hC
  have hts := hF.2.2.2.2.1
  have hSta := hF.2.2.2.2.2.2.2.2.2
  obtain ⟨c1, c2, i1, i2, c3, c4, hpl, hdesc, hkind⟩ := mV_ok hv
  obtain ⟨f1, f2, f3, f4, f5, f6, f7, f8, f9, f10⟩ := mM_ok c1 c2
  have f8 : (parseMethodDescriptor (mY M').desc).map (fun d => d.parameters.length) = some (mNa M' - 1) := by rw [f8, if_neg (by rw [c4]; decide)]
  have f9 : 1 ≤ mNa M' := by
    rcases f9 with f9 | f9
    · rw [List.contains_iff_mem.mpr f9] at c4; cases c4
    · exact f9.2.2
  obtain ⟨o1, o2, o3, o4⟩ := mOk_ok hok
  have hin : (.instanceMethod (mY M') : Cond) ∈ mTb := wm_in c3
  obtain ⟨mo1, mo2⟩ := mGo_mono hgo
  have h4 := hI.2.2.2.1
  have h5 := hI.2.2.2.2.1
  refine mSz hI hSta.2.2.2 (fun hz => ?_)
  obtain ⟨j, hj⟩ : ∃ j, k = j + 1 := ⟨k - 1, by omega⟩
  have hrc : st[j]? = some (.ref a) := by rw [show j = mNa M' - 1 by omega]; exact hrc
  have hargs : (mArgs k st).map (mRv G) = .ref (gB G + a) :: (mArgs j st).map (mRv G) := by rw [hj, mArgs_recv hrc]; rfl
  have hstk : st.map (mRv G) = ((mArgs j st).map (mRv G)).reverse ++ .ref (gB G + a) :: (st.drop k).map (mRv G) := by
    rw [mStk (k := j) (mRv G), mDrop_recv hrc, hj]
    rfl
  rw [hstk]
  have hlen : ((mArgs j st).map (mRv G)).length = mNa M' - 1 := by
    have := congrArg List.length hargs
    rw [List.length_map, o4, List.length_cons] at this
    omega
  have hal : a < w.2.1 := hI.2.1.obj ha (by omega)
  have he : (mWl G w)[a]? = some (gB G + a, .inr (ci, fs.map (mRv G))) := by rw [mWl_at hal, ha]; rfl
  have hrecv := va_recv (D := gD G) (cl := mCl) hSta.1.1 hI.1 (mCl_at ci i1) he
  have hPre : PreV s H (mOn.getD ci "") (gB G + a) (mPc G (mArgs k st) w) ((mArgs j st).map (mRv G)) := ⟨mPc_blind, hrecv, fun U hU hW => by rw [← hargs]; exact mPc_of hW hU hSta hI hz.2⟩
  have hrm := mRm_ok (mc := mNc w1 - mNc w) (ms := mNs w1 - mNs w) f6 hR
  have hsz : ls.size = mLn M := hl.1.trans hll
  have hroom : 2 * (F0 m pc ls (((mArgs j st).map (mRv G)).reverse ++ .ref (gB G + a) :: (st.drop k).map (mRv G))).monitorRoom + (((st.drop k).map (mRv G)).map fun v => v.category).sum ≤ 8 := lv_room (by rw [mRv_sum hSta.2.2.1]; exact o3)
  rcases hkind with ⟨k1, k2, k3⟩ | ⟨k1, k2, k3, k4⟩
  · have hlink : (.methodLink (mOn.getD (mOw M) "") idx (mY M') : Cond) ∈ mTb := by rw [← k1]; exact wm_v hm
    have hsel : (.selects (mOn.getD ci "") (mY M') (mY M') : Cond) ∈ mTb := wm_dp k3
    refine mCallX (vx_runV (C := mOn.getD ci "") (As := (mArgs j st).map (mRv G)) (rest := (st.drop k).map (mRv G)) (Ts := mTb) ⟨hF.1, hF.2.1, hF.2.2.1, hF.2.2.2.1, hts⟩ (mMetX IH htr c1 c2 hpl hgo o2 (by rw [o4, hk]; exact f7)) ⟨callB_of (mNa M' - 1) hts (mGood_c hpl.1) rfl rfl rfl (hts _ f5) (hts _ hlink) ⟨f3, f4, f8⟩ hrm, hts _ hin, hts _ hsel⟩ hPre rfl hlen hsz rfl hroom hd ⟨by omega, by omega⟩) hI.2.2.1 (fun v hE H1 locs1 hP1 hS1 => ?_) (fun x hE H1 locs1 q ce hP1 hS1 a1 a2 a3 => ?_)
    · rw [mOptMap]
      exact kr v hE H1 locs1 _ _ (hI.back hgo hP1 hS1)
    · exact kx x hE H1 locs1 _ _ q ce (hI.back hgo hP1 hS1) a1 a2 a3
  · rcases hE1 with ⟨z, rfl⟩ | hE1
    · have hsel : (.selects (mOn.getD ci "") (mX v) (mY M') : Cond) ∈ mTb := wm_du k2
      have hsm : (.sameMethod (mX v).cls "MeanMan$Lines" (mX v).name (mX v).desc : Cond) ∈ mTb := wm_dm k3
      have hG : GoodIn mTb (va_wsU (mOn.getD (mOw M) "") idx (mOn.getD ci "") "MeanMan$Lines" (mX v) (mY M') (.code (mY M') (mB M') (mLn M') (mRt M') :: mTb)) := by
        intro w hw
        unfold va_wsU at hw
        rcases List.mem_append.mp hw with hw | hw
        · simp only [List.mem_cons, List.not_mem_nil, or_false] at hw
          rcases hw with rfl | rfl | rfl | rfl | rfl
          · exact ⟨wm_v hm, good_of_word rfl⟩
          · exact ⟨hsm, good_of_word rfl⟩
          · exact ⟨hsel, good_of_word rfl⟩
          · exact ⟨hin, good_of_word rfl⟩
          · exact ⟨f5, good_of_word rfl⟩
        · exact mGood_c hpl.1 w hw
      have hdd : "MeanMan$Lines" ≠ "java/lang/invoke/MethodHandle" ∧ "MeanMan$Lines" ≠ "java/lang/invoke/VarHandle" ∧ (parseMethodDescriptor (mX v).desc).map (fun d => d.parameters.length) = some (mNa M' - 1) := ⟨by decide, by decide, by rw [hdesc]; exact f8⟩
      have hcw : va_CU R s args (mOn.getD (mOw M) "") (mOn.getD ci "") "MeanMan$Lines" idx (mX v) (mY M') (mB M') (mLn M') (mRt M') (.code (mY M') (mB M') (mLn M') (mRt M') :: mTb) (mRm d (mNc w1 - mNc w) (mNs w1 - mNs w)) (mNc w1 - mNc w) (mNs w1 - mNs w) (mNa M' - 1) := by
        rcases k4 with k4 | k4
        · exact va_cwU (mNa M' - 1) hts hG rfl rfl rfl k4 hdd hrm
        · exact va_cwA (mNa M' - 1) hts hG rfl rfl rfl (by rw [k4]; exact hSta.1.2.2.1 _ List.mem_cons_self) hdd hrm
      refine mCallM (va_runU (C := mOn.getD ci "") (As := (mArgs j st).map (mRv G)) (rest := (st.drop k).map (mRv G)) (Ts := mTb) ⟨hF.1, hF.2.1, hF.2.2.1, hF.2.2.2.1, hts⟩ (mMet IH htr c1 c2 hpl hgo o2 (by rw [o4, hk]; exact f7)) hcw hPre rfl hlen hsz rfl hroom hd ⟨by omega, by omega⟩) hI.2.2.1 (fun H1 locs1 hP1 hS1 => ?_)
      rw [mOptMap]
      exact kr z rfl H1 locs1 _ _ (hI.back hgo hP1 hS1)
    · rw [k1] at hE1; cases hE1
end CALLS2
