/-! THE SMALL MACHINE IS THE MACHINE, 8: every kind of call -/
theorem mSL_c : (mSL.all fun e => !(e.2.2 == 0) && Nat.blt e.2.2 346 && ws_st.contains e.2.2) = true := by decide +kernel
theorem mIL_c : ((mIL ++ mNL).all fun e => !(e.2.2 == 0) && Nat.blt e.2.2 346 && ws_in.contains e.2.2 && !ws_st.contains e.2.2 && decide ((mY e.2.2).name = "<init>") && ws_c.contains e.2.2 && decide (mHt e.2.2 = []) && decide (mRt e.2.2 = none)) = true := by decide +kernel
theorem mNL_c : (mNL.all fun e => decide ((.methodLinkNest (mOn.getD e.1 "") e.2.1 (mY e.2.2) "MeanMan" : Cond) ∈ mXw)) = true := by decide +kernel
theorem mTL_c : (mTL.all fun e => !(e.2.2 == 0) && Nat.blt e.2.2 346 && ws_in.contains e.2.2 && !ws_st.contains e.2.2 && ws_c.contains e.2.2 && decide (mHt e.2.2 = []) && ws_ss.contains e.2.2) = true := by decide +kernel
def mVck (v : Nat) : Bool := (mVt.getD v []).all fun e => !(e.2 == 0) && Nat.blt e.2 346 && Nat.blt e.1 13 && !(e.1 == 6) && ws_in.contains e.2 && !ws_st.contains e.2 && ws_c.contains e.2 && decide (mHt e.2 = []) && decide ((mX v).desc = (mY e.2).desc) &&
  ((decide (mX v = mY e.2) && decide ((mY e.2).cls = mOn.getD e.1 "") && ws_dp.contains (v, e.1, e.2)) || (mDu.contains v && ws_du.contains (v, e.1, e.2) && ws_dm.contains (v, e.1, e.2) && (decide (mY e.2 = ⟨"MeanMan$Lines", (mX v).name, (mX v).desc⟩) || decide (mX v = ⟨"MeanMan$Lines", "readLine", "()Z"⟩))))
theorem mVck_all : ((List.range 273).all mVck) = true := by decide +kernel
theorem mAs_mem {k b : Nat} : ∀ {t : List (Nat × Nat)}, mAs k t = some b → (k, b) ∈ t
  | [], h => by cases h
  | (x, y) :: r, h => by
    unfold mAs at h
    by_cases hc : x = k
    · rw [if_pos hc] at h
      subst hc
      cases h
      exact List.mem_cons_self
    · rw [if_neg hc] at h
      exact List.mem_cons_of_mem _ (mAs_mem h)
theorem mV_ok {v ci a : Nat} (h : mV v ci = some a) : a ≠ 0 ∧ a < 346 ∧ ci < 13 ∧ ci ≠ 6 ∧ a ∈ ws_in ∧ ws_st.contains a = false ∧ (a ∈ ws_c ∧ mHt a = []) ∧ (mX v).desc = (mY a).desc ∧
    ((mX v = mY a ∧ (mY a).cls = mOn.getD ci "" ∧ (v, ci, a) ∈ ws_dp) ∨ (mDu.contains v = true ∧ (v, ci, a) ∈ ws_du ∧ (v, ci, a) ∈ ws_dm ∧ (mY a = ⟨"MeanMan$Lines", (mX v).name, (mX v).desc⟩ ∨ mX v = ⟨"MeanMan$Lines", "readLine", "()Z"⟩))) := by
  have hm := mAs_mem h
  have hv : v < 273 := by
    rcases Nat.lt_or_ge v 273 with q | q
    · exact q
    · have hl : mVt.length = 273 := by decide +kernel
      rw [List.getD_eq_getElem?_getD, List.getElem?_eq_none (by omega)] at hm
      cases hm
  have h1 := List.all_eq_true.mp (List.all_eq_true.mp mVck_all v (List.mem_range.mpr hv)) _ hm
  simp only [Bool.and_eq_true, Bool.or_eq_true, decide_eq_true_eq, Nat.blt_eq, Bool.not_eq_true', beq_eq_false_iff_ne] at h1
  obtain ⟨⟨⟨⟨⟨⟨⟨⟨⟨a1, a2⟩, a3⟩, a4⟩, a5⟩, a6⟩, a7⟩, a8⟩, a9⟩, a10⟩ := h1
  refine ⟨a1, a2, a3, a4, List.contains_iff_mem.mp a5, a6, ⟨List.contains_iff_mem.mp a7, a8⟩, a9, ?_⟩
  rcases a10 with ⟨⟨b1, b2⟩, b3⟩ | ⟨⟨⟨b1, b2⟩, b3⟩, b4⟩
  · exact Or.inl ⟨b1, b2, List.contains_iff_mem.mp b3⟩
  · exact Or.inr ⟨b1, List.contains_iff_mem.mp b2, List.contains_iff_mem.mp b3, b4⟩
theorem mRm_ok {R : Room} {d mc ms n : Nat} (hn : n ≤ 45) (h : d + 1 + 12 ≤ R.frames ∧ 64 * (d + 1) + 256 ≤ R.locals) : (mRm d mc ms).frames + 1 ≤ R.frames ∧ 8 + (n + 11) + (mRm d mc ms).locals ≤ R.locals := by
  obtain ⟨h1, h2⟩ := h
  refine ⟨?_, ?_⟩
  · show d + 12 + 1 ≤ R.frames
    have e : d + 12 + 1 = d + 1 + 12 := by omega
    rw [e]; exact h1
  · show 8 + (n + 11) + (64 * d + 256) ≤ R.locals
    refine Nat.le_trans ?_ h2
    rw [Nat.mul_succ 64 d]
    clear h1 h2
    generalize 64 * d = q
    have e : 8 + (n + 11) + (q + 256) = (n + 19) + (q + 256) := congrArg (fun z => z + (q + 256)) ((Nat.add_comm 8 (n + 11)).trans (Nat.add_assoc n 11 8))
    have e2 : q + 64 + 256 = 64 + (q + 256) := by rw [Nat.add_comm q 64, Nat.add_assoc]
    rw [e, e2]
    exact Nat.add_le_add_right (Nat.le_trans (Nat.add_le_add_right hn 19) (Nat.le_refl 64)) _
section CALLS
variable {p : Program} {l0 : Launch} {e : Env} {R : Room} {s : State} {m : MethodId} {args : Array Value} {below : List Frame} {meth : Method} {c : Code} {H : Heap} {locs : List Loc} {cells slots : Nat} {Q : State → Prop}
variable {G : mG} {n d M M' k c0 s0 pc : Nat} {ls : Array Slot} {l st : List Value} {w w1 : mW} {E1 : mEnd}
/-- what every call brings with it -/
abbrev mCx (l0 : Launch) (R : Room) (s : State) (cells slots : Nat) (G : mG) (n d M' k c0 s0 : Nat) (st : List Value) (w w1 : mW) (E1 : mEnd) : Prop :=
  mSound n ∧ l0.stackTraces = false ∧ mOk k st = true ∧ mGo (gA G) n d M' 0 (mLoc M' (mArgs k st)) [] w = some (E1, w1) ∧ (mNc w1 ≤ c0 + R.cells ∧ mNs w1 ≤ s0 + R.slots) ∧ (d + 1 + 12 ≤ R.frames ∧ 64 * (d + 1) + 256 ≤ R.locals)
/-- where a call comes back to -/
abbrev mKr (p : Program) (l0 : Launch) (e : Env) (R : Room) (s : State) (m : MethodId) (args : Array Value) (below : List Frame) (meth : Method) (c : Code) (Q : State → Prop) (G : mG) (c0 s0 pc k : Nat) (ls : Array Slot) (st : List Value) (w1 : mW) (E1 : mEnd) : Prop :=
  ∀ v, E1 = .inl v → ∀ (H1 : Heap) (locs1 : List Loc) (cells1 slots1 : Nat), mInv G s c0 s0 w1 H1 locs1 cells1 slots1 → W p l0 e R s m args below meth c H1 locs1 cells1 slots1 Q (F0 m (pc + 3) ls ((v.toList ++ st.drop k).map (mRv G)))
abbrev mKx (p : Program) (l0 : Launch) (e : Env) (R : Room) (s : State) (m : MethodId) (args : Array Value) (below : List Frame) (meth : Method) (c : Code) (Q : State → Prop) (G : mG) (c0 s0 pc k : Nat) (ls : Array Slot) (st : List Value) (w1 : mW) (E1 : mEnd) : Prop :=
  ∀ x, E1 = .inr x → ∀ (H1 : Heap) (locs1 : List Loc) (cells1 slots1 : Nat) (q : Addr) (ce : Cell), mInv G s c0 s0 w1 H1 locs1 cells1 slots1 → H1[q]? = some ce → ce.vm = .none → s.vm.findClass (mExn.getD x "") = some ce.cls → vx_W p l0 e R s m args below meth c H1 locs1 cells1 slots1 Q (F0 m pc ls ((st.drop k).map (mRv G))) q
theorem mInv.back {H1 : Heap} {locs1 : List Loc} (hI : mInv G s c0 s0 w H locs cells slots) (hgo : mGo (gA G) n d M' 0 (mLoc M' (mArgs k st)) [] w = some (E1, w1)) (hP : va_P (gD G) mCl (mWl G w1) H1) (hS : va_S (gF G) s.heap H1 locs1) : mInv G s c0 s0 w1 H1 locs1 (cells + (mNc w1 - mNc w)) (slots + (mNs w1 - mNs w)) := by
  obtain ⟨mo1, mo2⟩ := mGo_mono hgo
  obtain ⟨h1, h2, h3, h4, h5, h6⟩ := hI
  obtain ⟨d1, d2⟩ := mGo_def hgo h2
  exact ⟨hP, d1, hS, by omega, by omega, fun h => h6 (by omega)⟩
theorem mOptMap (v : Option Value) (f : Value → Value) (r : List Value) : (v.map f).toList ++ r.map f = (v.toList ++ r).map f := by
  cases v <;> rfl
theorem mC_static {idx : Nat} (hC : mCx l0 R s cells slots G n d M' k c0 s0 st w w1 E1) (hF : mFr G M p s m args meth c) (hd : decode (mB M) pc = .ok (.invokestatic idx, 3)) (hm : (mOw M, idx, M') ∈ mSL) (hk : k = mNa M') (hI : mInv G s c0 s0 w H locs cells slots) (hl : mLR G ls l) (hll : l.length = mLn M)
    (kr : mKr p l0 e R s m args below meth c Q G c0 s0 pc k ls st w1 E1) (kx : mKx p l0 e R s m args below meth c Q G c0 s0 pc k ls st w1 E1) : W p l0 e R s m args below meth c H locs cells slots Q (F0 m pc ls (st.map (mRv G))) := by
  obtain ⟨IH, htr, hok, hgo, hcap, hR⟩ := hC
  have hts := hF.2.2.2.2.1
  have hSta := hF.2.2.2.2.2.2.2.2.2
  have hc := List.all_eq_true.mp mSL_c _ hm
  simp only [Bool.and_eq_true, Nat.blt_eq, Bool.not_eq_true', beq_eq_false_iff_ne] at hc
  obtain ⟨⟨c1, c2⟩, c3⟩ := hc
  obtain ⟨f1, f2, f3, f4, f5, f6, f7, f8, f9, f10⟩ := mM_ok c1 c2
  have f8 : (parseMethodDescriptor (mY M').desc).map (fun d => d.parameters.length) = some (mNa M') := by rw [f8, if_pos c3]
  obtain ⟨o1, o2, o3, o4⟩ := mOk_ok hok
  have hst : (.static (mY M') : Cond) ∈ mTb := wm_st (List.contains_iff_mem.mp c3)
  obtain ⟨mo1, mo2⟩ := mGo_mono hgo
  have h4 := hI.2.2.2.1
  have h5 := hI.2.2.2.2.1
  refine mSz hI hSta.2.2.2 (fun hz => ?_)
  rw [mStk (k := k) (mRv G)]
  have hlen : ((mArgs k st).map (mRv G)).length = mNa M' := by rw [List.length_map, o4, hk]
  have hPre : PreS s H (mPc G (mArgs k st) w) ((mArgs k st).map (mRv G)) := ⟨mPc_blind, fun U hU hW => mPc_of hW hU hSta hI hz.2⟩
  have hrm : (mRm d (mNc w1 - mNc w) (mNs w1 - mNs w)).frames + 1 ≤ R.frames ∧ 8 + (mLn M' + 11) + (mRm d (mNc w1 - mNc w) (mNs w1 - mNs w)).locals ≤ R.locals := mRm_ok f6 hR
  have hsz : ls.size = mLn M := hl.1.trans hll
  have hroom : 2 * (F0 m pc ls (((mArgs k st).map (mRv G)).reverse ++ (st.drop k).map (mRv G))).monitorRoom + (((st.drop k).map (mRv G)).map fun v => v.category).sum ≤ 8 := lv_room (by rw [mRv_sum hSta.2.2.1]; exact o3)
  rcases f10 with f10 | f10
  · refine mCallX (vx_runS (As := (mArgs k st).map (mRv G)) (rest := (st.drop k).map (mRv G)) (Ts := mTb) ⟨hF.1, hF.2.1, hF.2.2.1, hF.2.2.2.1, hts⟩ (mMetX IH htr c1 c2 f10 hgo o2 (by rw [o4, hk]; exact f7)) ⟨callB_of (mNa M') hts (mGood_c f10.1) rfl rfl rfl (hts _ f5) (hts _ (wm_s hm)) ⟨f3, f4, f8⟩ hrm, hts _ hst⟩ hPre rfl hlen hsz rfl hroom hd ⟨by omega, by omega⟩) hI.2.2.1 (fun v hE H1 locs1 hP1 hS1 => ?_) (fun x hE H1 locs1 q ce hP1 hS1 a1 a2 a3 => ?_)
    · rw [mOptMap]
      exact kr v hE H1 locs1 _ _ (hI.back hgo hP1 hS1)
    · exact kx x hE H1 locs1 _ _ q ce (hI.back hgo hP1 hS1) a1 a2 a3
  · refine mCallX (vx_runSX (hh := mHt M') (As := (mArgs k st).map (mRv G)) (rest := (st.drop k).map (mRv G)) (Ts := mTb) ⟨hF.1, hF.2.1, hF.2.2.1, hF.2.2.2.1, hts⟩ (mMetH IH htr c1 c2 f10 hgo o2 (by rw [o4, hk]; exact f7)) (vx_cwSW (mNa M') hts (fun w hw => ?_) rfl rfl rfl ⟨f3, f4, f8⟩ hrm) hPre rfl hlen hsz rfl hroom hd ⟨by omega, by omega⟩) hI.2.2.1 (fun v hE H1 locs1 hP1 hS1 => ?_) (fun x hE H1 locs1 q ce hP1 hS1 a1 a2 a3 => ?_)
    · unfold va_wsS at hw
      rcases List.mem_append.mp hw with hw | hw
      · simp only [List.mem_cons, List.not_mem_nil, or_false] at hw
        rcases hw with rfl | rfl | rfl
        · exact ⟨wm_s hm, good_of_word rfl⟩
        · exact ⟨hst, good_of_word rfl⟩
        · exact ⟨f5, good_of_word rfl⟩
      · exact mGood_h f10 w hw
    · rw [mOptMap]
      exact kr v hE H1 locs1 _ _ (hI.back hgo hP1 hS1)
    · exact kx x hE H1 locs1 _ _ q ce (hI.back hgo hP1 hS1) a1 a2 a3
theorem mC_special {idx a : Nat} {v : Option Value} (hC : mCx l0 R s cells slots G n d M' k c0 s0 st w w1 (.inl v)) (hF : mFr G M p s m args meth c) (hd : decode (mB M) pc = .ok (.invokespecial idx, 3)) (hm : (mOw M, idx, M') ∈ mIL ∨ (mOw M, idx, M') ∈ mNL) (hk : k = mNa M') (hrc : st[mNa M' - 1]? = some (.ref a)) (hI : mInv G s c0 s0 w H locs cells slots) (hl : mLR G ls l) (hll : l.length = mLn M)
    (kr : mKr p l0 e R s m args below meth c Q G c0 s0 pc k ls st w1 (.inl v)) : W p l0 e R s m args below meth c H locs cells slots Q (F0 m pc ls (st.map (mRv G))) := by
  obtain ⟨IH, htr, hok, hgo, hcap, hR⟩ := hC
  have hts := hF.2.2.2.2.1
  have hSta := hF.2.2.2.2.2.2.2.2.2
  have hc := List.all_eq_true.mp mIL_c (mOw M, idx, M') (List.mem_append.mpr hm)
  simp only [Bool.and_eq_true, Nat.blt_eq, Bool.not_eq_true', beq_eq_false_iff_ne, decide_eq_true_eq] at hc
  obtain ⟨⟨⟨⟨⟨⟨⟨c1, c2⟩, c3⟩, c4⟩, c5⟩, c6⟩, c7⟩, c8⟩ := hc
  obtain ⟨f1, f2, f3, f4, f5, f6, f7, f8, f9, f10⟩ := mM_ok c1 c2
  have f8 : (parseMethodDescriptor (mY M').desc).map (fun d => d.parameters.length) = some (mNa M' - 1) := by rw [f8, if_neg (by rw [c4]; decide)]
  have f9 : 1 ≤ mNa M' := by
    rcases f9 with f9 | f9
    · rw [List.contains_iff_mem.mpr f9] at c4; cases c4
    · exact f9.2.2
  obtain ⟨o1, o2, o3, o4⟩ := mOk_ok hok
  have hin : (.instanceMethod (mY M') : Cond) ∈ mTb := wm_in (List.contains_iff_mem.mp c3)
  obtain ⟨mo1, mo2⟩ := mGo_mono hgo
  have h4 := hI.2.2.2.1
  have h5 := hI.2.2.2.2.1
  have hpl : M' ∈ ws_c ∧ mHt M' = [] := ⟨List.contains_iff_mem.mp c6, c7⟩
  refine mSz hI hSta.2.2.2 (fun hz => ?_)
  obtain ⟨j, hj⟩ : ∃ j, k = j + 1 := ⟨k - 1, by omega⟩
  have hrc : st[j]? = some (.ref a) := by rw [show j = mNa M' - 1 by omega]; exact hrc
  have hargs : (mArgs k st).map (mRv G) = .ref (gB G + a) :: (mArgs j st).map (mRv G) := by rw [hj, mArgs_recv hrc]; rfl
  have hstk : st.map (mRv G) = ((mArgs j st).map (mRv G)).reverse ++ .ref (gB G + a) :: (st.drop k).map (mRv G) := by
    rw [mStk (k := j) (mRv G), mDrop_recv hrc, hj]
    rfl
  rw [hstk]
  have hlen : ((mArgs j st).map (mRv G)).length = mNa M' - 1 := by
    have := congrArg List.length hargs
    rw [List.length_map, o4, List.length_cons] at this
    omega
  have hPre : PreS s H (mPc G (mArgs k st) w) (.ref (gB G + a) :: (mArgs j st).map (mRv G)) := ⟨mPc_blind, fun U hU hW => by rw [← hargs]; exact mPc_of hW hU hSta hI hz.2⟩
  have hrm : (mRm d (mNc w1 - mNc w) (mNs w1 - mNs w)).frames + 1 ≤ R.frames ∧ 8 + (mLn M' + 11) + (mRm d (mNc w1 - mNc w) (mNs w1 - mNs w)).locals ≤ R.locals := mRm_ok f6 hR
  have hsz : ls.size = mLn M := hl.1.trans hll
  have hroom : 2 * (F0 m pc ls (((mArgs j st).map (mRv G)).reverse ++ .ref (gB G + a) :: (st.drop k).map (mRv G))).monitorRoom + (((st.drop k).map (mRv G)).map fun v => v.category).sum ≤ 8 := lv_room (by rw [mRv_sum hSta.2.2.1]; exact o3)
  have hM := mMet IH htr c1 c2 hpl hgo o2 (by rw [o4, hk]; exact f7)
  rw [c8] at hM
  have hG := mGood_c hpl.1
  rw [c8] at hG
  rcases hm with hm | hm
  · refine mCallM (va_runI (As := (mArgs j st).map (mRv G)) (rest := (st.drop k).map (mRv G)) (Ts := mTb) ⟨hF.1, hF.2.1, hF.2.2.1, hF.2.2.2.1, hts⟩ hM (cwI (mNa M' - 1) hts hG rfl rfl rfl (hts _ f5) (hts _ (wm_i hm)) (hts _ hin) c5 ⟨f3, f4, f8⟩ hrm) hPre rfl hlen hsz rfl hroom hd ⟨by omega, by omega⟩) hI.2.2.1 (fun H1 locs1 hP1 hS1 => ?_)
    rw [mOptMap]
    exact kr v rfl H1 locs1 _ _ (hI.back hgo hP1 hS1)
  · have hw := List.all_eq_true.mp mNL_c _ hm
    simp only [decide_eq_true_eq] at hw
    refine mCallM (va_runIN (host := "MeanMan") (As := (mArgs j st).map (mRv G)) (rest := (st.drop k).map (mRv G)) (Ts := mTb) ⟨hF.1, hF.2.1, hF.2.2.1, hF.2.2.2.1, hts⟩ hM ⟨va_cnB (mNa M' - 1) hts hG rfl rfl rfl (hSta.1.2.1 _ hw) (hts _ f5) ⟨f3, f4, f8⟩ hrm, c5, hts _ hin⟩ hPre rfl hlen hsz rfl hroom hd ⟨by omega, by omega⟩) hI.2.2.1 (fun H1 locs1 hP1 hS1 => ?_)
    rw [mOptMap]
    exact kr v rfl H1 locs1 _ _ (hI.back hgo hP1 hS1)
end CALLS
