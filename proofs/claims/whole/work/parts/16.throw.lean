/-! THE SMALL MACHINE IS THE MACHINE, 6: contracts, and the throw -/
def mRm (d mc ms : Nat) : Room := { frames := d + 12, cells := mc, slots := ms, locals := 64 * d + 256 }
def mPc (G : mG) (as : List Value) (w : mW) : Array Value → State → Prop := fun a U => a = (as.map (mRv G)).toArray ∧ mSta G U ∧ va_P (gD G) mCl (mWl G w) U.heap ∧ mDef w ∧ (w.2.2.2 = 0 → U.heap.size ≤ gB G + w.2.1)
def mQc (G : mG) (E : mEnd) (w1 : mW) : Array Value → State → Outcome → State → Prop := fun _ st o t => ∃ v, E = .inl v ∧ o = .returned (v.map (mRv G)) ∧ va_P (gD G) mCl (mWl G w1) t.heap ∧ va_F (gF G) st t
def mXc (G : mG) (E : mEnd) (w1 : mW) : String → State → State → Prop := fun N st t => ∃ x, E = .inr x ∧ N = mExn.getD x "" ∧ va_P (gD G) mCl (mWl G w1) t.heap ∧ va_F (gF G) st t
theorem mAoa_warm {s U : State} (hvm : s.vm.Alike U.vm) (h : (Cond.arrayOver (.array .int)).before #[] s = true) : (Cond.arrayOver (.array .int)).before #[] U = true := Cond.overAtom_setVm (args := #[]) hvm _ rfl h
theorem mSta.same {G : mG} {u U : State} (hvm : u.vm = U.vm) (hh : U.heap = u.heap) (h : mSta G u) : mSta G U := by
  obtain ⟨⟨h1, h2, h3, h4, h5, h6, h7, h8⟩, hH, hU, hB⟩ := h
  have ha : u.vm.Alike U.vm := by rw [← hvm]; exact Vm.Alike.refl u.vm
  refine ⟨⟨va_K.moved ha h1, fun w hw => va_Nw.same ?_ hvm (h2 w hw), fun w hw => va_Nw.same ?_ hvm (h3 w hw), va_AO.moved ha h4, mAoa_warm ha h5, fun a ha1 b hb hab => va_Nc.moved ha (h6 a ha1 b hb hab), fun e he => vk_R.same hvm.symm (h7 e he), fun e he => ?_⟩, ?_, hU, by rw [hh]; exact hB⟩
  · simp only [mXw, List.mem_cons, List.not_mem_nil, or_false] at hw
    rcases hw with rfl | rfl | rfl | rfl | rfl | rfl <;> rfl
  · have h1 := List.all_eq_true.mp mXv_ok w hw
    simp only [Bool.and_eq_true] at h1
    exact h1.1
  · obtain ⟨a, ha⟩ := h8 e he
    exact ⟨a, vk_R.same hvm.symm ha⟩
  · rw [hh]
    exact mStH.move (locs := []) ha va_S.rf hH hB
theorem mSta.move {G : mG} {s U : State} {H : Heap} {locs : List Loc} (hW : s.WarmedH U.vm) (hU : U.heap = H) (hS : va_S (gF G) s.heap H locs) (h : mSta G s) : mSta G U := by
  obtain ⟨hT, hH, hu, hB⟩ := h
  subst hU
  exact ⟨hT.warm hW (mAoa_warm hW.alike), hH.move hW.alike hS hB, hu, Nat.le_trans hB hS.1⟩
theorem mPc_blind {G : mG} {as : List Value} {w : mW} : FrameBlind (mPc G as w) := fun a U g mk h => ⟨h.1, mSta.same (u := U) (U := U.calling g mk a) rfl rfl h.2.1, h.2.2⟩
/-- the caller's side of a contract -/
theorem mPc_of {G : mG} {as : List Value} {w : mW} {s U : State} {H : Heap} {locs : List Loc} {c0 s0 cells slots : Nat} (hW : s.WarmedH U.vm) (hU : U.heap = H) (hS : mSta G s) (hI : mInv G s c0 s0 w H locs cells slots) (hz : w.2.2.2 = 0 → H.size = gB G + w.2.1) : mPc G as w (as.map (mRv G)).toArray U :=
  ⟨rfl, hS.move hW hU hI.2.2.1, by rw [hU]; exact hI.1, hI.2.1, fun h => by rw [hU, hz h]; exact Nat.le_refl _⟩
/-- what is said of a run from any place of a method on -/
def mSound (n : Nat) : Prop := ∀ {d M pc : Nat} {l st : List Value} {w w' : mW} {E : mEnd} {G : mG}, mGo (gA G) n d M pc l st w = some (E, w') →
  ∀ {p : Program} {l0 : Launch} {e : Env} {R : Room} {s : State} {m : MethodId} {args : Array Value} {below : List Frame} {meth : Method} {c : Code} {H : Heap} {locs : List Loc} {cells slots : Nat} {Q : State → Prop} {ls : Array Slot} {c0 s0 : Nat},
  mFr G M p s m args meth c → l0.stackTraces = false → mInv G s c0 s0 w H locs cells slots → mLR G ls l → l.length = mLn M → (mNc w' ≤ c0 + R.cells ∧ mNs w' ≤ s0 + R.slots) → (d + 12 ≤ R.frames ∧ 64 * d + 256 ≤ R.locals) →
  (∀ v, E = .inl v → ∀ (pc' : Nat) (ls' : Array Slot) (H' : Heap) (locs' : List Loc) (cells' slots' : Nat), mInv G s c0 s0 w' H' locs' cells' slots' → (v = none → mRt M = none ∧ decode (mB M) pc' = .ok (.return_, 1)) → (∀ x, v = some x → decode (mB M) pc' = .ok (.ireturn, 1) ∧ ∃ k ty, x = .int k ∧ mRt M = some ty ∧ narrow ty (.int k) = .int k) → W p l0 e R s m args below meth c H' locs' cells' slots' Q (F0 m pc' ls' (v.toList.map (mRv G)))) →
  (∀ x, E = .inr x → ∃ (Qc : Array Value → State → Outcome → State → Prop) (XC : String → State → State → Prop) (mc ms : Nat), Q = vx_MQ below Qc XC args s mc ms (gF G) ∧ (∀ t : State, s.vm.Alike t.vm → va_P (gD G) mCl (mWl G w') t.heap → va_F (gF G) s t → XC (mExn.getD x "") s t) ∧ mNc w' = c0 + mc ∧ mNs w' = s0 + ms) →
  W p l0 e R s m args below meth c H locs cells slots Q (F0 m pc ls (st.map (mRv G)))
/-! the throws -/
def mXl : List (Nat × Nat × Nat) := [(0, 120, 124), (1, 130, 134), (2, 374, 378), (3, 173, 177), (4, 385, 389)]
theorem wx_c0 : (.classLink "MeanMan" 120 "java/lang/IllegalArgumentException" : Cond) ∈ mTb := mTb_at (k := 4) (i := 47) (by decide +kernel) rfl
theorem wx_c1 : (.classLink "MeanMan" 130 "java/lang/UnsupportedOperationException" : Cond) ∈ mTb := mTb_at (k := 4) (i := 117) (by decide +kernel) rfl
theorem wx_c2 : (.classLink "MeanMan" 374 "java/lang/IndexOutOfBoundsException" : Cond) ∈ mTb := mTb_at (k := 4) (i := 160) (by decide +kernel) rfl
theorem wx_c3 : (.classLink "MeanMan" 173 "java/util/NoSuchElementException" : Cond) ∈ mTb := mTb_at (k := 4) (i := 191) (by decide +kernel) rfl
theorem wx_c4 : (.classLink "MeanMan" 385 "java/lang/IllegalStateException" : Cond) ∈ mTb := mTb_at (k := 4) (i := 231) (by decide +kernel) rfl
theorem wx_i0 : (.initialized "java/lang/IllegalArgumentException" : Cond) ∈ mTb := mTb_at (k := 1) (i := 22) (by decide +kernel) rfl
theorem wx_i1 : (.initialized "java/lang/UnsupportedOperationException" : Cond) ∈ mTb := mTb_at (k := 1) (i := 23) (by decide +kernel) rfl
theorem wx_i2 : (.initialized "java/lang/IndexOutOfBoundsException" : Cond) ∈ mTb := mTb_at (k := 1) (i := 24) (by decide +kernel) rfl
theorem wx_i3 : (.initialized "java/util/NoSuchElementException" : Cond) ∈ mTb := mTb_at (k := 1) (i := 26) (by decide +kernel) rfl
theorem wx_i4 : (.initialized "java/lang/IllegalStateException" : Cond) ∈ mTb := mTb_at (k := 1) (i := 27) (by decide +kernel) rfl
/-- what a throw needs of the tables -/
theorem mX_ok {E ik ic : Nat} (h : (E, ik, ic) ∈ mXl) : Bundle.fit (mExn.getD E "") = true ∧ (.classLink "MeanMan" ik (mExn.getD E "") : Cond) ∈ mTb ∧ (.initialized (mExn.getD E "") : Cond) ∈ mTb ∧ ((∀ w ∈ vx_atS "MeanMan" ic (mExn.getD E "") mRup, w ∈ mXv) ∨ (∀ w ∈ (Bundle.ownAtomsX "MeanMan" ic (mExn.getD E "") 13 mRx mRup).filter vx_no, w ∈ mXv)) := by
  simp only [mXl, List.mem_cons, List.not_mem_nil, or_false, Prod.mk.injEq] at h
  rcases h with ⟨rfl, rfl, rfl⟩ | ⟨rfl, rfl, rfl⟩ | ⟨rfl, rfl, rfl⟩ | ⟨rfl, rfl, rfl⟩ | ⟨rfl, rfl, rfl⟩
  · exact ⟨by decide, wx_c0, wx_i0, Or.inl fun w hw => List.mem_cons_of_mem _ (List.mem_append_left _ hw)⟩
  · exact ⟨by decide, wx_c1, wx_i1, Or.inl fun w hw => List.mem_cons_of_mem _ (List.mem_append_right _ (List.mem_append_left _ hw))⟩
  · exact ⟨by decide, wx_c2, wx_i2, Or.inl fun w hw => List.mem_cons_of_mem _ (List.mem_append_right _ (List.mem_append_right _ (List.mem_append_left _ hw)))⟩
  · exact ⟨by decide, wx_c3, wx_i3, Or.inr fun w hw => List.mem_cons_of_mem _ (List.mem_append_right _ (List.mem_append_right _ (List.mem_append_right _ (List.mem_append_left _ hw))))⟩
  · exact ⟨by decide, wx_c4, wx_i4, Or.inl fun w hw => List.mem_cons_of_mem _ (List.mem_append_right _ (List.mem_append_right _ (List.mem_append_right _ (List.mem_append_right _ hw))))⟩
theorem mRx_0 : decode mRx 0 = .ok (.aload_n 0, 1) := by decide +kernel
theorem mRx_1 : decode mRx 1 = .ok (.aload_n 1, 1) := by decide +kernel
theorem mRx_2 : decode mRx 2 = .ok (.invokespecial 13, 3) := by decide +kernel
theorem mRx_5 : decode mRx 5 = .ok (.return_, 1) := by decide +kernel
theorem mThf_mem {M pc : Nat} {z : Nat × Nat × Nat × Nat × Nat} : ∀ {t : List (Nat × Nat × Nat × Nat × Nat × Nat × Nat)}, mThf M pc t = some z → (M, pc, z) ∈ t
  | [], h => by cases h
  | (a, b, u) :: r, h => by
    unfold mThf at h
    by_cases hc : a = M ∧ b = pc
    · rw [if_pos hc] at h
      obtain ⟨rfl, rfl⟩ := hc
      cases h
      exact List.mem_cons_self
    · rw [if_neg hc] at h
      exact List.mem_cons_of_mem _ (mThf_mem h)
theorem mTh_c : (mTh.all fun e => decide (mOn.getD (mOw e.1) "" = "MeanMan") && decide (mHt e.1 = []) && mXl.contains (e.2.2.1, e.2.2.2.1, e.2.2.2.2.2.1) && (mTx.any fun z => Nat.beq z.1 e.2.2.2.2.1)) = true := by decide +kernel
theorem mIsOk_ok {b : ByteArray} {pc n : Nat} {i : Instr} (h : mIsOk b pc i n = true) : decode b pc = .ok (i, n) := by
  unfold mIsOk at h
  split at h
  · rename_i z e; simp only [decide_eq_true_eq] at h; rw [e, h]
  · cases h
section THROW
variable {p : Program} {l0 : Launch} {e : Env} {R : Room} {s : State} {m : MethodId} {args : Array Value} {below : List Frame} {meth : Method} {c : Code} {H : Heap} {locs : List Loc} {cells slots : Nat} {Q : State → Prop}
variable {G : mG} {M c0 s0 pc len : Nat} {ls : Array Slot} {l st : List Value} {w : mW}
theorem mS_throw {E k : Nat} {Qc : Array Value → State → Outcome → State → Prop} {XC : String → State → State → Prop} {mc ms : Nat} (hF : mFr G M p s m args meth c) (htr : l0.stackTraces = false) (hd : decode (mB M) pc = .ok (.new k, 3)) (ht : mThr M pc k = some (.ret E)) (hI : mInv G s c0 s0 w H locs cells slots) (hl : mLR G ls l) (hll : l.length = mLn M) (h8 : (st.map fun v => v.category).sum ≤ 8)
    (hR : 12 ≤ R.frames ∧ 256 ≤ R.locals) (hcap : cells + 1 ≤ R.cells ∧ slots + 6 ≤ R.slots) (hmc : cells + 1 ≤ mc ∧ slots + 6 ≤ ms) (hX : ∀ t : State, s.vm.Alike t.vm → va_P (gD G) mCl (mWl G w) t.heap → va_F (gF G) s t → XC (mExn.getD E "") s t) :
    W p l0 e R s m args below meth c H locs cells slots (vx_MQ below Qc XC args s mc ms (gF G)) (F0 m pc ls (st.map (mRv G))) := by
  obtain ⟨hx, hb, hml, hown, hts, hlocks, hr, hname, hexc, hT, hH, hU, hB⟩ := hF
  unfold mThr at ht
  split at ht
  · rename_i E' ik ix ic wd he
    by_cases hc : ik = k ∧ mIsOk (mB M) (pc + 3) .dup 1 = true ∧ ((wd = 2 ∧ mIsOk (mB M) (pc + 4) (.ldc ix) 2 = true) ∨ (wd = 3 ∧ mIsOk (mB M) (pc + 4) (.ldc_w ix) 3 = true)) ∧ mIsOk (mB M) (pc + 4 + wd) (.invokespecial ic) 3 = true ∧ mIsOk (mB M) (pc + 7 + wd) .athrow 1 = true
    · rw [if_pos hc] at ht
      cases ht
      obtain ⟨rfl, c1, c2, c3, c4⟩ := hc
      have hm := List.all_eq_true.mp mTh_c _ (mThf_mem he)
      simp only [Bool.and_eq_true, decide_eq_true_eq, List.any_eq_true, Nat.beq_eq] at hm
      obtain ⟨⟨⟨m1, m2⟩, m3⟩, z, hz, m4⟩ := hm
      have m3 := List.contains_iff_mem.mp m3
      rw [m1] at hown
      obtain ⟨x1, x2, x3, x4⟩ := mX_ok m3
      obtain ⟨sa, hsa⟩ := hT.2.2.2.2.2.2.2 z hz
      have m4 : z.1 = ix := m4
      rw [m4] at hsa
      have hots : ∀ w ∈ mXv, vx_ot w = true := fun w hw => by
        have h1 := List.all_eq_true.mp mXv_ok w hw
        simp only [Bool.and_eq_true] at h1
        unfold vx_ot
        rw [h1.1]
        rfl
      have hbef : ∀ w ∈ mXv, w.before args s = true := fun w hw => by
        have h1 := List.all_eq_true.mp mXv_ok w hw
        simp only [Bool.and_eq_true] at h1
        exact va_Nw.use h1.1 (hT.2.2.1 w hw)
      have hout : ∀ q, ∀ x ∈ c.exceptionTable.toList, covers x q = false := fun q x hx => by
        rw [hexc, m2] at hx
        cases hx
      have hxx : ∀ t : State, s.vm.Alike t.vm → H.size ≤ t.heap.size → (∀ q : Nat, q < H.size → t.heap[q]? = H[q]?) → XC (mExn.getD E "") s t := fun t h1 h2 h3 => by
        refine hX t h1 (hI.1.kept (fun j q hq => h3 _ ((hI.1 j q hq).lt))) ⟨Nat.le_trans hI.2.2.1.1 h2, fun q hq hnq => ?_⟩
        rw [h3 q (Nat.lt_of_lt_of_le hq hI.2.2.1.1)]
        exact hI.2.2.1.2.1 q hq hnq
      have hnames : ∀ n ∈ mRup, Bundle.fit n = true := by decide
      rcases x4 with x4 | x4
      · have hgood : ∀ w ∈ Cond.classLink "MeanMan" ik (mExn.getD E "") :: Cond.initialized (mExn.getD E "") :: vx_atS "MeanMan" ic (mExn.getD E "") mRup, vx_ot w = true := by
          intro w hw
          rcases List.mem_cons.mp hw with rfl | hw
          · rfl
          · rcases List.mem_cons.mp hw with rfl | hw
            · rfl
            · exact hots w (x4 w hw)
        have hat : ∀ w ∈ vx_atS "MeanMan" ic (mExn.getD E "") mRup, w.before args s = true := fun w hw => hbef w (x4 w hw)
        rcases c2 with ⟨rfl, c2⟩ | ⟨rfl, c2⟩
        · exact vx_throwS (A := gF G) hx hb htr hown x1 hnames (hts _ x2) (hts _ x3) hsa hat hgood hH.2.2.2.1 hH.2.2.2.2.1 hI.2.2.1 (hl.1.trans (hll.trans hml.symm)) hd (mIsOk_ok c1) (mIsOk_ok c2) (mIsOk_ok c3) (mIsOk_ok c4) (hout _) (by show 2 + 3 < _; omega) (by rw [mRv_sum hU]; show _ + (13 * (2 + 1) + 43) ≤ _; omega) hcap.1 hcap.2 hlocks hxx (fun z hz => hI.2.2.1.2.2 z hz) hmc.1 hmc.2
        · exact vx_throwSW (A := gF G) hx hb htr hown x1 hnames (hts _ x2) (hts _ x3) hsa hat hgood hH.2.2.2.1 hH.2.2.2.2.1 hI.2.2.1 (hl.1.trans (hll.trans hml.symm)) hd (mIsOk_ok c1) (mIsOk_ok c2) (mIsOk_ok c3) (mIsOk_ok c4) (hout _) (by show 2 + 3 < _; omega) (by rw [mRv_sum hU]; show _ + (13 * (2 + 1) + 43) ≤ _; omega) hcap.1 hcap.2 hlocks hxx (fun z hz => hI.2.2.1.2.2 z hz) hmc.1 hmc.2
      · have hgood : ∀ w ∈ Cond.classLink "MeanMan" ik (mExn.getD E "") :: Cond.initialized (mExn.getD E "") :: (Bundle.ownAtomsX "MeanMan" ic (mExn.getD E "") 13 mRx mRup).filter vx_no, vx_ot w = true := by
          intro w hw
          rcases List.mem_cons.mp hw with rfl | hw
          · rfl
          · rcases List.mem_cons.mp hw with rfl | hw
            · rfl
            · exact hots w (x4 w hw)
        have c2' : (wd = 2 ∧ decode (mB M) (pc + 4) = .ok (.ldc ix, 2)) ∨ (wd = 3 ∧ decode (mB M) (pc + 4) = .ok (.ldc_w ix, 3)) := by
          rcases c2 with ⟨h1, h2⟩ | ⟨h1, h2⟩
          · exact Or.inl ⟨h1, mIsOk_ok h2⟩
          · exact Or.inr ⟨h1, mIsOk_ok h2⟩
        have c4' : decode (mB M) (pc + 4 + wd + 3) = .ok (.athrow, 1) := by
          rw [show pc + 4 + wd + 3 = pc + 7 + wd by omega]
          exact mIsOk_ok c4
        exact mThrowX (A := gF G) hx hb htr mRx_0 mRx_1 mRx_2 mRx_5 hown x1 hnames (hts _ x2) (hts _ x3) hsa (fun w hw => hbef w (x4 w hw)) hgood hH.2.2.2.1 hH.2.2.2.2.1 hI.2.2.1 (hl.1.trans (hll.trans hml.symm)) hd (mIsOk_ok c1) c2' (mIsOk_ok c3) c4' (hout _) (by show 2 + 3 < _; omega) (by rw [mRv_sum hU]; show _ + (13 * (2 + 1) + 43) ≤ _; omega) hcap.1 hcap.2 hlocks hxx (fun z hz => hI.2.2.1.2.2 z hz) hmc.1 hmc.2
    · rw [if_neg hc] at ht; cases ht
  · cases ht
end THROW
