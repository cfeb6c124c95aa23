section STEP
variable {p : Program} {l0 : Launch} {e : Env} {R : Room} {s : State} {m : MethodId} {args : Array Value} {below : List Frame} {meth : Method} {c : Code} {H : Heap} {locs : List Loc} {cells slots : Nat} {Q : State → Prop}
variable {G : mG} {M c0 s0 pc len : Nat} {ls : Array Slot} {l st : List Value} {w : mW}
/-- what is to be shown of the place where a step comes to -/
abbrev mK (p : Program) (l0 : Launch) (e : Env) (R : Room) (s : State) (m : MethodId) (args : Array Value) (below : List Frame) (meth : Method) (c : Code) (Q : State → Prop) (G : mG) (M c0 s0 : Nat) (z : mNx) : Prop :=
  ∀ (H1 : Heap) (locs1 : List Loc) (ls1 : Array Slot) (cells1 slots1 : Nat), mInv G s c0 s0 z.2.2.2 H1 locs1 cells1 slots1 → mLR G ls1 z.2.1 → z.2.1.length = mLn M → W p l0 e R s m args below meth c H1 locs1 cells1 slots1 Q (F0 m z.1 ls1 (z.2.2.1.map (mRv G)))
theorem mS_if {k : ClassFile.Cond} {off : Int} {x : Int32} {st0 : List Value} (hx : p.tables.exec = Jvm.exec) (hb : c.code = mB M) (hd : decode (mB M) pc = .ok (.ifCond k off, 3)) (ht : (pc : Int) + off = ((((pc : Int) + off).toNat : Nat) : Int))
    (kk : W p l0 e R s m args below meth c H locs cells slots Q (F0 m (mBr k x 0 ((pc : Int) + off).toNat (pc + 3)) ls st0)) : W p l0 e R s m args below meth c H locs cells slots Q (F0 m pc ls (.int x :: st0)) := by
  cases k with
  | eq => exact lv_if_eq hx hb hd ht (fun h => by rwa [show mBr .eq x 0 ((pc : Int) + off).toNat (pc + 3) = _ from if_pos h] at kk) (fun h => by rwa [show mBr .eq x 0 ((pc : Int) + off).toNat (pc + 3) = _ from if_neg h] at kk)
  | ne => exact lv_if_ne hx hb hd ht (fun h => by rwa [show mBr .ne x 0 ((pc : Int) + off).toNat (pc + 3) = _ from if_neg h] at kk) (fun h => by rwa [show mBr .ne x 0 ((pc : Int) + off).toNat (pc + 3) = _ from if_pos h] at kk)
  | lt => exact lv_if_lt hx hb hd ht (fun h => by rwa [show mBr .lt x 0 ((pc : Int) + off).toNat (pc + 3) = _ from if_pos h] at kk) (fun h => by rwa [show mBr .lt x 0 ((pc : Int) + off).toNat (pc + 3) = _ from if_neg h] at kk)
  | ge => exact lv_if_ge hx hb hd ht (fun h => by rwa [show mBr .ge x 0 ((pc : Int) + off).toNat (pc + 3) = _ from if_pos h] at kk) (fun h => by rwa [show mBr .ge x 0 ((pc : Int) + off).toNat (pc + 3) = _ from if_neg h] at kk)
  | gt => exact lv_if_gt hx hb hd ht (fun h => by rwa [show mBr .gt x 0 ((pc : Int) + off).toNat (pc + 3) = _ from if_pos h] at kk) (fun h => by rwa [show mBr .gt x 0 ((pc : Int) + off).toNat (pc + 3) = _ from if_neg h] at kk)
  | le => exact lv_if_le hx hb hd ht (fun h => by rwa [show mBr .le x 0 ((pc : Int) + off).toNat (pc + 3) = _ from if_pos h] at kk) (fun h => by rwa [show mBr .le x 0 ((pc : Int) + off).toNat (pc + 3) = _ from if_neg h] at kk)
theorem mS_icmp {k : ClassFile.Cond} {off : Int} {x y : Int32} {st0 : List Value} (hx : p.tables.exec = Jvm.exec) (hb : c.code = mB M) (hd : decode (mB M) pc = .ok (.if_icmp k off, 3)) (ht : (pc : Int) + off = ((((pc : Int) + off).toNat : Nat) : Int))
    (kk : W p l0 e R s m args below meth c H locs cells slots Q (F0 m (mBr k x y ((pc : Int) + off).toNat (pc + 3)) ls st0)) : W p l0 e R s m args below meth c H locs cells slots Q (F0 m pc ls (.int y :: .int x :: st0)) := by
  cases k with
  | eq => exact lv_icmp_eq hx hb hd ht (fun h => by rwa [show mBr .eq x y ((pc : Int) + off).toNat (pc + 3) = _ from if_pos h] at kk) (fun h => by rwa [show mBr .eq x y ((pc : Int) + off).toNat (pc + 3) = _ from if_neg h] at kk)
  | ne => exact lv_icmp_ne hx hb hd ht (fun h => by rwa [show mBr .ne x y ((pc : Int) + off).toNat (pc + 3) = _ from if_neg h] at kk) (fun h => by rwa [show mBr .ne x y ((pc : Int) + off).toNat (pc + 3) = _ from if_pos h] at kk)
  | lt => exact lv_icmp_lt hx hb hd ht (fun h => by rwa [show mBr .lt x y ((pc : Int) + off).toNat (pc + 3) = _ from if_pos h] at kk) (fun h => by rwa [show mBr .lt x y ((pc : Int) + off).toNat (pc + 3) = _ from if_neg h] at kk)
  | ge => exact lv_icmp_ge hx hb hd ht (fun h => by rwa [show mBr .ge x y ((pc : Int) + off).toNat (pc + 3) = _ from if_pos h] at kk) (fun h => by rwa [show mBr .ge x y ((pc : Int) + off).toNat (pc + 3) = _ from if_neg h] at kk)
  | gt => exact lv_icmp_gt hx hb hd ht (fun h => by rwa [show mBr .gt x y ((pc : Int) + off).toNat (pc + 3) = _ from if_pos h] at kk) (fun h => by rwa [show mBr .gt x y ((pc : Int) + off).toNat (pc + 3) = _ from if_neg h] at kk)
  | le => exact lv_icmp_le hx hb hd ht (fun h => by rwa [show mBr .le x y ((pc : Int) + off).toNat (pc + 3) = _ from if_pos h] at kk) (fun h => by rwa [show mBr .le x y ((pc : Int) + off).toNat (pc + 3) = _ from if_neg h] at kk)
/-- a field is read -/
theorem mS_get {idx f : Nat} {a ci : Nat} {fs st0 : List Value} {v : Value} (hF : mFr G M p s m args meth c) (hd : decode (mB M) pc = .ok (.getfield idx, 3)) (hf : (mOw M, idx, f) ∈ mFL) (hlt : f < 1000) (hI : mInv G s c0 s0 w H locs cells slots) (ha : w.1 a = .inr (ci, fs)) (hi : mIs ci (f / 64) = true) (hv : fs[f % 64]? = some v)
    (kk : W p l0 e R s m args below meth c H locs cells slots Q (F0 m (pc + 3) ls (mRv G v :: st0))) : W p l0 e R s m args below meth c H locs cells slots Q (F0 m pc ls (.ref (gB G + a) :: st0)) := by
  obtain ⟨hx, hb, hml, hown, hts, hlocks, hr, hname, hexc, ⟨hK, hT2⟩, hH, hU, hB⟩ := hF
  obtain ⟨h1, h2, rf, h3, h4⟩ := mFL_ok hf hlt hi
  have hal : a < w.2.1 := hI.2.1.obj ha (by omega)
  have he : (mWl G w)[a]? = some (gB G + a, .inr (ci, fs.map (mRv G))) := by rw [mWl_at hal, ha]; rfl
  refine va_get (D := gD G) (cl := mCl) (tys := mTys (gT G)) (ci := ci) (C := mOn.getD ci "") (T := mT ci) (N := mCN ci) (ref := mOn.getD rf "") hx hb hts (mLy_ok h1) hown hK hI.1 a he (mCl_at ci h1) (f % 64) h2 (hts _ h3) (fun x h9 => ?_) (v := mRv G v) (by rw [List.getElem?_map, hv]; rfl) hd kk
  rcases h4 with h4 | h4
  · rw [h4]; exact h9
  · exact u_same (hts _ h4) x h9
/-- a field is written -/
theorem mS_put {idx f : Nat} {a ci : Nat} {fs st0 : List Value} {v : Value} (hF : mFr G M p s m args meth c) (hd : decode (mB M) pc = .ok (.putfield idx, 3)) (hf : (mOw M, idx, f) ∈ mFL) (hlt : f < 1000) (hp : mPok M f = true) (hI : mInv G s c0 s0 w H locs cells slots) (ha : w.1 a = .inr (ci, fs)) (hi : mIs ci (f / 64) = true) (hv : mFit (mKd ci (f % 64)) v = true) (hl : f % 64 < fs.length)
    (kk : ∀ (H1 : Heap) (locs1 : List Loc), mInv G s c0 s0 (va_up w.1 a (.inr (ci, fs.set (f % 64) v)), w.2) H1 locs1 cells slots → W p l0 e R s m args below meth c H1 locs1 cells slots Q (F0 m (pc + 3) ls st0)) : W p l0 e R s m args below meth c H locs cells slots Q (F0 m pc ls (mRv G v :: .ref (gB G + a) :: st0)) := by
  obtain ⟨hx, hb, hml, hown, hts, hlocks, hr, hname, hexc, ⟨hK, hT2⟩, hH, hU, hB⟩ := hF
  obtain ⟨h1, h2, rf, h3, h4⟩ := mFL_ok hf hlt hi
  have hal : a < w.2.1 := hI.2.1.obj ha (by omega)
  have he : (mWl G w)[a]? = some (gB G + a, .inr (ci, fs.map (mRv G))) := by rw [mWl_at hal, ha]; rfl
  have hsame : ∀ x, s.fieldFound? (mT ci (f % 64)).1 (mT ci (f % 64)).2.1 (mT ci (f % 64)).2.2.1 = some x → s.fieldFound? (mOn.getD rf "") (mT ci (f % 64)).2.1 (mT ci (f % 64)).2.2.1 = some x := fun x h9 => by
    rcases h4 with h4 | h4
    · rw [h4]; exact h9
    · exact u_same (hts _ h4) x h9
  obtain ⟨hn, hfit⟩ := mFit_ok (G := G) h1 h2 hv
  have hset : mRe G (.inr (ci, fs.set (f % 64) v)) = .inr (ci, (fs.map (mRv G)).set (f % 64) (mRv G v)) := by
    show Sum.inr (ci, (fs.set (f % 64) v).map (mRv G)) = _
    rw [List.map_set]
  have hfinal := List.all_eq_true.mp hp ci (List.mem_range.mpr h1)
  simp only [Bool.or_eq_true, Bool.and_eq_true, Bool.not_eq_true', beq_iff_eq] at hfinal
  have hTe : (mCl.getD ci ("", TX0, 0)).2.1 = mT ci := by
    unfold mT
    rw [List.getD_eq_getElem?_getD, List.getD_eq_getElem?_getD, mCl_at ci h1]
    rfl
  rw [hTe] at hfinal
  rcases hfinal with hfinal | hfinal | ⟨hi1, hi2⟩
  · rw [hfinal] at hi; cases hi
  · refine va_put (D := gD G) (cl := mCl) (tys := mTys (gT G)) (A := gF G) (H0 := s.heap) (ci := ci) (C := mOn.getD ci "") (T := mT ci) (N := mCN ci) (ref := mOn.getD rf "") hx hb hts (mLy_ok h1) (mTy ci) (mTy_ok ci h1) (mNm_ok ci h1) hown hK hI.1 (mWl_D G w) hI.2.2.1 a he (mCl_at ci h1) (f % 64) h2 (hts _ h3) hsame hfinal (ty := mTy ci (f % 64)) (mTy_ok ci h1 _ h2) hn hfit (by rw [List.length_map]; exact hl) hd (fun H1 locs1 hP1 _ hS1 => ?_)
    exact kk H1 locs1 (hI.up hal hset hP1 hS1)
  · by_cases hq : (mT ci (f % 64)).2.2.2 = false
    · refine va_put (D := gD G) (cl := mCl) (tys := mTys (gT G)) (A := gF G) (H0 := s.heap) (ci := ci) (C := mOn.getD ci "") (T := mT ci) (N := mCN ci) (ref := mOn.getD rf "") hx hb hts (mLy_ok h1) (mTy ci) (mTy_ok ci h1) (mNm_ok ci h1) hown hK hI.1 (mWl_D G w) hI.2.2.1 a he (mCl_at ci h1) (f % 64) h2 (hts _ h3) hsame hq (ty := mTy ci (f % 64)) (mTy_ok ci h1 _ h2) hn hfit (by rw [List.length_map]; exact hl) hd (fun H1 locs1 hP1 _ hS1 => ?_)
      exact kk H1 locs1 (hI.up hal hset hP1 hS1)
    · refine va_putF (D := gD G) (cl := mCl) (tys := mTys (gT G)) (A := gF G) (H0 := s.heap) (ci := ci) (C := mOn.getD ci "") (T := mT ci) (N := mCN ci) (ref := mOn.getD rf "") hx hb hts (mLy_ok h1) (mTy ci) (mTy_ok ci h1) (mNm_ok ci h1) hown hK hI.1 (mWl_D G w) hI.2.2.1 a he (mCl_at ci h1) (f % 64) h2 (hts _ h3) hsame (by simpa using hq) (hname.trans hi1) hi2 (ty := mTy ci (f % 64)) (mTy_ok ci h1 _ h2) hn hfit (by rw [List.length_map]; exact hl) hd (fun H1 locs1 hP1 _ hS1 => ?_)
      exact kk H1 locs1 (hI.up hal hset hP1 hS1)
/-- the cell of an array -/
theorem mArr {a t n : Nat} {x : (Nat → Int32) ⊕ (Nat → Int64) ⊕ (Nat → UInt32) ⊕ (Nat → UInt64) ⊕ (Nat → Option Nat)} (hI : mInv G s c0 s0 w H locs cells slots) (ha : w.1 a = .inl (t, n, x)) : a < w.2.1 ∧ (mWl G w)[a]? = some (gB G + a, mRe G (.inl (t, n, x))) := by
  have hal : a < w.2.1 := hI.2.1.arr ha
  exact ⟨hal, by rw [mWl_at hal, ha]⟩
theorem mS_ald {t : Nat} {st' : List Value} {z : mNx} (ht : t = 0 ∨ t = 1) (hF : mFr G M p s m args meth c) (hd : decode (mB M) pc = .ok (if t = 0 then .iaload else .baload, 1)) (hI : mInv G s c0 s0 w H locs cells slots) (hl : mLR G ls l) (hll : l.length = mLn M) (hs : mAld (gA G) t (pc + 1) l w st = some z)
    (kk : mK p l0 e R s m args below meth c Q G M c0 s0 z) : W p l0 e R s m args below meth c H locs cells slots Q (F0 m pc ls (st.map (mRv G))) := by
  obtain ⟨hx, hb, hml, hown, hts, hlocks, hr, hname, hexc, ⟨hK, hT2⟩, ⟨hO, -, -, -, -, hX, hXb⟩, hU, hB⟩ := hF
  rcases mAld_inv hs with ⟨a, st0, n, f, i, rfl, ha, hin, rfl⟩ | ⟨k, st0, i, rfl, hsp, hin, rfl⟩
  · obtain ⟨hal, he⟩ := mArr hI ha
    rcases ht with rfl | rfl
    · exact va_iald (D := gD G) (cl := mCl) (tys := mTys (gT G)) hx hb hK hI.1 a 0 he rfl hin hd (kk H locs ls cells slots hI hl hll)
    · exact va_bald (D := gD G) (cl := mCl) (tys := mTys (gT G)) hx hb hK hI.1 a 1 he rfl hin hd (kk H locs ls cells slots hI hl hll)
  · rcases ht with rfl | rfl
    · have hk : k = 150 := by
        unfold mSp at hsp
        simp only [Bool.or_eq_true, Bool.and_eq_true, beq_iff_eq] at hsp
        omega
      subst hk
      exact va_sld (A := gF G) (H0 := s.heap) hx hb hX (by omega) (by show ¬ gB G ≤ gS G 150; omega) hI.2.2.1 hin hd (kk H locs ls cells slots hI hl hll)
    · have hk : 64 ≤ k ∧ k < 95 := by
        unfold mSp at hsp
        simp only [Bool.or_eq_true, Bool.and_eq_true, beq_iff_eq, Nat.ble_eq, Nat.blt_eq] at hsp
        omega
      obtain ⟨j, rfl⟩ : ∃ j, k = 64 + j := ⟨k - 64, by omega⟩
      obtain ⟨-, -, -, hT4⟩ := hO j (by omega)
      show W p l0 e R s m args below meth c H locs cells slots Q (F0 m pc ls (.int i :: (if 64 + j < 200 then .ref (gS G (64 + j)) else gU G) :: st0.map (mRv G)))
      rw [if_pos (by omega)]
      exact va_tb hx hb hT4 hI.2.2.1 hin rfl hd (kk H locs ls cells slots hI hl hll)
theorem mS_lald {z : mNx} (hF : mFr G M p s m args meth c) (hd : decode (mB M) pc = .ok (.laload, 1)) (hI : mInv G s c0 s0 w H locs cells slots) (hl : mLR G ls l) (hll : l.length = mLn M) (hs : mLald (pc + 1) l w st = some z)
    (kk : mK p l0 e R s m args below meth c Q G M c0 s0 z) : W p l0 e R s m args below meth c H locs cells slots Q (F0 m pc ls (st.map (mRv G))) := by
  obtain ⟨hx, hb, hml, hown, hts, hlocks, hr, hname, hexc, ⟨hK, hT2⟩, hH, hU, hB⟩ := hF
  obtain ⟨a, st0, n, f, i, rfl, ha, hin, rfl⟩ := mLald_inv hs
  obtain ⟨hal, he⟩ := mArr hI ha
  exact va_lald (D := gD G) (cl := mCl) (tys := mTys (gT G)) hx hb hK hI.1 a 2 he rfl hin hd (kk H locs ls cells slots hI hl hll)
theorem mS_aald {z : mNx} (hF : mFr G M p s m args meth c) (hd : decode (mB M) pc = .ok (.aaload, 1)) (hI : mInv G s c0 s0 w H locs cells slots) (hl : mLR G ls l) (hll : l.length = mLn M) (hs : mAald (pc + 1) l w st = some z)
    (kk : mK p l0 e R s m args below meth c Q G M c0 s0 z) : W p l0 e R s m args below meth c H locs cells slots Q (F0 m pc ls (st.map (mRv G))) := by
  obtain ⟨hx, hb, hml, hown, hts, hlocks, hr, hname, hexc, ⟨hK, hT2⟩, hH, hU, hB⟩ := hF
  obtain ⟨a, st0, t, n, f, i, b, rfl, ha, ht, hin, hfb, rfl⟩ := mAald_inv hs
  obtain ⟨hal, he⟩ := mArr hI ha
  have k2 := kk H locs ls cells slots hI hl hll
  have hv : va_rf ((fun j => (f j).map fun z => gB G + z) i.toNatClampNeg) = mRv G (.ref b) := by
    show va_rf ((f i.toNatClampNeg).map fun z => gB G + z) = _
    rw [hfb]
    rfl
  rcases ht with rfl | rfl
  · refine va_aldq (D := gD G) (cl := mCl) (tys := mTys (gT G)) hx hb hK hI.1 a 3 he rfl hin hd ?_
    rw [hv]
    exact k2
  · have hlt : i.toNatClampNeg < n := Nat.not_le.mp fun q => hin (Or.inr q)
    refine W.aald (v := va_rf ((fun j => (f j).map fun z => gB G + z) i.toNatClampNeg)) (ty := .array .int) hx hb (hI.1 a _ he) ((hK.2 4 _ rfl).1 n (fun j => va_rf ((f j).map fun z => gB G + z))) rfl (fun q => by cases q) (by show ¬ (i < 0 ∨ (arrV _ _ _).slots.size ≤ _); rw [arrV_size]; exact hin) (by show (arrV _ _ _).slots[_]? = _; rw [arrV_read _ _ hlt]) rfl rfl hd ?_
    show W p l0 e R s m args below meth c H locs cells slots Q (F0 m (pc + 1) ls (va_rf ((fun j => (f j).map fun z => gB G + z) i.toNatClampNeg) :: st0.map (mRv G)))
    rw [hv]
    exact k2
theorem mS_ast {t : Nat} {z : mNx} (ht : t = 0 ∨ t = 1) (hF : mFr G M p s m args meth c) (hd : decode (mB M) pc = .ok (if t = 0 then .iastore else .bastore, 1)) (hI : mInv G s c0 s0 w H locs cells slots) (hl : mLR G ls l) (hll : l.length = mLn M) (hs : mAst t (pc + 1) l w st = some z)
    (kk : mK p l0 e R s m args below meth c Q G M c0 s0 z) : W p l0 e R s m args below meth c H locs cells slots Q (F0 m pc ls (st.map (mRv G))) := by
  obtain ⟨hx, hb, hml, hown, hts, hlocks, hr, hname, hexc, ⟨hK, hT2⟩, hH, hU, hB⟩ := hF
  obtain ⟨a, st0, n, f, i, x, rfl, ha, hin, rfl⟩ := mAst_inv hs
  obtain ⟨hal, he⟩ := mArr hI ha
  rcases ht with rfl | rfl
  · exact va_iast (D := gD G) (cl := mCl) (tys := mTys (gT G)) (A := gF G) (H0 := s.heap) hx hb hK hI.1 (mWl_D G w) hI.2.2.1 a 0 he rfl hin hd (fun H1 locs1 hP1 _ hS1 => kk H1 locs1 ls cells slots (hI.up hal rfl hP1 hS1) hl hll)
  · refine va_bast (D := gD G) (cl := mCl) (tys := mTys (gT G)) (A := gF G) (H0 := s.heap) hx hb hK hI.1 (mWl_D G w) hI.2.2.1 a 1 he rfl hin hd (fun H1 locs1 hP1 _ hS1 => kk H1 locs1 ls cells slots (hI.up hal ?_ hP1 hS1) hl hll)
    rw [vp_nar_byte]
    rfl
theorem mS_last {z : mNx} (hF : mFr G M p s m args meth c) (hd : decode (mB M) pc = .ok (.lastore, 1)) (hI : mInv G s c0 s0 w H locs cells slots) (hl : mLR G ls l) (hll : l.length = mLn M) (hs : mLast (pc + 1) l w st = some z)
    (kk : mK p l0 e R s m args below meth c Q G M c0 s0 z) : W p l0 e R s m args below meth c H locs cells slots Q (F0 m pc ls (st.map (mRv G))) := by
  obtain ⟨hx, hb, hml, hown, hts, hlocks, hr, hname, hexc, ⟨hK, hT2⟩, hH, hU, hB⟩ := hF
  obtain ⟨a, st0, n, f, i, x, rfl, ha, hin, rfl⟩ := mLast_inv hs
  obtain ⟨hal, he⟩ := mArr hI ha
  exact va_last (D := gD G) (cl := mCl) (tys := mTys (gT G)) (A := gF G) (H0 := s.heap) hx hb hK hI.1 (mWl_D G w) hI.2.2.1 a 2 he rfl hin hd (fun H1 locs1 hP1 _ hS1 => kk H1 locs1 ls cells slots (hI.up hal rfl hP1 hS1) hl hll)
theorem mS_aast {z : mNx} (hF : mFr G M p s m args meth c) (hd : decode (mB M) pc = .ok (.aastore, 1)) (hI : mInv G s c0 s0 w H locs cells slots) (hl : mLR G ls l) (hll : l.length = mLn M) (hs : mAast (pc + 1) l w st = some z)
    (kk : mK p l0 e R s m args below meth c Q G M c0 s0 z) : W p l0 e R s m args below meth c H locs cells slots Q (F0 m pc ls (st.map (mRv G))) := by
  obtain ⟨hx, hb, hml, hown, hts, hlocks, hr, hname, hexc, ⟨hK, hT2⟩, hH, hU, hB⟩ := hF
  obtain ⟨a, st0, n, f, i, v, vs, rfl, ha, hv, hin, rfl⟩ := mAast_inv hs
  obtain ⟨hal, he⟩ := mArr hI ha
  have hvl : v < w.2.1 := hI.2.1.obj hv (by decide)
  have hev : (mWl G w)[v]? = some (gB G + v, .inr (2, vs.map (mRv G))) := by rw [mWl_at hvl, hv]; rfl
  refine va_astq (D := gD G) (cl := mCl) (tys := mTys (gT G)) (A := gF G) (H0 := s.heap) (r := (mOn.getD 2 "", mT 2, mCN 2)) hx hb hK hI.1 (mWl_D G w) hI.2.2.1 a 3 v 2 he rfl hev (mCl_at 2 (by decide)) hin hd (fun H1 locs1 hP1 _ hS1 => kk H1 locs1 ls cells slots (hI.up hal ?_ hP1 hS1) hl hll)
  show Sum.inl (gT G 3, n, Sum.inr (Sum.inr (Sum.inr (Sum.inr fun j => (va_up f i.toNatClampNeg (some v) j).map fun z => gB G + z)))) = Sum.inl (gT G 3, n, Sum.inr (Sum.inr (Sum.inr (Sum.inr (va_up (fun j => (f j).map fun z => gB G + z) i.toNatClampNeg (some (gB G + v)))))))
  congr 7
  funext j
  unfold va_up
  by_cases hj : j = i.toNatClampNeg
  · rw [if_pos hj, if_pos hj]; rfl
  · rw [if_neg hj, if_neg hj]
theorem mRe_len {x : vp_A} {t : Nat} : ∃ y : vp_A, mRe G (.inl (t, x)) = .inl (gT G t, y) ∧ y.1 = x.1 := by
  obtain ⟨n, x⟩ := x
  rcases x with f | f | f | f | f
  · exact ⟨_, rfl, rfl⟩
  · exact ⟨_, rfl, rfl⟩
  · exact ⟨_, rfl, rfl⟩
  · exact ⟨_, rfl, rfl⟩
  · exact ⟨_, rfl, rfl⟩
theorem mTys_at {t : Nat} (ht : t < 5) : ∃ ty, (mTys (gT G))[t]? = some (gT G t, ty) := by
  rcases (show t = 0 ∨ t = 1 ∨ t = 2 ∨ t = 3 ∨ t = 4 by omega) with rfl | rfl | rfl | rfl | rfl <;> exact ⟨_, rfl⟩
theorem mS_len {z : mNx} (hF : mFr G M p s m args meth c) (hd : decode (mB M) pc = .ok (.arraylength, 1)) (hI : mInv G s c0 s0 w H locs cells slots) (hl : mLR G ls l) (hll : l.length = mLn M) (hs : mLen (gA G) (pc + 1) l w st = some z)
    (kk : mK p l0 e R s m args below meth c Q G M c0 s0 z) : W p l0 e R s m args below meth c H locs cells slots Q (F0 m pc ls (st.map (mRv G))) := by
  obtain ⟨hx, hb, hml, hown, hts, hlocks, hr, hname, hexc, ⟨hK, hT2⟩, ⟨hO, -, -, -, -, hX, hXb⟩, hU, hB⟩ := hF
  rcases mLen_inv hs with ⟨a, st0, t, x, rfl, ha, ht, rfl⟩ | ⟨k, st0, rfl, hsp, rfl⟩
  · obtain ⟨y, hy, hy1⟩ := mRe_len (G := G) (x := x) (t := t)
    have hal : a < w.2.1 := hI.2.1.arr ha
    have he : (mWl G w)[a]? = some (gB G + a, .inl (gT G t, y)) := by rw [mWl_at hal, ha, hy]
    obtain ⟨ty, hty⟩ := mTys_at (G := G) ht
    exact va_alen (D := gD G) (cl := mCl) (tys := mTys (gT G)) hx hb hK hI.1 a t he hty (by rw [hy1]) hd (kk H locs ls cells slots hI hl hll)
  · rcases hsp with hsp | hsp
    · have hk : k = 150 := by
        unfold mSp at hsp
        simp only [Bool.or_eq_true, Bool.and_eq_true, beq_iff_eq] at hsp
        omega
      subst hk
      exact va_slen (A := gF G) (H0 := s.heap) hx hb hX (by omega) (by show ¬ gB G ≤ gS G 150; omega) hI.2.2.1 hd (kk H locs ls cells slots hI hl hll)
    · have hk : 64 ≤ k ∧ k < 95 := by
        unfold mSp at hsp
        simp only [Bool.or_eq_true, Bool.and_eq_true, beq_iff_eq, Nat.ble_eq, Nat.blt_eq] at hsp
        omega
      obtain ⟨j, rfl⟩ : ∃ j, k = 64 + j := ⟨k - 64, by omega⟩
      obtain ⟨-, -, -, hT4⟩ := hO j (by omega)
      show W p l0 e R s m args below meth c H locs cells slots Q (F0 m pc ls ((if 64 + j < 200 then .ref (gS G (64 + j)) else gU G) :: st0.map (mRv G)))
      rw [if_pos (by omega)]
      exact va_tlen hx hb hT4 hI.2.2.1 rfl hd (kk H locs ls cells slots hI hl hll)
theorem mRv_sum (hU : (gU G).category = 1) {st0 : List Value} : ((st0.map (mRv G)).map fun v => v.category).sum = (st0.map fun v => v.category).sum := by
  induction st0 with
  | nil => rfl
  | cons v st0 ih =>
    show (mRv G v).category + ((st0.map (mRv G)).map fun v => v.category).sum = v.category + (st0.map fun v => v.category).sum
    rw [ih]
    congr 1
    cases v with
    | retAddr k =>
      show (if k < 200 then Value.ref (gS G k) else gU G).category = 1
      by_cases hk : k < 200
      · rw [if_pos hk]; rfl
      · rw [if_neg hk]; exact hU
    | _ => rfl
theorem mS_copy {z : mNx} {idx q : Nat} (hF : mFr G M p s m args meth c) (hq : (mOw M, idx, q) ∈ mAc) (hR : 1 ≤ R.frames ∧ 256 ≤ R.locals) (hd : decode (mB M) pc = .ok (.invokestatic idx, 3)) (hI : mInv G s c0 s0 w H locs cells slots) (hl : mLR G ls l) (hll : l.length = mLn M) (hs : mCopy (pc + 3) l w st = some z)
    (kk : mK p l0 e R s m args below meth c Q G M c0 s0 z) : W p l0 e R s m args below meth c H locs cells slots Q (F0 m pc ls (st.map (mRv G))) := by
  obtain ⟨hx, hb, hml, hown, hts, hlocks, hr, hname, hexc, ⟨hK, hT2⟩, hH, hU, hB⟩ := hF
  obtain ⟨n, dp, a, sp, a0, st0, n0, f, n1, g, rfl, ha0, ha, ⟨h1, h2, h3⟩, h4, h5, h6, rfl⟩ := mCopy_inv hs
  obtain ⟨hal, he⟩ := mArr hI ha
  obtain ⟨hal0, he0⟩ := mArr hI ha0
  have hw : nativeFrameWords "java/lang/System" "arraycopy" 5 + 11 ≤ 240 := by decide
  exact va_copyi (D := gD G) (cl := mCl) (tys := mTys (gT G)) (A := gF G) (H0 := s.heap) hx hb (hml.trans (hll.symm.trans hl.1.symm)) hown (hts _ (wm_ac hq)) (hts _ wo_nat) (hts _ wo_acs) (hts _ wo_sys) hK hI.1 (mWl_D G w) hI.2.2.1 a0 a 0 0 he0 he rfl rfl rfl h1 h2 h3 h4 h5 (fun i _ => rfl) hR.1 (by rw [mRv_sum hU]; omega) hd (fun H1 locs1 hP1 _ hS1 => kk H1 locs1 ls cells slots (hI.up hal rfl hP1 hS1) hl hll)
/-- a new cell lies right behind the others -/
theorem mS_at {H1 : Heap} {locs1 : List Loc} {cells1 slots1 q : Nat} {x : va_E} {g : JFrame} (hI : mInv G s c0 s0 w H locs cells slots) (h0 : w.2.2.2 = 0) (hP : va_P (gD G) mCl (mWl G w ++ [(q, x)]) H1) (hD : va_D (gF G) (mWl G w ++ [(q, x)])) (hc : cells1 = cells + 1)
    (kk : q = gB G + w.2.1 → W p l0 e R s m args below meth c H1 locs1 cells1 slots1 Q g) : W p l0 e R s m args below meth c H1 locs1 cells1 slots1 Q g := by
  intro T hT X
  refine kk ?_ T hT X
  have hz := X.heapSize
  rw [hT] at hz
  obtain ⟨-, -, -, h4, -, h6⟩ := hI
  have h6 := h6 h0
  have hq : (mWl G w ++ [(q, x)])[w.2.1]? = some (q, x) := by
    rw [List.getElem?_append_right (by rw [mWl_len]; exact Nat.le_refl _), mWl_len, Nat.sub_self]
    rfl
  have hlt : q < H1.size := (hP _ _ hq).lt
  have hge : gB G ≤ q := hD.2 _ _ hq
  unfold mNc at h4
  rcases Nat.lt_or_ge q (gB G + w.2.1) with h | h
  · exfalso
    obtain ⟨j, rfl⟩ : ∃ j, q = gB G + j := ⟨q - gB G, by omega⟩
    have hj : j < w.2.1 := by omega
    have hj2 : (mWl G w ++ [(gB G + j, x)])[j]? = some (gB G + j, mRe G (w.1 j)) := by
      rw [List.getElem?_append_left (by rw [mWl_len]; exact hj)]
      exact mWl_at hj
    have := hD.1 _ _ _ _ hq hj2 rfl
    omega
  · omega
theorem mInv.push {H1 : Heap} {locs1 : List Loc} {x : va_E} {n : Nat} (hI : mInv G s c0 s0 w H locs cells slots) (h0 : w.2.2.2 = 0) (hP : va_P (gD G) mCl (mWl G w ++ [(gB G + w.2.1, mRe G x)]) H1) (hS : va_S (gF G) s.heap H1 locs1) : mInv G s c0 s0 (va_up w.1 w.2.1 x, w.2.1 + 1, w.2.2.1 + n, 0) H1 locs1 (cells + 1) (slots + n) := by
  obtain ⟨h1, h2, -, h4, h5, h6⟩ := hI
  obtain ⟨f, k, ns, ex⟩ := w
  dsimp only at h0
  subst h0
  refine ⟨?_, h2.push x _, hS, ?_, ?_, h6⟩
  · rw [mWl_push G f k (ns + n, 0) (ns, 0) x]
    exact hP
  · unfold mNc at h4 ⊢; dsimp only at h4 ⊢; omega
  · unfold mNs at h5 ⊢; dsimp only at h5 ⊢; omega
theorem mS_new {z : mNx} {idx ci : Nat} (hF : mFr G M p s m args meth c) (hq : (mOw M, idx, ci) ∈ mCn) (hci : ci < 13 ∧ ci ≠ 6) (hd : decode (mB M) pc = .ok (.new idx, 3)) (hI : mInv G s c0 s0 w H locs cells slots) (hl : mLR G ls l) (hll : l.length = mLn M) (hs : mNew mDf ci (pc + 3) l w st = some z) (hcap : mNc z.2.2.2 ≤ c0 + R.cells ∧ mNs z.2.2.2 ≤ s0 + R.slots)
    (kk : mK p l0 e R s m args below meth c Q G M c0 s0 z) : W p l0 e R s m args below meth c H locs cells slots Q (F0 m pc ls (st.map (mRv G))) := by
  obtain ⟨hx, hb, hml, hown, hts, hlocks, hr, hname, hexc, ⟨hK, hT2⟩, hH, hU, hB⟩ := hF
  obtain ⟨h0, rfl⟩ := mNew_inv hs
  have h4 := hI.2.2.2.1
  have h5 := hI.2.2.2.2.1
  unfold mNc at h4 hcap
  unfold mNs at h5 hcap
  dsimp only at hcap
  have hN := mDf_len hci.1
  have hmap : (mDf ci).map (mRv G) = mDf ci := by
    have : ∀ ci, ci < 13 → (mDf ci).map (mRv G) = mDf ci := m13 rfl rfl rfl rfl rfl rfl rfl rfl rfl rfl rfl rfl rfl
    exact this ci hci.1
  have hins : (Cond.instantiable (mOn.getD ci "") (mCN ci)) ∈ mTb := by
    have h : ws_ns.contains ci = true := by
      have hc : ((List.range 13).all fun j => j == 6 || ws_ns.contains j) = true := by decide +kernel
      have := List.all_eq_true.mp hc ci (List.mem_range.mpr hci.1)
      simp only [Bool.or_eq_true, beq_iff_eq] at this
      rcases this with h | h
      · exact absurd h hci.2
      · exact h
    exact wm_ns (List.contains_iff_mem.mp h)
  have hini : (Cond.initialized (mOn.getD ci "")) ∈ mTb := by
    have h : ws_ini.contains ci = true := by
      have hc : ((List.range 13).all fun j => ws_ini.contains j) = true := by decide +kernel
      exact List.all_eq_true.mp hc ci (List.mem_range.mpr hci.1)
    exact wm_ini (List.contains_iff_mem.mp h)
  refine va_new (D := gD G) (cl := mCl) (tys := mTys (gT G)) (A := gF G) (H0 := s.heap) (ci := ci) (fs := mDf ci) (C := mOn.getD ci "") (T := mT ci) (N := mCN ci) hx hb hts (mLy_ok hci.1) (mTy ci) (mTy_ok ci hci.1) hown (hts _ (wm_cl hq)) (hts _ hins) (hts _ hini) hK hI.1 (mWl_D G w) hI.2.2.1 (fun q h => Nat.le_trans hB h) (mCl_at ci hci.1) (fun j hj => (mKd_ok hci.1 hj).2) (by omega) (by omega) hd (fun q H1 hP1 hD1 hS1 => ?_)
  refine mS_at hI h0 hP1 hD1 rfl (fun hqe => ?_)
  subst hqe
  have hre : mRe G (.inr (ci, mDf ci)) = .inr (ci, mDf ci) := by
    show Sum.inr (ci, (mDf ci).map (mRv G)) = _
    rw [hmap]
  rw [← hre] at hP1
  have := kk H1 locs ls (cells + 1) (slots + mCN ci) (by rw [← hN]; exact hI.push h0 hP1 hS1) hl hll
  exact this
theorem mS_newa {z : mNx} {t : ArrayType} (hF : mFr G M p s m args meth c) (hd : decode (mB M) pc = .ok (.newarray t, 2)) (hI : mInv G s c0 s0 w H locs cells slots) (hl : mLR G ls l) (hll : l.length = mLn M) (hs : mNewa t (pc + 2) l w st = some z) (hcap : mNc z.2.2.2 ≤ c0 + R.cells ∧ mNs z.2.2.2 ≤ s0 + R.slots)
    (kk : mK p l0 e R s m args below meth c Q G M c0 s0 z) : W p l0 e R s m args below meth c H locs cells slots Q (F0 m pc ls (st.map (mRv G))) := by
  obtain ⟨hx, hb, hml, hown, hts, hlocks, hr, hname, hexc, ⟨hK, hT2⟩, hH, hU, hB⟩ := hF
  obtain ⟨n, st0, k, x, rfl, hty, h0, hn, hb6, rfl⟩ := mNewa_inv hs
  have h4 := hI.2.2.2.1
  have h5 := hI.2.2.2.2.1
  unfold mNc at h4 hcap
  unfold mNs at h5 hcap
  dsimp only at hcap
  have key : ∀ (ty : FieldType) (j : Nat), newarray.typeOf t = ty → (Cond.arrayClass ty) ∈ mTb → (mTys (gT G))[k]? = some (gT G k, ty) → (∀ C, ty ≠ .object C) → (∀ cA : ClassId, vp_cell cA (n.toNatClampNeg, x) = arrV cA n.toNatClampNeg (fun _ => defaultValue ty)) → n.toNatClampNeg * componentBytes ty ≤ 536870912 → mRe G (.inl (k, n.toNatClampNeg, x)) = .inl (gT G k, n.toNatClampNeg, x) →
      W p l0 e R s m args below meth c H locs cells slots Q (F0 m pc ls (.int n :: st0.map (mRv G))) := by
    intro ty j hty2 harr hk hno hcell hbytes hre
    refine va_newa (D := gD G) (cl := mCl) (tys := mTys (gT G)) (A := gF G) (H0 := s.heap) hx hb (by rw [hty2]; exact hts _ harr) hty2 hK hI.1 (mWl_D G w) hI.2.2.1 (fun q h => Nat.le_trans hB h) (a0 := (n.toNatClampNeg, x)) hcell hn rfl hbytes (by omega) (by omega) hd (fun q cA H1 hK1 hP1 hD1 hS1 => ?_)
    have hcA : cA = gT G k := by
      have e1 := (hK1.2 5 (cA, ty) rfl).2
      have e2 := (hK.2 k _ hk).2
      cases ty with
      | object C => exact absurd rfl (hno C)
      | _ => exact Option.some.inj (e1.symm.trans e2)
    subst hcA
    refine mS_at hI h0 hP1 hD1 rfl (fun hqe => ?_)
    subst hqe
    rw [← hre] at hP1
    exact kk H1 locs ls (cells + 1) (slots + n.toNatClampNeg) (hI.push h0 hP1 hS1) hl hll
  cases t with
  | int => cases hty; exact key .int 0 rfl wo_aci rfl (fun _ h => by cases h) (fun _ => rfl) (by show _ * 4 ≤ _; omega) rfl
  | byte => cases hty; exact key .byte 1 rfl wo_acb rfl (fun _ h => by cases h) (fun _ => rfl) (by show _ * 1 ≤ _; omega) rfl
  | long => cases hty; exact key .long 2 rfl wo_acl rfl (fun _ h => by cases h) (fun _ => rfl) (by show _ * 8 ≤ _; omega) rfl
  | _ => cases hty
theorem mS_newq {z : mNx} {idx q0 : Nat} (hF : mFr G M p s m args meth c) (hq : (mOw M, idx, q0) ∈ mAn) (hd : decode (mB M) pc = .ok (.anewarray idx, 3)) (hI : mInv G s c0 s0 w H locs cells slots) (hl : mLR G ls l) (hll : l.length = mLn M) (hs : mNewq (pc + 3) l w st = some z) (hcap : mNc z.2.2.2 ≤ c0 + R.cells ∧ mNs z.2.2.2 ≤ s0 + R.slots)
    (kk : mK p l0 e R s m args below meth c Q G M c0 s0 z) : W p l0 e R s m args below meth c H locs cells slots Q (F0 m pc ls (st.map (mRv G))) := by
  obtain ⟨hx, hb, hml, hown, hts, hlocks, hr, hname, hexc, ⟨hK, hT2⟩, hH, hU, hB⟩ := hF
  obtain ⟨n, st0, rfl, h0, hn, hb6, rfl⟩ := mNewq_inv hs
  have h4 := hI.2.2.2.1
  have h5 := hI.2.2.2.2.1
  unfold mNc at h4 hcap
  unfold mNs at h5 hcap
  dsimp only at hcap
  have hcn : (mOw M, idx, 2) ∈ mCn := by
    have hc : (mAn.all fun e => mCn.contains (e.1, e.2.1, 2)) = true := by decide +kernel
    exact List.contains_iff_mem.mp (List.all_eq_true.mp hc _ hq)
  refine va_newq (D := gD G) (cl := mCl) (tys := mTys (gT G)) (A := gF G) (H0 := s.heap) (C := "MeanMan$Hall") hx hb hown (hts _ (wm_cl hcn)) hT2.2.2.1 hK hI.1 (mWl_D G w) hI.2.2.1 (fun q h => Nat.le_trans hB h) hn rfl (by omega) (by omega) (by omega) hd (fun q cA H1 hK1 hP1 hD1 hS1 => ?_)
  have hcA : cA = gT G 3 := by
    have e1 := (hK1.2 5 (cA, .object "MeanMan$Hall") rfl).2
    have e2 := (hK.2 3 _ rfl).2
    obtain ⟨-, -, -, -, -, f1⟩ := e1
    obtain ⟨-, -, -, -, -, f2⟩ := e2
    exact Option.some.inj (f1.symm.trans f2)
  subst hcA
  refine mS_at hI h0 hP1 hD1 rfl (fun hqe => ?_)
  subst hqe
  exact kk H1 locs ls (cells + 1) (slots + n.toNatClampNeg) (hI.push (x := .inl (3, n.toNatClampNeg, .inr (.inr (.inr (.inr fun _ => none))))) h0 hP1 hS1) hl hll
end STEP
