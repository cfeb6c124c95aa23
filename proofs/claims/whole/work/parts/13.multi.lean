theorem vr_outer (c : ClassId) (N h0 : Nat) : ∀ i : Nat, Jvm.Free.Multi.outerC c N h0 i = arrV c N (fun j => va_rf (if j < i then some (h0 + 1 + j) else none))
  | 0 => by
    show ({ cls := c, slots := Array.replicate N .null, vm := .none } : Cell) = _
    rw [arrV_new]
    refine congrArg (arrV c N) (funext fun j => ?_)
    simp [va_rf]
  | i + 1 => by
    show (Jvm.Free.Multi.outerC c N h0 i).setSlot i (.ref (h0 + 1 + i)) = _
    rw [vr_outer c N h0 i, arrV_store]
    refine congrArg (arrV c N) (funext fun j => ?_)
    by_cases e : j = i
    · subst e
      simp [updV, va_rf]
    · by_cases h : j < i
      · simp [updV, e, h, Nat.lt_succ_of_lt h]
      · simp [updV, e, h, show ¬ j < i + 1 by omega]
section MULTI
variable {p : Program} {l0 : Launch} {e : Env} {R : Room} {s : State} {m : MethodId} {args : Array Value} {below : List Frame} {meth : Method} {c : Code} {H : Heap} {locs : List Loc} {cells slots : Nat} {Q : State → Prop}
variable {G : mG} {M c0 s0 pc len : Nat} {ls : Array Slot} {l st : List Value} {w : mW}
theorem mRows_lo {f : Nat → va_E} {h N K a : Nat} (ha : a < h) : mRows f h N K a = f a := by
  unfold mRows
  rw [if_neg (by omega), if_neg (by omega)]
theorem mRows_at {f : Nat → va_E} {h N K : Nat} : mRows f h N K h = .inl (4, N, .inr (.inr (.inr (.inr fun i => if i < N then some (h + 1 + i) else none)))) := by
  unfold mRows
  rw [if_pos rfl]
theorem mRows_in {f : Nat → va_E} {h N K j : Nat} (hj : j < N) : mRows f h N K (h + 1 + j) = .inl (0, K, .inl fun _ => 0) := by
  unfold mRows
  rw [if_neg (by omega), if_pos (by omega)]
theorem mRows_hi {f : Nat → va_E} {h N K a : Nat} (ha : h + 1 + N ≤ a) : mRows f h N K a = f a := by
  unfold mRows
  rw [if_neg (by omega), if_neg (by omega)]
theorem mS_multi {z : mNx} {idx q0 : Nat} (hF : mFr G M p s m args meth c) (hq : (mOw M, idx, q0) ∈ mMn) (hd : decode (mB M) pc = .ok (.multianewarray idx 2, 4)) (hI : mInv G s c0 s0 w H locs cells slots) (hl : mLR G ls l) (hll : l.length = mLn M) (hs : mMulti (pc + 4) l w st = some z) (hcap : mNc z.2.2.2 ≤ c0 + R.cells ∧ mNs z.2.2.2 ≤ s0 + R.slots)
    (kk : mK p l0 e R s m args below meth c Q G M c0 s0 z) : W p l0 e R s m args below meth c H locs cells slots Q (F0 m pc ls (st.map (mRv G))) := by
  obtain ⟨hx, hb, hml, hown, hts, hlocks, hr, hname, hexc, ⟨hK, hT2⟩, hH, hU, hB⟩ := hF
  obtain ⟨k, n, st0, rfl, h0, hn, hk, hN6, hK6, rfl⟩ := mMulti_inv hs
  obtain ⟨hI1, hI2, hI3, h4, h5, h6⟩ := id hI
  unfold mNc at h4 hcap
  unfold mNs at h5 hcap
  dsimp only at hcap
  refine mSz hI hB (fun hz => ?_)
  have hz := hz.2 h0
  intro T hT Xs
  have hmn : mOn.getD (mOw M) "" = "MeanMan$Bag" ∧ idx = 28 := by
    have hc : (mMn.all fun e => decide (mOn.getD e.1 "" = "MeanMan$Bag" ∧ e.2.1 = 28)) = true := by decide +kernel
    have := List.all_eq_true.mp hc _ hq
    simpa using this
  obtain ⟨ho, rfl⟩ := hmn
  have hcl : (Cond.classLink "MeanMan$Bag" 28 "[[I") ∈ mTb := wo_mna
  have hs2 : ("[" ++ (FieldType.array FieldType.int).toString) = "[[I" := by decide
  obtain ⟨vm₁, cA, comp, -, fA, fC, hO, -, X', step⟩ := Xs.multianewarray2F hx hown (index := 28) (by rw [ho, hs2]; exact hts _ hcl) (ty := .int) (hT2.2.2.2.1) (hts _ wo_aci) (g := F0 m pc ls (.int k :: .int n :: st0.map (mRv G))) rfl (by rw [hb]; exact hd) rfl hn hk (by omega) (by show _ * 4 ≤ _; omega) (by omega) rfl rfl (by omega) (by omega)
  generalize hFF : Jvm.Free.Multi.fill (T.setVm vm₁) cA comp n.toNatClampNeg k.toNatClampNeg (defaultValue .int) n.toNatClampNeg = F at X' step
  have hTh : (T.setVm vm₁).heap = H := hT
  obtain ⟨f1, f2, -, -⟩ := Jvm.Free.Multi.fill_facts (T.setVm vm₁) cA comp n.toNatClampNeg k.toNatClampNeg (defaultValue .int) n.toNatClampNeg
  rw [hFF, hTh] at f1 f2
  have hold : ∀ x : Nat, x < H.size → F.heap[x]? = H[x]? := fun x hx => by
    have := Jvm.Free.Multi.fill_old (T.setVm vm₁) cA comp n.toNatClampNeg k.toNatClampNeg (defaultValue .int) (a := x) (by rw [hTh]; exact hx) n.toNatClampNeg
    rw [hFF, hTh] at this
    exact this
  have hcomp : comp = gT G 0 := Option.some.inj (fC.symm.trans (hK.2 0 _ rfl).2)
  have hcA : cA = gT G 4 := Option.some.inj (fA.symm.trans (hK.2 4 _ rfl).2)
  subst hcomp
  subst hcA
  have hrow : ∀ j : Nat, j < n.toNatClampNeg → F.heap[H.size + 1 + j]? = some (vp_cell (gT G 0) (k.toNatClampNeg, .inl fun _ => 0)) := fun j hj => by
    have := Jvm.Free.Multi.fill_inner (T.setVm vm₁) (gT G 4) (gT G 0) n.toNatClampNeg k.toNatClampNeg (defaultValue .int) n.toNatClampNeg j hj
    rw [hFF, hTh] at this
    rw [this]
    refine congrArg some ?_
    show ({ cls := gT G 0, slots := Array.replicate k.toNatClampNeg (.int 0), vm := .none } : Cell) = _
    rw [arrV_new]
    rfl
  rw [vr_outer] at f2
  have hP : va_P (gD G) mCl (mWl G (mRows w.1 w.2.1 n.toNatClampNeg k.toNatClampNeg, w.2.1 + 1 + n.toNatClampNeg, w.2.2.1 + n.toNatClampNeg + n.toNatClampNeg * k.toNatClampNeg, 0)) F.heap := by
    intro j x hj
    obtain ⟨hj1, rfl⟩ := mWl_of hj
    have hj1 : j < w.2.1 + 1 + n.toNatClampNeg := hj1
    show va_at _ _ (gB G + j, mRe G (mRows w.1 w.2.1 n.toNatClampNeg k.toNatClampNeg j)) F.heap
    rcases Nat.lt_or_ge j w.2.1 with h | h
    · rw [mRows_lo h]
      exact (hI1 j _ (mWl_at h)).kept (hold _ (by show gB G + j < _; omega))
    · rcases Nat.eq_or_lt_of_le h with h | h
      · subst h
        rw [mRows_at]
        show F.heap[gB G + w.2.1]? = some (vp_cell (gT G 4) (n.toNatClampNeg, .inr (.inr (.inr (.inr fun i => ((if i < n.toNatClampNeg then some (w.2.1 + 1 + i) else none) : Option Nat).map fun z => gB G + z)))))
        rw [← hz, f2, vp_cell_q]
        refine congrArg some (congrArg (arrV _ _) (funext fun i => congrArg va_rf ?_))
        by_cases hi : i < n.toNatClampNeg
        · rw [if_pos hi, if_pos hi, hz]
          show some (gB G + w.2.1 + 1 + i) = some (gB G + (w.2.1 + 1 + i))
          congr 1
          omega
        · rw [if_neg hi, if_neg hi]
          rfl
      · obtain ⟨i, rfl⟩ : ∃ i, j = w.2.1 + 1 + i := ⟨j - (w.2.1 + 1), by omega⟩
        rw [mRows_in (by omega)]
        show F.heap[gB G + (w.2.1 + 1 + i)]? = some (vp_cell (gT G 0) (k.toNatClampNeg, .inl fun _ => 0))
        rw [show gB G + (w.2.1 + 1 + i) = H.size + 1 + i by omega]
        exact hrow i (by omega)
  have hS : va_S (gF G) s.heap F.heap locs := ⟨by have := hI3.1; omega, fun q h1 h2 => by rw [hold q (Nat.lt_of_lt_of_le h1 hI3.1)]; exact hI3.2.1 q h1 h2, hI3.2.2⟩
  have hInv : mInv G s c0 s0 (mRows w.1 w.2.1 n.toNatClampNeg k.toNatClampNeg, w.2.1 + 1 + n.toNatClampNeg, w.2.2.1 + n.toNatClampNeg + n.toNatClampNeg * k.toNatClampNeg, 0) F.heap locs (cells + 1 + n.toNatClampNeg) (slots + n.toNatClampNeg + n.toNatClampNeg * k.toNatClampNeg) := by
    refine ⟨hP, fun a ha => ?_, hS, ?_, ?_, fun _ => h6 h0⟩
    · have ha : w.2.1 + 1 + n.toNatClampNeg ≤ a := ha
      show mRows w.1 w.2.1 n.toNatClampNeg k.toNatClampNeg a = _
      rw [mRows_hi ha]
      exact hI2 a (by omega)
    · unfold mNc; dsimp only; omega
    · unfold mNs; dsimp only; omega
  obtain ⟨t, a1, b1⟩ := kk F.heap locs ls (cells + 1 + n.toNatClampNeg) (slots + n.toNatClampNeg + n.toNatClampNeg * k.toNatClampNeg) hInv hl hll F rfl X'
  refine ⟨t, step t ?_, b1⟩
  have hTs : T.heap.size = gB G + w.2.1 := by rw [hT]; exact hz
  rw [hTs]
  exact a1
end MULTI
