/-! THE SMALL MACHINE IS THE MACHINE, 10: what is caught, and the whole -/
/-- the classes that the law's methods catch: their places in its pool, their numbers -/
def mCt : List (Nat × Nat) := [(13, 0), (15, 1), (24, 2), (29, 3), (38, 4)]
def mCx0 (ct : Nat) : Nat := match mCt.find? (fun e => e.1 == ct) with
  | some e => e.2
  | none => 9
theorem wc_0 : (.classLink "MeanManLaw" 13 "java/lang/IllegalArgumentException" : Cond) ∈ mTb := mTb_at (k := 3) (i := 94) (by decide +kernel) rfl
theorem wc_1 : (.classLink "MeanManLaw" 15 "java/lang/UnsupportedOperationException" : Cond) ∈ mTb := mTb_at (k := 3) (i := 95) (by decide +kernel) rfl
theorem wc_2 : (.classLink "MeanManLaw" 24 "java/lang/IndexOutOfBoundsException" : Cond) ∈ mTb := mTb_at (k := 4) (i := 151) (by decide +kernel) rfl
theorem wc_3 : (.classLink "MeanManLaw" 29 "java/util/NoSuchElementException" : Cond) ∈ mTb := mTb_at (k := 4) (i := 185) (by decide +kernel) rfl
theorem wc_4 : (.classLink "MeanManLaw" 38 "java/lang/IllegalStateException" : Cond) ∈ mTb := mTb_at (k := 4) (i := 217) (by decide +kernel) rfl
theorem mCt_ok {e : Nat × Nat} (h : e ∈ mCt) : (.classLink "MeanManLaw" e.1 (mExn.getD e.2 "") : Cond) ∈ mTb ∧ mExn.getD e.2 "" ∈ mExn ∧ e.2 < 5 ∧ e.1 ≠ 0 := by
  simp only [mCt, List.mem_cons, List.not_mem_nil, or_false] at h
  rcases h with rfl | rfl | rfl | rfl | rfl
  · exact ⟨wc_0, by decide, by decide, by decide⟩
  · exact ⟨wc_1, by decide, by decide, by decide⟩
  · exact ⟨wc_2, by decide, by decide, by decide⟩
  · exact ⟨wc_3, by decide, by decide, by decide⟩
  · exact ⟨wc_4, by decide, by decide, by decide⟩
theorem mCst_ok : ((List.range 5).all fun x => decide ((.castable (mExn.getD x "") (mExn.getD x "") : Cond) ∈ mXv)) = true := by decide +kernel
theorem mExn_ne : ((List.range 5).all fun x => (List.range 5).all fun y => decide (x = y) || decide (mExn.getD x "" ≠ mExn.getD y "")) = true := by decide
theorem mHf_mem {M pc E : Nat} {z : Nat × Nat} : ∀ {t : List (Nat × Nat × Nat × Nat × Nat × Nat)}, mHf M pc E t = some z → ∃ a b, (M, a, b, E, z.1, z.2) ∈ t ∧ a ≤ pc ∧ pc < b
  | [], h => by cases h
  | (M1, a, b, E1, h1, j) :: r, h => by
    unfold mHf at h
    by_cases hc : M1 = M ∧ a ≤ pc ∧ pc < b ∧ E1 = E
    · rw [if_pos hc] at h
      obtain ⟨rfl, h2, h3, rfl⟩ := hc
      cases h
      exact ⟨a, b, List.mem_cons_self, h2, h3⟩
    · rw [if_neg hc] at h
      obtain ⟨a', b', h1, h2⟩ := mHf_mem h
      exact ⟨a', b', List.mem_cons_of_mem _ h1, h2⟩
theorem mHf_none {M pc E : Nat} : ∀ {t : List (Nat × Nat × Nat × Nat × Nat × Nat)}, mHf M pc E t = none → ∀ e ∈ t, ¬ (e.1 = M ∧ e.2.1 ≤ pc ∧ pc < e.2.2.1 ∧ e.2.2.2.1 = E)
  | [], _, e, he => by cases he
  | (M1, a, b, E1, h1, j) :: r, h, e, he => by
    unfold mHf at h
    by_cases hc : M1 = M ∧ a ≤ pc ∧ pc < b ∧ E1 = E
    · rw [if_pos hc] at h; cases h
    · rw [if_neg hc] at h
      rcases List.mem_cons.mp he with rfl | he
      · exact hc
      · exact mHf_none h e he
/-- a row of the handlers is a row of its method's table: the first of its class -/
def mCkr (e : Nat × Nat × Nat × Nat × Nat × Nat) : Bool := (List.range (mHt e.1).length).any fun k => match (mHt e.1)[k]? with
  | some z => Nat.beq z.1 e.2.1 && Nat.beq z.2.1 e.2.2.1 && mCt.contains (z.2.2.2, e.2.2.2.1) && ((mHt e.1).take k).all (fun y => mCt.any fun q => Nat.beq q.1 y.2.2.2 && !Nat.beq q.2 e.2.2.2.1) &&
    ((mIsOk (mB e.1) z.2.2.1 (.astore e.2.2.2.2.2) 2 && Nat.beq e.2.2.2.2.1 (z.2.2.1 + 2)) || (Nat.blt e.2.2.2.2.2 4 && mIsOk (mB e.1) z.2.2.1 (.astore_n (Fin.ofNat 4 e.2.2.2.2.2)) 1 && Nat.beq e.2.2.2.2.1 (z.2.2.1 + 1)))
  | none => false
theorem mCkr_all : mHs.all mCkr = true := by decide +kernel
theorem mCkt_all : (mHts.all fun e => e.2.all fun z => mCt.any fun q => Nat.beq q.1 z.2.2.2 && mHs.any fun r => Nat.beq r.1 e.1 && Nat.beq r.2.1 z.1 && Nat.beq r.2.2.1 z.2.1 && Nat.beq r.2.2.2.1 q.2) = true := by decide +kernel
theorem mOw_h : (mHts.all fun e => decide (mOn.getD (mOw e.1) "" = "MeanManLaw")) = true := by decide +kernel
theorem mHt_mem {M : Nat} {z : Nat × Nat × Nat × Nat} (h : z ∈ mHt M) : (M, mHt M) ∈ mHts := by
  unfold mHt at h ⊢
  split at h
  · rename_i e he
    have h1 := List.mem_of_find?_eq_some he
    have h2 := List.find?_some he
    simp only [beq_iff_eq] at h2
    rw [← h2]
    exact h1
  · cases h
section SOUND
variable {p : Program} {l0 : Launch} {e : Env} {R : Room} {s : State} {m : MethodId} {args : Array Value} {below : List Frame} {meth : Method} {c : Code} {H : Heap} {locs : List Loc} {cells slots : Nat} {Q : State → Prop}
variable {G : mG} {n d M M' k c0 s0 pc : Nat} {ls : Array Slot} {l st : List Value} {w w1 w' : mW} {E E1 : mEnd}
theorem mPass {x y : Nat} {q : Nat × Nat} (hF : mFr G M p s m args meth c) (ho : mOn.getD (mOw M) "" = "MeanManLaw") (hq : q ∈ mCt) (hx : x < 5) (hne : q.2 ≠ x) (hy : q.1 = y) : y ≠ 0 ∧ ∃ nm : String, (Cond.classLink (mOn.getD (mOw M) "") y nm).before args s = true ∧ va_Nc (mExn.getD x "") nm s := by
  obtain ⟨c1, c2, c3, c4⟩ := mCt_ok hq
  rw [← hy, ho]
  refine ⟨c4, mExn.getD q.2 "", hF.2.2.2.2.1 _ c1, ?_⟩
  have h1 := List.all_eq_true.mp (List.all_eq_true.mp mExn_ne x (List.mem_range.mpr hx)) q.2 (List.mem_range.mpr c3)
  simp only [Bool.or_eq_true, decide_eq_true_eq] at h1
  rcases h1 with h1 | h1
  · exact absurd h1.symm hne
  · have hxm : mExn.getD x "" ∈ mExn := by
      rcases (show x = 0 ∨ x = 1 ∨ x = 2 ∨ x = 3 ∨ x = 4 by omega) with rfl | rfl | rfl | rfl | rfl <;> decide
    exact hF.2.2.2.2.2.2.2.2.2.1.2.2.2.2.2.1 _ hxm _ c2 h1
/-- an exception that is caught -/
theorem mCaught {x pc' j : Nat} {rest : List Value} {q : Addr} {ce : Cell} (hF : mFr G M p s m args meth c) (hh : mHd M pc x = some (pc', j)) (hl : mLR G ls l) (hj : j < l.length) (hcell : H[q]? = some ce) (hv : ce.vm = .none) (hcl : s.vm.findClass (mExn.getD x "") = some ce.cls)
    (kk : ∀ ls1 : Array Slot, mLR G ls1 (l.set j (.double 0)) → W p l0 e R s m args below meth c H locs cells slots Q (F0 m pc' ls1 [])) : vx_W p l0 e R s m args below meth c H locs cells slots Q (F0 m pc ls rest) q := by
  obtain ⟨a, b, hm, ha, hb⟩ := mHf_mem hh
  have hU : (gU G).category = 1 := hF.2.2.2.2.2.2.2.2.2.2.2.1
  have h1 := List.all_eq_true.mp mCkr_all _ hm
  unfold mCkr at h1
  rw [List.any_eq_true] at h1
  obtain ⟨i, -, h1⟩ := h1
  dsimp only at h1
  split at h1
  · rename_i z hz
    simp only [Bool.and_eq_true, Nat.beq_eq, List.contains_iff_mem] at h1
    obtain ⟨⟨⟨⟨z1, z2⟩, z3⟩, z4⟩, z5⟩ := h1
    obtain ⟨c1, c2, c3, c4⟩ := mCt_ok z3
    have hzm : z ∈ mHt M := List.mem_of_getElem? hz
    have ho := List.all_eq_true.mp mOw_h _ (mHt_mem hzm)
    simp only [decide_eq_true_eq] at ho
    have hsp : c.exceptionTable.toList = tableOf ((mHt M).take i) ++ ⟨z.1, z.2.1, z.2.2.1, z.2.2.2⟩ :: tableOf ((mHt M).drop (i + 1)) := by
      rw [hF.2.2.2.2.2.2.2.2.1]
      have hi := (List.getElem?_eq_some_iff.mp hz)
      obtain ⟨hi1, hi2⟩ := hi
      conv => lhs; rw [← List.take_append_drop i (mHt M), List.drop_eq_getElem_cons hi1, hi2]
      unfold tableOf
      rw [List.map_append, List.map_cons]
    have hca : (Cond.castable (mExn.getD x "") (mExn.getD x "")).before args s = true := by
      have h2 := List.all_eq_true.mp mCst_ok x (List.mem_range.mpr c3)
      simp only [decide_eq_true_eq] at h2
      have h3 := List.all_eq_true.mp mXv_ok _ h2
      simp only [Bool.and_eq_true] at h3
      exact va_Nw.use h3.1 (hF.2.2.2.2.2.2.2.2.2.1.2.2.1 _ h2)
    refine vx_catch (own := mOn.getD (mOw M) "") (name := mExn.getD x "") (E := mExn.getD x "") hF.2.2.2.1 _ _ _ hsp (fun y hy => Or.inr ?_) ?_ c4 (by rw [ho]; exact hF.2.2.2.2.1 _ c1) hca hcell hv hcl ?_
    · unfold tableOf at hy
      obtain ⟨u, hu, rfl⟩ := List.mem_map.mp hy
      have h2 := List.all_eq_true.mp z4 u hu
      rw [List.any_eq_true] at h2
      obtain ⟨t, ht, h2⟩ := h2
      simp only [Bool.and_eq_true, Nat.beq_eq, Bool.not_eq_true'] at h2
      exact mPass hF ho ht c3 (fun h => by rw [h] at h2; have := h2.2; simp at this) h2.1
    · show (decide (z.1 ≤ pc) && decide (pc < z.2.1)) = true
      simp only [Bool.and_eq_true, decide_eq_true_eq]
      have z1 : z.1 = a := z1
      have z2 : z.2.1 = b := z2
      omega
    · simp only [Bool.or_eq_true, Bool.and_eq_true, Nat.beq_eq, Nat.blt_eq] at z5
      rcases z5 with ⟨y1, y2⟩ | ⟨⟨y0, y1⟩, y2⟩
      · have y2 : pc' = z.2.2.1 + 2 := y2
        exact lv_astore hF.1 hF.2.1 (mIsOk_ok y1) hl.has hj rfl (fun ls1 h1 => by rw [← y2]; exact kk ls1 (mLR.put hU hj (fun hc => by cases hc) h1))
      · have y2 : pc' = z.2.2.1 + 1 := y2
        exact lv_astore_n hF.1 hF.2.1 (mIsOk_ok y1) (by show j % 4 = j; exact Nat.mod_eq_of_lt y0) hl.has hj rfl (fun ls1 h1 => by rw [← y2]; exact kk ls1 (mLR.put hU hj (fun hc => by cases hc) h1))
  · cases h1
/-- one that isn't -/
theorem mOutside {x : Nat} {rest : List Value} {q : Addr} {ce : Cell} {Qc : Array Value → State → Outcome → State → Prop} {XC : String → State → State → Prop} {mc ms : Nat} (hF : mFr G M p s m args meth c) (hx5 : x < 5) (hh : mHd M pc x = none) (hI : mInv G s c0 s0 w1 H locs cells slots) (hcell : H[q]? = some ce) (hv : ce.vm = .none) (hcl : s.vm.findClass (mExn.getD x "") = some ce.cls)
    (hX : ∀ t : State, s.vm.Alike t.vm → va_P (gD G) mCl (mWl G w1) t.heap → va_F (gF G) s t → XC (mExn.getD x "") s t) (hc : cells ≤ mc) (hs : slots ≤ ms) : vx_W p l0 e R s m args below meth c H locs cells slots (vx_MQ below Qc XC args s mc ms (gF G)) (F0 m pc ls rest) q := by
  refine vx_outP (own := mOn.getD (mOw M) "") (E := mExn.getD x "") hF.2.2.2.1 hF.2.2.2.2.2.1 (fun y hy => ?_) hcell hv hcl (fun t ht hW => hX t hW (by rw [ht]; exact hI.1) (hI.2.2.1.F ht)) hI.2.2.1.2.2 hc hs
  rw [hF.2.2.2.2.2.2.2.2.1] at hy
  unfold tableOf at hy
  obtain ⟨u, hu, rfl⟩ := List.mem_map.mp hy
  have hm := mHt_mem hu
  have ho := List.all_eq_true.mp mOw_h _ hm
  simp only [decide_eq_true_eq] at ho
  have h1 := List.all_eq_true.mp (List.all_eq_true.mp mCkt_all _ hm) u hu
  simp only [List.any_eq_true, Bool.and_eq_true, Nat.beq_eq] at h1
  obtain ⟨t, ht, t1, r, hr, ⟨⟨r1, r2⟩, r3⟩, r4⟩ := h1
  by_cases hcv : u.1 ≤ pc ∧ pc < u.2.1
  · by_cases hne : t.2 = x
    · exact absurd ⟨r1, by rw [r2]; exact hcv.1, by rw [r3]; exact hcv.2, r4.trans hne⟩ (mHf_none hh r hr)
    · exact Or.inr (mPass hF ho ht hx5 hne t1)
  · left
    show (decide (u.1 ≤ pc) && decide (pc < u.2.1)) = false
    by_cases h3 : u.1 ≤ pc
    · by_cases h4 : pc < u.2.1
      · exact absurd ⟨h3, h4⟩ hcv
      · simp [h4]
    · simp [h3]
end SOUND
