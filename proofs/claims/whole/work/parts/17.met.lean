/-! THE SMALL MACHINE IS THE MACHINE, 7: contracts of the methods, calls -/
/-- a contract out of the walk of a body, for Math's methods too -/
theorem mOfW {l : Launch} {y : MethodName} {ws ws' : List Cond} {rm : Room} {Pc : Array Value → State → Prop} {Qc : Array Value → State → Outcome → State → Prop} {mc ms : Nat} {free : Addr → Prop} {cc : ByteArray} {maxL : Nat} {ret : Option FieldType}
    (hy : plainFor y = true) (hw : ws = Cond.code y cc maxL ret :: ws')
    (body : ∀ p e s m args below meth c s₁, BodyLoose p l y (headSpec ws rm) cc maxL ret e s m args below meth c s₁ → c.maxLocals = maxL → Pc args s →
      W p l e (headSpec ws rm).room s m args below meth c s.heap [] 0 0 (MQ below Qc args s mc ms free) (entryFrame m args maxL)) : Met l y ws rm Pc Qc mc ms free := by
  refine MetFree.of_bodySF (code := cc) (maxLocals := maxL) (ret := ret) hy ?_ ?_
  · intro args s m h hn
    obtain ⟨meth, c, h1, h2, h3, h4, h5, h6, -, -⟩ := Cond.code_spec hn (atoms_spec (ws := ws) h _ (by rw [hw]; exact List.mem_cons_self))
    exact ⟨meth, c, h1, h2, h3, h4, h5, h6⟩
  · intro p e s m args below meth c s₁ B hml hP _
    have hh0 : s₁.heap = s.heap := by rw [B.state]; rfl
    obtain ⟨t, a1, o, b1, b2, b3⟩ := body p e s m args below meth c s₁ B hml hP s₁ hh0 (Stand.of_body B)
    exact ⟨t, o, a1, b1, b2, ⟨b3.1, b3.2⟩⟩
theorem mOfX {l : Launch} {y : MethodName} {ws ws' : List Cond} {rm : Room} {Pc : Array Value → State → Prop} {Qc : Array Value → State → Outcome → State → Prop} {XC : String → State → State → Prop} {mc ms : Nat} {free : Addr → Prop} {cc : ByteArray} {maxL : Nat} {ret : Option FieldType}
    (hy : plainFor y = true) (hw : ws = Cond.code y cc maxL ret :: ws')
    (body : ∀ p e s m args below meth c s₁, BodyLoose p l y (headSpec ws rm) cc maxL ret e s m args below meth c s₁ → c.maxLocals = maxL → (∀ x ∈ c.exceptionTable.toList, False) → Pc args s →
      W p l e (headSpec ws rm).room s m args below meth c s.heap [] 0 0 (vx_MQ below Qc XC args s mc ms free) (entryFrame m args maxL)) : vx_Met l y ws rm Pc Qc XC mc ms free := by
  refine MetFree.of_bodySF (code := cc) (maxLocals := maxL) (ret := ret) hy ?_ ?_
  · intro args s m h hn
    obtain ⟨meth, c, h1, h2, h3, h4, h5, h6, -, -⟩ := Cond.code_spec hn (atoms_spec (ws := ws) h _ (by rw [hw]; exact List.mem_cons_self))
    exact ⟨meth, c, h1, h2, h3, h4, h5, h6⟩
  · intro p e s m args below meth c s₁ B hml hP _
    have hh0 : s₁.heap = s.heap := by rw [B.state]; rfl
    have ht : ∀ x ∈ c.exceptionTable.toList, False := by
      have h7 := BodyLoose.noHandlers B (atoms_spec (ws := ws) B.pre _ (by rw [hw]; exact List.mem_cons_self))
      intro x hx
      rw [Array.isEmpty_iff.mp h7] at hx
      cases hx
    obtain ⟨t, a1, o, b1, b2, b3⟩ := body p e s m args below meth c s₁ B hml ht hP s₁ hh0 (Stand.of_body B)
    exact ⟨t, o, a1, b1, b2, b3⟩
theorem mOfH {l : Launch} {y : MethodName} {ws ws' : List Cond} {rm : Room} {Pc : Array Value → State → Prop} {Qc : Array Value → State → Outcome → State → Prop} {XC : String → State → State → Prop} {mc ms : Nat} {free : Addr → Prop} {cc : ByteArray} {maxL : Nat} {ret : Option FieldType} {hh : List (Nat × Nat × Nat × Nat)}
    (hy : plainFor y = true) (hw : ws = Cond.codeWith y cc maxL ret hh :: ws')
    (body : ∀ p e s m args below meth c s₁, BodyLoose p l y (headSpec ws rm) cc maxL ret e s m args below meth c s₁ → c.maxLocals = maxL → Pc args s →
      W p l e (headSpec ws rm).room s m args below meth c s.heap [] 0 0 (vx_MQ below Qc XC args s mc ms free) (entryFrame m args maxL)) : vx_Met l y ws rm Pc Qc XC mc ms free := by
  refine MetFree.of_bodySF (code := cc) (maxLocals := maxL) (ret := ret) hy ?_ ?_
  · intro args s m h hn
    obtain ⟨m9, meth, c, hn9, h1, h2, h3, h4, -, h5, h6, -⟩ := Cond.codeWith_spec (atoms_spec (ws := ws) h _ (by rw [hw]; exact List.mem_cons_self))
    cases hn.symm.trans hn9
    exact ⟨meth, c, h1, h2, h3, h4, h5, h6⟩
  · intro p e s m args below meth c s₁ B hml hP _
    have hh0 : s₁.heap = s.heap := by rw [B.state]; rfl
    obtain ⟨t, a1, o, b1, b2, b3⟩ := body p e s m args below meth c s₁ B hml hP s₁ hh0 (Stand.of_body B)
    exact ⟨t, o, a1, b1, b2, b3⟩
def mMck (M : Nat) : Bool := (plainName (mY M).cls || (decide ((mY M).cls = "java/lang/Math") && !Jvm.Free.JP.floatDescs.contains (mY M).desc)) && decide ((mY M).cls = mOn.getD (mOw M) "") && decide ((mY M).cls ≠ "java/lang/invoke/MethodHandle") && decide ((mY M).cls ≠ "java/lang/invoke/VarHandle") && ws_ini.contains (mOw M) && Nat.ble (mLn M) 45 && Nat.ble (mNa M) (mLn M) &&
  decide ((parseMethodDescriptor (mY M).desc).map (fun d => d.parameters.length) = some (if ws_st.contains M then mNa M else mNa M - 1)) && (ws_st.contains M || (ws_in.contains M && Nat.ble 1 (mNa M))) && ((ws_c.contains M && decide (mHt M = [])) || ws_h.contains M)
theorem mMck_all : ((List.range 346).all fun M => Nat.beq M 0 || mMck M) = true := by decide +kernel
/-- what is known of a method -/
theorem mM_ok {M : Nat} (h0 : M ≠ 0) (hM : M < 346) : plainFor (mY M) = true ∧ (mY M).cls = mOn.getD (mOw M) "" ∧ (mY M).cls ≠ "java/lang/invoke/MethodHandle" ∧ (mY M).cls ≠ "java/lang/invoke/VarHandle" ∧ (.initialized (mY M).cls : Cond) ∈ mTb ∧ mLn M ≤ 45 ∧ mNa M ≤ mLn M ∧
    ((parseMethodDescriptor (mY M).desc).map (fun d => d.parameters.length) = some (if ws_st.contains M then mNa M else mNa M - 1)) ∧ (M ∈ ws_st ∨ (ws_st.contains M = false ∧ M ∈ ws_in ∧ 1 ≤ mNa M)) ∧ ((M ∈ ws_c ∧ mHt M = []) ∨ M ∈ ws_h) := by
  have h := List.all_eq_true.mp mMck_all M (List.mem_range.mpr hM)
  simp only [Bool.or_eq_true, Nat.beq_eq] at h
  rcases h with h | h
  · exact absurd h h0
  · unfold mMck at h
    simp only [Bool.and_eq_true, Bool.or_eq_true, decide_eq_true_eq, Nat.ble_eq] at h
    obtain ⟨⟨⟨⟨⟨⟨⟨⟨⟨a1, a2⟩, a3⟩, a4⟩, a5⟩, a6⟩, a7⟩, a8⟩, a9⟩, a10⟩ := h
    refine ⟨?_, a2, a3, a4, ?_, a6, a7, a8, ?_, ?_⟩
    · rcases a1 with a1 | ⟨a1, a1'⟩
      · exact plainFor_of_name a1
      · exact Jvm.Free.JP.mathPlain a1 (by simpa using a1')
    · rw [a2]; exact wm_ini (List.contains_iff_mem.mp a5)
    · by_cases hs : ws_st.contains M = true
      · exact Or.inl (List.contains_iff_mem.mp hs)
      · rcases a9 with a9 | a9
        · exact absurd a9 hs
        · exact Or.inr ⟨by simpa using hs, List.contains_iff_mem.mp a9.1, a9.2⟩
    · rcases a10 with a10 | a10
      · exact Or.inl ⟨List.contains_iff_mem.mp a10.1, a10.2⟩
      · exact Or.inr (List.contains_iff_mem.mp a10)
theorem mGood_c {M : Nat} (h : M ∈ ws_c) : GoodIn mTb (.code (mY M) (mB M) (mLn M) (mRt M) :: mTb) := fun w hw => by
  rcases List.mem_cons.mp hw with rfl | hw
  · exact ⟨wm_c h, good_of_word rfl⟩
  · exact ⟨hw, good_of_word (mTb_good hw)⟩
theorem mGood_h {M : Nat} (h : M ∈ ws_h) : GoodIn mTb (.codeWith (mY M) (mB M) (mLn M) (mRt M) (mHt M) :: mTb) := fun w hw => by
  rcases List.mem_cons.mp hw with rfl | hw
  · exact ⟨wm_h h, good_of_word rfl⟩
  · exact ⟨hw, good_of_word (mTb_good hw)⟩
section MET
variable {p : Program} {l0 : Launch} {e : Env} {R : Room} {s : State} {m : MethodId} {args : Array Value} {below : List Frame} {meth : Method} {c : Code} {H : Heap} {locs : List Loc} {cells slots : Nat} {Q : State → Prop}
variable {G : mG} {n d M c0 s0 pc len : Nat} {ls : Array Slot} {l st as : List Value} {w w1 : mW} {E : mEnd} {s₁ : State} {ws : List Cond} {rm : Room}
theorem mFr_of (h0 : M ≠ 0) (hM : M < 346) (B : BodyLoose p l0 (mY M) (headSpec ws rm) (mB M) (mLn M) (mRt M) e s m args below meth c s₁) (hml : c.maxLocals = mLn M) (hws : ∀ w ∈ mTb, w ∈ ws) (hex : c.exceptionTable.toList = tableOf (mHt M)) (hS : mSta G s) : mFr G M p s m args meth c := by
  have hts := atoms_spec (ws := ws) B.pre
  have hown := findClass_of_methodNamed B.named
  rw [(mM_ok h0 hM).2.1] at hown
  exact ⟨B.exec, B.bytes, hml, hown, fun w hw => hts w (hws w hw), B.notSynchronized, B.returns, (name_of_methodNamed B.named B.method).1, hex, hS⟩
/-- a method's body, from its start -/
theorem mBody (IH : mSound n) (htr : l0.stackTraces = false) (hgo : mGo (gA G) n d M 0 (mLoc M as) [] w = some (E, w1)) (hc : ∀ u ∈ as, u.category = 1) (hlen : as.length ≤ mLn M) (hF : mFr G M p s m args meth c) (hv : mPc G as w args s)
    (kR : ∀ v, E = .inl v → ∀ (pc' : Nat) (ls' : Array Slot) (H' : Heap) (locs' : List Loc), va_P (gD G) mCl (mWl G w1) H' → va_S (gF G) s.heap H' locs' → (v = none → mRt M = none ∧ decode (mB M) pc' = .ok (.return_, 1)) → (∀ x, v = some x → decode (mB M) pc' = .ok (.ireturn, 1) ∧ ∃ k ty, x = .int k ∧ mRt M = some ty ∧ narrow ty (.int k) = .int k) → W p l0 e (mRm d (mNc w1 - mNc w) (mNs w1 - mNs w)) s m args below meth c H' locs' (mNc w1 - mNc w) (mNs w1 - mNs w) Q (F0 m pc' ls' (v.toList.map (mRv G))))
    (kX : ∀ x, E = .inr x → ∃ (Qc : Array Value → State → Outcome → State → Prop) (XC : String → State → State → Prop), Q = vx_MQ below Qc XC args s (mNc w1 - mNc w) (mNs w1 - mNs w) (gF G) ∧ (∀ t : State, s.vm.Alike t.vm → va_P (gD G) mCl (mWl G w1) t.heap → va_F (gF G) s t → XC (mExn.getD x "") s t)) :
    W p l0 e (mRm d (mNc w1 - mNc w) (mNs w1 - mNs w)) s m args below meth c s.heap [] 0 0 Q (entryFrame m args (mLn M)) := by
  obtain ⟨rfl, hS, hP, hD, hz⟩ := hv
  have hU : (gU G).category = 1 := hS.2.2.1
  obtain ⟨mo1, mo2⟩ := mGo_mono hgo
  rw [lg_entry_eq]
  have hcn : mNc w1 = mNc w + (mNc w1 - mNc w) := by omega
  have hsn : mNs w1 = mNs w + (mNs w1 - mNs w) := by omega
  refine IH (d := d) (M := M) (pc := 0) (st := []) hgo (c0 := mNc w) (s0 := mNs w) hF htr ⟨hP, hD, va_S.rf, rfl, rfl, fun h => ?_⟩ (mLR.entry hU hc hlen) ?_ ⟨by show mNc w1 ≤ mNc w + (mNc w1 - mNc w); omega, by show mNs w1 ≤ mNs w + (mNs w1 - mNs w); omega⟩ ⟨Nat.le_refl _, Nat.le_refl _⟩ (fun v hE pc' ls' H' locs' cells' slots' hI' h1 h2 => ?_) (fun x hE => ?_)
  · have := hz h
    unfold mNc
    omega
  · unfold mLoc
    rw [List.length_append, List.length_replicate]
    omega
  · obtain ⟨i1, -, i3, i4, i5, -⟩ := hI'
    have e1 : cells' = mNc w1 - mNc w := by omega
    have e2 : slots' = mNs w1 - mNs w := by omega
    subst e1
    subst e2
    exact kR v hE pc' ls' H' locs' i1 i3 h1 h2
  · obtain ⟨Qc, XC, h1, h2⟩ := kX x hE
    exact ⟨Qc, XC, _, _, h1, h2, hcn, hsn⟩
/-- the end of a body that returns -/
theorem mRet {v : Option Value} {free : Addr → Prop} {Qc : Array Value → State → Outcome → State → Prop} {pc' : Nat} {ls' : Array Slot} {H' : Heap} {locs' : List Loc} (hF : mFr G M p s m args meth c) (hq : ∀ t : State, t.heap = H' → s.WarmedH t.vm → Qc args s (.returned (v.map (mRv G))) t) (hf : ∀ q ∈ locs', free q.base) (h1 : v = none → mRt M = none ∧ decode (mB M) pc' = .ok (.return_, 1)) (h2 : ∀ x, v = some x → decode (mB M) pc' = .ok (.ireturn, 1) ∧ ∃ k ty, x = .int k ∧ mRt M = some ty ∧ narrow ty (.int k) = .int k) :
    W p l0 e R s m args below meth c H' locs' cells slots (MQ below Qc args s cells slots free) (F0 m pc' ls' (v.toList.map (mRv G))) := by
  obtain ⟨hx, hb, hml, hown, hts, hlocks, hr, hname, hexc, hS⟩ := hF
  cases v with
  | none =>
    obtain ⟨h3, h4⟩ := h1 rfl
    exact W.vret hx hb (hr.trans h3) hq hf h4
  | some x =>
    obtain ⟨h3, k, ty, rfl, h4, h5⟩ := h2 x rfl
    exact W.zret hx hb (hr.trans h4) h5 hq hf h3
theorem mMet {v : Option Value} (IH : mSound n) (htr : l0.stackTraces = false) (h0 : M ≠ 0) (hM : M < 346) (hp : M ∈ ws_c ∧ mHt M = []) (hgo : mGo (gA G) n d M 0 (mLoc M as) [] w = some (.inl v, w1)) (hc : ∀ u ∈ as, u.category = 1) (hlen : as.length ≤ mLn M) :
    Met l0 (mY M) (.code (mY M) (mB M) (mLn M) (mRt M) :: mTb) (mRm d (mNc w1 - mNc w) (mNs w1 - mNs w)) (mPc G as w) (mQc G (.inl v) w1) (mNc w1 - mNc w) (mNs w1 - mNs w) (gF G) := by
  refine mOfW (cc := mB M) (maxL := mLn M) (ret := mRt M) (mM_ok h0 hM).1 rfl ?_
  intro p e s m args below meth c s₁ B hml hv
  have hex : c.exceptionTable.toList = tableOf (mHt M) := by
    have h := BodyLoose.noHandlers B (atoms_spec (ws := .code (mY M) (mB M) (mLn M) (mRt M) :: mTb) B.pre _ List.mem_cons_self)
    rw [hp.2, Array.isEmpty_iff.mp h]
    rfl
  have hF := mFr_of h0 hM B hml (fun w hw => List.mem_cons_of_mem _ hw) hex hv.2.1
  refine mBody IH htr hgo hc hlen hF hv (fun v' hE pc' ls' H' locs' hP' hS' h1 h2 => ?_) (fun x hE => by cases hE)
  cases hE
  exact mRet hF (fun t ht hW => ⟨v, rfl, rfl, by rw [ht]; exact hP', hS'.F ht⟩) hS'.2.2 h1 h2
theorem mMetX (IH : mSound n) (htr : l0.stackTraces = false) (h0 : M ≠ 0) (hM : M < 346) (hp : M ∈ ws_c ∧ mHt M = []) (hgo : mGo (gA G) n d M 0 (mLoc M as) [] w = some (E, w1)) (hc : ∀ u ∈ as, u.category = 1) (hlen : as.length ≤ mLn M) :
    vx_Met l0 (mY M) (.code (mY M) (mB M) (mLn M) (mRt M) :: mTb) (mRm d (mNc w1 - mNc w) (mNs w1 - mNs w)) (mPc G as w) (mQc G E w1) (mXc G E w1) (mNc w1 - mNc w) (mNs w1 - mNs w) (gF G) := by
  refine mOfX (cc := mB M) (maxL := mLn M) (ret := mRt M) (mM_ok h0 hM).1 rfl ?_
  intro p e s m args below meth c s₁ B hml htab hv
  have hex : c.exceptionTable.toList = tableOf (mHt M) := by
    rw [hp.2]
    exact List.eq_nil_iff_forall_not_mem.mpr fun x hx => htab x hx
  have hF := mFr_of h0 hM B hml (fun w hw => List.mem_cons_of_mem _ hw) hex hv.2.1
  refine mBody IH htr hgo hc hlen hF hv (fun v hE pc' ls' H' locs' hP' hS' h1 h2 => ?_) (fun x hE => ⟨_, _, rfl, fun t ht hP' hS' => ⟨x, hE, rfl, hP', hS'⟩⟩)
  exact vx_ret (mRet hF (fun t ht hW => ⟨v, hE, rfl, by rw [ht]; exact hP', hS'.F ht⟩) hS'.2.2 h1 h2)
theorem mMetH (IH : mSound n) (htr : l0.stackTraces = false) (h0 : M ≠ 0) (hM : M < 346) (hp : M ∈ ws_h) (hgo : mGo (gA G) n d M 0 (mLoc M as) [] w = some (E, w1)) (hc : ∀ u ∈ as, u.category = 1) (hlen : as.length ≤ mLn M) :
    vx_Met l0 (mY M) (.codeWith (mY M) (mB M) (mLn M) (mRt M) (mHt M) :: mTb) (mRm d (mNc w1 - mNc w) (mNs w1 - mNs w)) (mPc G as w) (mQc G E w1) (mXc G E w1) (mNc w1 - mNc w) (mNs w1 - mNs w) (gF G) := by
  refine mOfH (cc := mB M) (maxL := mLn M) (ret := mRt M) (hh := mHt M) (mM_ok h0 hM).1 rfl ?_
  intro p e s m args below meth c s₁ B hml hv
  have hex : c.exceptionTable.toList = tableOf (mHt M) := vx_table (x := mY M) B (atoms_spec (ws := .codeWith (mY M) (mB M) (mLn M) (mRt M) (mHt M) :: mTb) B.pre _ List.mem_cons_self)
  have hF := mFr_of h0 hM B hml (fun w hw => List.mem_cons_of_mem _ hw) hex hv.2.1
  refine mBody IH htr hgo hc hlen hF hv (fun v hE pc' ls' H' locs' hP' hS' h1 h2 => ?_) (fun x hE => ⟨_, _, rfl, fun t ht hP' hS' => ⟨x, hE, rfl, hP', hS'⟩⟩)
  exact vx_ret (mRet hF (fun t ht hW => ⟨v, hE, rfl, by rw [ht]; exact hP', hS'.F ht⟩) hS'.2.2 h1 h2)
/-- behind a call -/
theorem mCallX {a : Array Value} {mc ms : Nat} {rest st0 : List Value} (hr : vx_Run p l0 e R s m args below meth c H locs cells slots mc ms (F0 m pc ls st0) rest (mQc G E w1 a) (mXc G E w1) (gF G)) (hS : va_S (gF G) s.heap H locs)
    (kr : ∀ v, E = .inl v → ∀ (H1 : Heap) (locs1 : List Loc), va_P (gD G) mCl (mWl G w1) H1 → va_S (gF G) s.heap H1 locs1 → W p l0 e R s m args below meth c H1 locs1 (cells + mc) (slots + ms) Q (F0 m (pc + 3) ls ((v.map (mRv G)).toList ++ rest)))
    (kx : ∀ x, E = .inr x → ∀ (H1 : Heap) (locs1 : List Loc) (q : Addr) (ce : Cell), va_P (gD G) mCl (mWl G w1) H1 → va_S (gF G) s.heap H1 locs1 → H1[q]? = some ce → ce.vm = .none → s.vm.findClass (mExn.getD x "") = some ce.cls → vx_W p l0 e R s m args below meth c H1 locs1 (cells + mc) (slots + ms) Q (F0 m pc ls rest) q) :
    W p l0 e R s m args below meth c H locs cells slots Q (F0 m pc ls st0) := by
  intro T hT X
  rcases hr T hT X with ⟨v, st₀, t, T', L, h0, X', hL, e1, e2, ⟨v', hE, hv, hP1, hFr⟩, st⟩ | ⟨q, st₀, t, T', L, E', ce, h0, X', hL, e1, e2, ⟨x, hE, hN, hP1, hFr⟩, hce, hcv, hcl, st⟩
  · cases hv
    obtain ⟨-, -, k3⟩ := vx_keep (A0 := gF G) h0 e1 hS (fun q _ h => h) (fun q h => h) hL hFr
    obtain ⟨t2, a1, b1⟩ := kr v' hE T'.heap (locs ++ L) (by rw [e1]; exact hP1) k3 T' rfl X'
    exact ⟨t2, st t2 a1, b1⟩
  · subst hN
    obtain ⟨-, -, k3⟩ := vx_keep (A0 := gF G) h0 e1 hS (fun q _ h => h) (fun q h => h) hL hFr
    obtain ⟨t2, a1, b1⟩ := kx x hE T'.heap (locs ++ L) q ce (by rw [e1]; exact hP1) k3 (by rw [e1]; exact hce) hcv hcl T' rfl X'
    exact ⟨t2, st.trans a1, b1⟩
theorem mCallM {a : Array Value} {mc ms : Nat} {rest st0 : List Value} {v : Option Value} (hr : va_Run p l0 e R s m args below meth c H locs cells slots mc ms (F0 m pc ls st0) rest (mQc G (.inl v) w1 a) (gF G)) (hS : va_S (gF G) s.heap H locs)
    (kr : ∀ (H1 : Heap) (locs1 : List Loc), va_P (gD G) mCl (mWl G w1) H1 → va_S (gF G) s.heap H1 locs1 → W p l0 e R s m args below meth c H1 locs1 (cells + mc) (slots + ms) Q (F0 m (pc + 3) ls ((v.map (mRv G)).toList ++ rest))) :
    W p l0 e R s m args below meth c H locs cells slots Q (F0 m pc ls st0) := by
  intro T hT X
  obtain ⟨v1, st₀, t, T', L, h0, X', hL, e1, e2, ⟨v', hE, hv, hP1, hFr⟩, st⟩ := hr T hT X
  cases hE
  cases hv
  obtain ⟨-, -, k3⟩ := vx_keep (A0 := gF G) h0 e1 hS (fun q _ h => h) (fun q h => h) hL hFr
  obtain ⟨t2, a1, b1⟩ := kr T'.heap (locs ++ L) (by rw [e1]; exact hP1) k3 T' rfl X'
  exact ⟨t2, st t2 a1, b1⟩
/-- the stack of a call -/
theorem mOk_ok {k : Nat} (h : mOk k st = true) : k ≤ st.length ∧ (∀ u ∈ mArgs k st, u.category = 1) ∧ ((st.drop k).map fun v => v.category).sum ≤ 8 ∧ (mArgs k st).length = k := by
  unfold mOk at h
  simp only [Bool.and_eq_true, Nat.ble_eq, List.all_eq_true, beq_iff_eq] at h
  refine ⟨h.1.1, fun u hu => ?_, h.2, ?_⟩
  · unfold mArgs at hu
    exact h.1.2 u (List.mem_reverse.mp hu)
  · unfold mArgs
    rw [List.length_reverse, List.length_take]
    omega
theorem mStk {k : Nat} (f : Value → Value) : st.map f = ((mArgs k st).map f).reverse ++ (st.drop k).map f := by
  unfold mArgs
  rw [List.map_reverse, List.reverse_reverse, ← List.map_append, List.take_append_drop]
theorem mArgs_recv {k : Nat} {v : Value} (h : st[k]? = some v) : mArgs (k + 1) st = v :: mArgs k st := by
  unfold mArgs
  have hk : k < st.length := (List.getElem?_eq_some_iff.mp h).1
  rw [List.take_succ, h]
  simp
theorem mDrop_recv {k : Nat} {v : Value} (h : st[k]? = some v) : st.drop k = v :: st.drop (k + 1) := by
  have hk : k < st.length := (List.getElem?_eq_some_iff.mp h).1
  rw [List.drop_eq_getElem_cons hk]
  rw [List.getElem?_eq_getElem hk] at h
  cases h
  rfl
end MET
