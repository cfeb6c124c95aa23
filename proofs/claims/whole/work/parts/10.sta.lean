/-! THE SMALL MACHINE IS THE MACHINE, 2: what stays the same all along: classes, links, texts, the script -/
def mTys (t : Nat → ClassId) : List (ClassId × FieldType) := [(t 0, .int), (t 1, .byte), (t 2, .long), (t 3, .object "MeanMan$Hall"), (t 4, .array .int)]
def mExn : List String := ["java/lang/IllegalArgumentException", "java/lang/UnsupportedOperationException", "java/lang/IndexOutOfBoundsException", "java/util/NoSuchElementException", "java/lang/IllegalStateException"]
def mRup : List String := ["java/lang/RuntimeException", "java/lang/Exception"]
/-- words that a method's own list can't carry: links to what is private in the nest, and what a throw needs -/
def mXw : List Cond := [.methodLinkNest "MeanMan" 9 ⟨"MeanMan$Tape", "<init>", "()V"⟩ "MeanMan", .methodLinkNest "MeanMan" 18 ⟨"MeanMan$Hall", "<init>", "()V"⟩ "MeanMan", .methodLinkNest "MeanMan$Hall" 45 ⟨"MeanMan$Log", "<init>", "()V"⟩ "MeanMan", .methodLinkNest "MeanMan" 25 ⟨"MeanMan$Law", "<init>", "()V"⟩ "MeanMan", .methodLinkNest "MeanMan$Acts" 22 ⟨"MeanMan$Hall", "<init>", "()V"⟩ "MeanMan", .methodLinkNest "MeanMan" 72 ⟨"MeanMan$Bag", "<init>", "()V"⟩ "MeanMan"]
/-- what stands in the constructor of NoSuchElementException that takes a text -/
def mRx : ByteArray := ⟨#[0x2a, 0x2b, 0xb7, 0x00, 0x0d, 0xb1]⟩
def mXv : List Cond := .declares ⟨"MeanMan$Lines", "readLine", "()Z"⟩ :: (vx_atS "MeanMan" 124 "java/lang/IllegalArgumentException" mRup ++ (vx_atS "MeanMan" 134 "java/lang/UnsupportedOperationException" mRup ++ (vx_atS "MeanMan" 378 "java/lang/IndexOutOfBoundsException" mRup ++ ((Bundle.ownAtomsX "MeanMan" 177 "java/util/NoSuchElementException" 13 mRx mRup).filter vx_no ++ vx_atS "MeanMan" 389 "java/lang/IllegalStateException" mRup))))
theorem mXv_ok : (mXv.all fun w => w.onTables && w.keepsFace) = true := by decide +kernel
theorem mXw_warm {s U : State} (hW : s.WarmedH U.vm) (h : ∀ w ∈ mXw, va_Nw w s) : ∀ w ∈ mXw, va_Nw w U := by
  intro w hw
  have hz := h w hw
  simp only [mXw, List.mem_cons, List.not_mem_nil, or_false] at hw
  rcases hw with rfl | rfl | rfl | rfl | rfl | rfl <;> exact va_Nw.warmM hW hz
theorem mXv_warm {s U : State} (hW : s.WarmedH U.vm) (h : ∀ w ∈ mXv, va_Nw w s) : ∀ w ∈ mXv, va_Nw w U := by
  intro w hw
  have h1 := List.all_eq_true.mp mXv_ok w hw
  simp only [Bool.and_eq_true] at h1
  exact va_tabs h1.1 (rfl : (s.setVm U.vm).vm = U.vm) (Cond.before_shiftedFace (State.Shifted.of_warmed hW) w h1.2 (h w hw))

/-- the texts of the strings that are loaded -/
def mSx : List String := ["person stubborn rule strike man number", "weight", "up down toward", "if", "or", "and", "not", "above below", "who kind mine his apart day", "person", "stubborn", "rule", "strike", "man", "number", "weight", "up", "down", "toward", "if", "or", "and", "not", "above", "below", "who", "kind", "mine", "his", "apart", "day"]
def mSb : List (List Int32) := [[112, 101, 114, 115, 111, 110, 32, 115, 116, 117, 98, 98, 111, 114, 110, 32, 114, 117, 108, 101, 32, 115, 116, 114, 105, 107, 101, 32, 109, 97, 110, 32, 110, 117, 109, 98, 101, 114], [119, 101, 105, 103, 104, 116], [117, 112, 32, 100, 111, 119, 110, 32, 116, 111, 119, 97, 114, 100], [105, 102], [111, 114], [97, 110, 100], [110, 111, 116], [97, 98, 111, 118, 101, 32, 98, 101, 108, 111, 119], [119, 104, 111, 32, 107, 105, 110, 100, 32, 109, 105, 110, 101, 32, 104, 105, 115, 32, 97, 112, 97, 114, 116, 32, 100, 97, 121], [112, 101, 114, 115, 111, 110], [115, 116, 117, 98, 98, 111, 114, 110], [114, 117, 108, 101], [115, 116, 114, 105, 107, 101], [109, 97, 110], [110, 117, 109, 98, 101, 114], [119, 101, 105, 103, 104, 116], [117, 112], [100, 111, 119, 110], [116, 111, 119, 97, 114, 100], [105, 102], [111, 114], [97, 110, 100], [110, 111, 116], [97, 98, 111, 118, 101], [98, 101, 108, 111, 119], [119, 104, 111], [107, 105, 110, 100], [109, 105, 110, 101], [104, 105, 115], [97, 112, 97, 114, 116], [100, 97, 121]]
def mTx : List (Nat × String) := [(122, "the text of the hall is wrong"), (132, "the hall has all its texts"), (142, "the text of the law is wrong"), (175, "nothing else is told of a person"), (291, "one alone does not pull"), (351, "nothing else is told of a day"), (376, "there is no such person"), (379, "there is no such kind"), (381, "there is no such rule"), (383, "the number is none"), (387, "there are no people")]
/-- a string that is loaded: an object of String, coder 0, its bytes -/
def mStO (G : mG) (U : State) (H : Heap) (k : Nat) : Prop := va_O "java/lang/String" (gS G k) (gF G) U H ∧ va_OF "java/lang/String" "coder" "B" (.int 0) (gS G k) (gF G) U H ∧ va_OF "java/lang/String" "value" "[B" (.ref (gS G (64 + k))) (gS G k) (gF G) U H ∧
  va_T .byte (gS G (64 + k)) (gA G (64 + k)).1 (fun j => .int ((gA G (64 + k)).2 j)) (gF G) U H
/-- the tables: classes, links, texts -/
def mStT (G : mG) (U : State) : Prop := va_K (gD G) mCl (mTys (gT G)) U ∧ (∀ w ∈ mXw, va_Nw w U) ∧ (∀ w ∈ mXv, va_Nw w U) ∧ va_AO "MeanMan$Hall" U ∧ (Cond.arrayOver (.array .int)).before #[] U = true ∧ (∀ a ∈ mExn, ∀ b ∈ mExn, a ≠ b → va_Nc a b U) ∧
  (∀ e ∈ mSr, vk_R (mOn.getD e.1 "") e.2.1 (mSx.getD e.2.2 "") (gS G e.2.2) U) ∧ (∀ e ∈ mTx, ∃ a, vk_R "MeanMan" e.1 e.2 a U)
/-- what lies outside of the cells -/
def mStH (G : mG) (U : State) (H : Heap) : Prop := (∀ k, k < 31 → mStO G U H k) ∧ va_Z "java/lang/String" "COMPACT_STRINGS" "Z" (.int 1) (gF G) U H ∧ va_Z "jdk/internal/util/Preconditions" "SIOOBE_FORMATTER" "Ljava/util/function/BiFunction;" (gU G) (gF G) U H ∧
  vx_Zq Bundle.tN "UNASSIGNED_STACK" Bundle.steD (gF G) U H ∧ vx_Zq Bundle.tN "SUPPRESSED_SENTINEL" Bundle.listD (gF G) U H ∧ va_X (gS G 150) (gA G 150).1 (gA G 150).2 U H ∧ gS G 150 < gB G
def mSta (G : mG) (U : State) : Prop := mStT G U ∧ mStH G U U.heap ∧ (gU G).category = 1 ∧ gB G ≤ U.heap.size
theorem mStT.warm {G : mG} {s U : State} (hW : s.WarmedH U.vm) (h : mStT G s) (hAO : (Cond.arrayOver (.array .int)).before #[] s = true → (Cond.arrayOver (.array .int)).before #[] U = true) : mStT G U := by
  obtain ⟨h1, h2, h3, h4, h5, h6, h7, h8⟩ := h
  exact ⟨va_K.moved hW.alike h1, mXw_warm hW h2, mXv_warm hW h3, va_AO.moved hW.alike h4, hAO h5, fun a ha b hb hab => va_Nc.moved hW.alike (h6 a ha b hb hab), fun e he => vk_R.warm hW (h7 e he), fun e he => by
    obtain ⟨a, ha⟩ := h8 e he
    exact ⟨a, vk_R.warm hW ha⟩⟩
theorem mStH.move {G : mG} {s U : State} {H : Heap} {locs : List Loc} (hvm : s.vm.Alike U.vm) (hS : va_S (gF G) s.heap H locs) (h : mStH G s s.heap) (hB : gB G ≤ s.heap.size) : mStH G U H := by
  obtain ⟨h1, h2, h3, h4, h5, h6, h7⟩ := h
  have hq : ∀ a : Nat, a < s.heap.size → ¬ gF G a → H[a]? = s.heap[a]? := hS.2.1
  refine ⟨fun k hk => ?_, (va_Z.moved hvm h2).kept hq, (va_Z.moved hvm h3).kept hq, (vx_Zq.moved hvm h4).kept hq, (vx_Zq.moved hvm h5).kept hq, ?_, h7⟩
  · obtain ⟨a1, a2, a3, a4⟩ := h1 k hk
    exact ⟨(va_O.moved hvm a1).kept hq, (va_OF.moved hvm a2).kept hq, (va_OF.moved hvm a3).kept hq, (va_T.moved hvm a4).kept hq⟩
  · exact (va_X.moved hvm h6).kept (hq _ (by omega) (by show ¬ gB G ≤ gS G 150; omega))
/-- the frame of a method: its code, its class, the words, what stays -/
def mFr (G : mG) (M : Nat) (p : Program) (s : State) (m : MethodId) (args : Array Value) (meth : Method) (c : Code) : Prop :=
  p.tables.exec = Jvm.exec ∧ c.code = mB M ∧ c.maxLocals = mLn M ∧ s.vm.findClass (mOn.getD (mOw M) "") = some m.cls ∧ (∀ w ∈ mTb, w.before args s = true) ∧ meth.locks = false ∧ meth.sig.returnType = mRt M ∧ meth.name = (mY M).name ∧ c.exceptionTable.toList = tableOf (mHt M) ∧ mSta G s
/-- where nothing has been thrown, the next cell comes right behind the others -/
theorem mSz {p : Program} {l : Launch} {e : Env} {R : Room} {s : State} {m : MethodId} {args : Array Value} {below : List Frame} {meth : Method} {c : Code} {H : Heap} {locs : List Loc} {cells slots : Nat} {Q : State → Prop} {g : JFrame} {G : mG} {c0 s0 : Nat} {w : mW}
    (hI : mInv G s c0 s0 w H locs cells slots) (hB : gB G ≤ s.heap.size) (k : gB G + w.2.1 ≤ H.size ∧ (w.2.2.2 = 0 → H.size = gB G + w.2.1) → W p l e R s m args below meth c H locs cells slots Q g) : W p l e R s m args below meth c H locs cells slots Q g := by
  intro T hT X
  obtain ⟨h1, -, h3, h4, -, h6⟩ := id hI
  have hz := X.heapSize
  rw [hT] at hz
  have hle := mWl_le h1 (Nat.le_trans hB h3.1)
  refine k ⟨hle, fun h0 => ?_⟩ T hT X
  have := h6 h0
  unfold mNc at h4
  omega
/-- the classes of the objects -/
def mTyl : List (Nat → FieldType) := [tyX0, tyX1, tyX2, tyX3, tyX4, tyX5, tyX6, tyX7, tyX8, tyX9, tyX10, tyX11, tyX12]
def mTy (ci : Nat) : Nat → FieldType := mTyl.getD ci tyX6
theorem m13 {P : Nat → Prop} (h0 : P 0) (h1 : P 1) (h2 : P 2) (h3 : P 3) (h4 : P 4) (h5 : P 5) (h6 : P 6) (h7 : P 7) (h8 : P 8) (h9 : P 9) (h10 : P 10) (h11 : P 11) (h12 : P 12) : ∀ ci, ci < 13 → P ci := by
  intro ci h
  rcases (show ci = 0 ∨ ci = 1 ∨ ci = 2 ∨ ci = 3 ∨ ci = 4 ∨ ci = 5 ∨ ci = 6 ∨ ci = 7 ∨ ci = 8 ∨ ci = 9 ∨ ci = 10 ∨ ci = 11 ∨ ci = 12 by omega) with rfl | rfl | rfl | rfl | rfl | rfl | rfl | rfl | rfl | rfl | rfl | rfl | rfl <;> assumption
theorem mCl_at : ∀ ci, ci < 13 → mCl[ci]? = some (mOn.getD ci "", mT ci, mCN ci) := m13 rfl rfl rfl rfl rfl rfl rfl rfl rfl rfl rfl rfl rfl
theorem mTy_ok : ∀ ci, ci < 13 → ∀ k, k < mCN ci → parseFieldDescriptor (mT ci k).2.2.1 = some (mTy ci k) := m13 tyX0_ok tyX1_ok tyX2_ok tyX3_ok tyX4_ok tyX5_ok tyX6_ok tyX7_ok tyX8_ok tyX9_ok tyX10_ok tyX11_ok tyX12_ok
theorem mNm_ok : ∀ ci, ci < 13 → ∀ a, a < mCN ci → ∀ b, b < mCN ci → a ≠ b → (mT ci a).2.1 ≠ (mT ci b).2.1 := m13 nmX0 nmX1 nmX2 nmX3 nmX4 nmX5 nmX6 nmX7 nmX8 nmX9 nmX10 nmX11 nmX12
theorem mLy_c : ((List.range 13).all fun ci => (List.range (mCN ci)).all fun k => ws_ly.contains (ci, k)) = true := by decide +kernel
theorem mLy_ok {ci : Nat} (h : ci < 13) : ∀ w ∈ u_ws (mOn.getD ci "") (mT ci) (mCN ci), w ∈ mTb := by
  intro w hw
  obtain ⟨k, hk, rfl⟩ := List.mem_map.mp hw
  have h1 := List.all_eq_true.mp (List.all_eq_true.mp mLy_c ci (List.mem_range.mpr h)) k hk
  exact wm_ly (e := (ci, k)) (List.contains_iff_mem.mp h1)
/-- a field's kind -/
def mKty (n : Nat) (t : FieldType) : Bool := match n, t with
  | 0, .int => true
  | 1, .boolean => true
  | 2, .object _ => true
  | 2, .array _ => true
  | _, _ => false
theorem mKd_c : ((List.range 13).all fun ci => decide ((mDf ci).length = mCN ci) && (List.range (mCN ci)).all fun k => mKty (mKd ci k) (mTy ci k) && decide (defaultValue (mTy ci k) = vp_V (mDf ci) k)) = true := by decide +kernel
theorem mKd_ok {ci k : Nat} (h : ci < 13) (hk : k < mCN ci) : mKty (mKd ci k) (mTy ci k) = true ∧ defaultValue (mTy ci k) = vp_V (mDf ci) k := by
  have h1 := List.all_eq_true.mp mKd_c ci (List.mem_range.mpr h)
  simp only [Bool.and_eq_true] at h1
  have h2 := List.all_eq_true.mp h1.2 k (List.mem_range.mpr hk)
  simp only [Bool.and_eq_true, decide_eq_true_eq] at h2
  exact h2
theorem mDf_len {ci : Nat} (h : ci < 13) : (mDf ci).length = mCN ci := by
  have h1 := List.all_eq_true.mp mKd_c ci (List.mem_range.mpr h)
  simp only [Bool.and_eq_true, decide_eq_true_eq] at h1
  exact h1.1
theorem mFit_ok {ci k : Nat} {v : Value} {G : mG} (h : ci < 13) (hk : k < mCN ci) (hf : mFit (mKd ci k) v = true) : narrow (mTy ci k) (mRv G v) = mRv G v ∧ fits (mTy ci k) (mRv G v) = true := by
  have h1 := (mKd_ok h hk).1
  generalize mKd ci k = n at h1 hf
  generalize mTy ci k = t at h1
  unfold mFit at hf
  split at hf
  · unfold mKty at h1; split at h1 <;> first | (cases h1; done) | skip
    all_goals first | exact ⟨rfl, rfl⟩ | contradiction
  · rename_i x
    unfold mKty at h1; split at h1 <;> first | (cases h1; done) | skip
    all_goals first | contradiction | skip
    simp only [Bool.or_eq_true, beq_iff_eq] at hf
    rcases hf with rfl | rfl
    · show narrow .boolean (.int 0) = .int 0 ∧ fits .boolean (.int 0) = true
      exact ⟨by decide, by decide⟩
    · show narrow .boolean (.int 1) = .int 1 ∧ fits .boolean (.int 1) = true
      exact ⟨by decide, by decide⟩
  · unfold mKty at h1; split at h1 <;> first | (cases h1; done) | skip
    all_goals first | contradiction | exact ⟨rfl, rfl⟩
  · cases hf
/-- the links of the fields -/
def mFck (e : Nat × Nat × Nat) : Bool := decide (1000 ≤ e.2.2) || (Nat.blt (e.2.2 / 64) 13 && (List.range 13).all fun ci => !mIs ci (e.2.2 / 64) || (Nat.blt (e.2.2 % 64) (mCN ci) && ws_f.any fun z => Nat.beq z.1 e.1 && Nat.beq z.2.1 e.2.1 && Nat.beq z.2.2.1 e.2.2 && Nat.beq z.2.2.2.1 ci && (decide (mOn.getD z.2.2.2.2 "" = (mT ci (e.2.2 % 64)).1) || ws_sf.contains (z.2.2.2.2, ci, e.2.2 % 64))))
theorem mFck_all : mFL.all mFck = true := by decide +kernel
theorem mIs_lt {ci q : Nat} (h : mIs ci q = true) (hq : q < 13) : ci < 13 := by
  unfold mIs at h
  simp only [Bool.or_eq_true, Bool.and_eq_true, beq_iff_eq] at h
  omega
theorem mFL_ok {o idx f ci : Nat} (h : (o, idx, f) ∈ mFL) (hf : f < 1000) (hi : mIs ci (f / 64) = true) : ci < 13 ∧ f % 64 < mCN ci ∧ ∃ rf, (Cond.fieldLink (mOn.getD o "") idx (mOn.getD rf "") (mT ci (f % 64)).2.1 (mT ci (f % 64)).2.2.1) ∈ mTb ∧ (mOn.getD rf "" = (mT ci (f % 64)).1 ∨ Cond.sameField (mOn.getD rf "") (mT ci (f % 64)).1 (mT ci (f % 64)).2.1 (mT ci (f % 64)).2.2.1 ∈ mTb) := by
  have h1 := List.all_eq_true.mp mFck_all _ h
  unfold mFck at h1
  simp only [Bool.or_eq_true, Bool.and_eq_true, decide_eq_true_eq, Nat.blt_eq] at h1
  rcases h1 with h1 | ⟨hq, h1⟩
  · exact absurd h1 (by show ¬ 1000 ≤ f; omega)
  · have hlt : ci < 13 := mIs_lt hi hq
    have h2 := List.all_eq_true.mp h1 ci (List.mem_range.mpr hlt)
    simp only [Bool.or_eq_true, Bool.and_eq_true, Nat.blt_eq, Bool.not_eq_true', List.any_eq_true, Nat.beq_eq, decide_eq_true_eq] at h2
    rcases h2 with h2 | ⟨h3, z, hz, ⟨⟨⟨⟨e1, e2⟩, e3⟩, e4⟩, e5⟩⟩
    · rw [h2] at hi; cases hi
    · obtain ⟨z1, z2, z3, z4, z5⟩ := z
      dsimp only at e1 e2 e3 e4 e5
      subst e1; subst e2; subst e3; subst e4
      refine ⟨hlt, h3, z5, wm_f hz, ?_⟩
      rcases e5 with e5 | e5
      · exact Or.inl e5
      · exact Or.inr (wm_sf (List.contains_iff_mem.mp e5))
theorem wo_aci : (.arrayClass .int : Cond) ∈ mTb := mTb_at (k := 1) (i := 66) (by decide +kernel) rfl
theorem wo_acb : (.arrayClass .byte : Cond) ∈ mTb := mTb_at (k := 4) (i := 116) (by decide +kernel) rfl
theorem wo_acl : (.arrayClass .long : Cond) ∈ mTb := mTb_at (k := 9) (i := 67) (by decide +kernel) rfl
theorem wo_mna : (.classLink "MeanMan$Bag" 28 "[[I" : Cond) ∈ mTb := mTb_at (k := 2) (i := 13) (by decide +kernel) rfl

