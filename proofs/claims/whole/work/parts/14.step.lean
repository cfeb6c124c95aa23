/-! THE SMALL MACHINE IS THE MACHINE, 4: every step that is no call and no end -/
theorem mCn_ok {o idx ci : Nat} (h : (o, idx, ci) ∈ mCn) : ci < 13 := by
  have hc : (mCn.all fun e => Nat.blt e.2.2 13) = true := by decide +kernel
  have := List.all_eq_true.mp hc _ h
  simpa using this
theorem mFr.row {G : mG} {M : Nat} {p : Program} {s : State} {m : MethodId} {args : Array Value} {meth : Method} {c : Code} (hF : mFr G M p s m args meth c) : p.tables.exec = Jvm.exec ∧ c.code = mB M := ⟨hF.1, hF.2.1⟩
section STEP4
variable {p : Program} {l0 : Launch} {e : Env} {R : Room} {s : State} {m : MethodId} {args : Array Value} {below : List Frame} {meth : Method} {c : Code} {H : Heap} {locs : List Loc} {cells slots : Nat} {Q : State → Prop}
variable {G : mG} {M c0 s0 pc len : Nat} {ls : Array Slot} {l st : List Value} {w : mW}
set_option maxHeartbeats 4000000 in
theorem mStep {ir i : Instr} {z : mNx} (hF : mFr G M p s m args meth c) (hd : decode (mB M) pc = .ok (ir, len)) (hlen : mIl ir len = len) (hn : mNorm M pc ir = some i) (hs : mSt (gA G) i len pc l st w = some z) (hI : mInv G s c0 s0 w H locs cells slots) (hl : mLR G ls l) (hll : l.length = mLn M)
    (hcap : mNc z.2.2.2 ≤ c0 + R.cells ∧ mNs z.2.2.2 ≤ s0 + R.slots) (hR : 1 ≤ R.frames ∧ 256 ≤ R.locals) (kk : mK p l0 e R s m args below meth c Q G M c0 s0 z) : W p l0 e R s m args below meth c H locs cells slots Q (F0 m pc ls (st.map (mRv G))) := by
  have hx := hF.1
  have hb := hF.2.1
  have hml := hF.2.2.1
  have hown := hF.2.2.2.1
  have hts := hF.2.2.2.2.1
  have hSta := hF.2.2.2.2.2.2.2.2.2
  have hU : (gU G).category = 1 := hSta.2.2.1
  cases ir with
  | iconst n =>
    cases hn; have hlen : 1 = len := hlen; subst hlen; cases hs
    exact lv_iconst hx hb hd rfl (kk H locs ls cells slots hI hl hll)
  | bipush n =>
    have hlen : 2 = len := hlen; subst hlen
    simp only [mNorm] at hn
    by_cases hc : (Int8.ofInt n).toInt32 = Int32.ofInt n
    · rw [if_pos hc] at hn; cases hn; cases hs
      exact lv_bipush hx hb hd hc (kk H locs ls cells slots hI hl hll)
    · rw [if_neg hc] at hn; cases hn
  | sipush n =>
    have hlen : 3 = len := hlen; subst hlen
    simp only [mNorm] at hn
    by_cases hc : (Int16.ofInt n).toInt32 = Int32.ofInt n
    · rw [if_pos hc] at hn; cases hn; cases hs
      exact lv_sipush hx hb hd hc (kk H locs ls cells slots hI hl hll)
    · rw [if_neg hc] at hn; cases hn
  | lconst n =>
    cases hn; have hlen : 1 = len := hlen; subst hlen; cases hs
    exact lv_lconst hx hb hd rfl (kk H locs ls cells slots hI hl hll)
  | ldc k =>
    have hlen : 2 = len := hlen; subst hlen
    simp only [mNorm, mLdc] at hn
    cases hc : mLk (mOw M) k mCo with
    | some v =>
      rw [hc] at hn; cases hn; cases hs
      exact lv_ldc hx hb hown (hts _ (wm_co (mLk_mem hc))) hd (kk H locs ls cells slots hI hl hll)
    | none =>
      rw [hc] at hn
      cases hc2 : mLk (mOw M) k mSr with
      | none => rw [hc2] at hn; cases hn
      | some v =>
        rw [hc2] at hn; cases hn; cases hs
        have hm := mLk_mem hc2
        have hv : v < 200 := by
          have hcc : (mSr.all fun e => Nat.blt e.2.2 200) = true := by decide +kernel
          have := List.all_eq_true.mp hcc _ hm
          simpa using this
        have hR := hSta.1.2.2.2.2.2.2.1 _ hm
        have k2 := kk H locs ls cells slots hI hl hll
        have k3 : W p l0 e R s m args below meth c H locs cells slots Q (F0 m (pc + 2) ls (.ref (gS G v) :: st.map (mRv G))) := by
          have : mRv G (.retAddr v) = .ref (gS G v) := if_pos hv
          rw [← this]; exact k2
        exact va_ldcS hx hb hown hR hd k3
  | ldc_w k =>
    have hlen : 3 = len := hlen; subst hlen
    simp only [mNorm] at hn
    cases hc : mLk (mOw M) k mCo with
    | some v =>
      rw [hc] at hn; cases hn; cases hs
      exact lv_ldcw hx hb hown (hts _ (wm_co (mLk_mem hc))) hd (kk H locs ls cells slots hI hl hll)
    | none => rw [hc] at hn; cases hn
  | iload k =>
    cases hn; have hlen : 2 = len := hlen; subst hlen
    obtain ⟨x, h1, rfl⟩ := mLd_inv hs
    exact lv_iload hx hb hd (hl.2.2 _ _ h1 rfl) (kk H locs ls cells slots hI hl hll)
  | iload_n k =>
    cases hn; have hlen : 1 = len := hlen; subst hlen
    obtain ⟨x, h1, rfl⟩ := mLd_inv hs
    exact lv_iload_n hx hb hd rfl (hl.2.2 _ _ h1 rfl) (kk H locs ls cells slots hI hl hll)
  | aload k =>
    cases hn; have hlen : 2 = len := hlen; subst hlen
    obtain ⟨v, h1, rfl, hv⟩ := mLda_inv hs
    have k2 := kk H locs ls cells slots hI hl hll
    rcases hv with ⟨a, rfl⟩ | ⟨a, ha, rfl⟩
    · exact lv_aload hx hb hd (hl.2.2 _ _ h1 rfl) k2
    · have hrv : mRv G (.retAddr a) = .ref (gS G a) := if_pos ha
      have k2 : W p l0 e R s m args below meth c H locs cells slots Q (F0 m (pc + 2) ls (mRv G (.retAddr a) :: st.map (mRv G))) := k2
      rw [hrv] at k2
      exact lv_aload hx hb hd (by rw [← hrv]; exact hl.2.2 _ _ h1 rfl) k2
  | aload_n k =>
    cases hn; have hlen : 1 = len := hlen; subst hlen
    obtain ⟨v, h1, rfl, hv⟩ := mLda_inv hs
    have k2 := kk H locs ls cells slots hI hl hll
    rcases hv with ⟨a, rfl⟩ | ⟨a, ha, rfl⟩
    · exact lv_aload_n hx hb hd rfl (hl.2.2 _ _ h1 rfl) k2
    · have hrv : mRv G (.retAddr a) = .ref (gS G a) := if_pos ha
      have k2 : W p l0 e R s m args below meth c H locs cells slots Q (F0 m (pc + 1) ls (mRv G (.retAddr a) :: st.map (mRv G))) := k2
      rw [hrv] at k2
      exact lv_aload_n hx hb hd rfl (by rw [← hrv]; exact hl.2.2 _ _ h1 rfl) k2
  | istore k =>
    cases hn; have hlen : 2 = len := hlen; subst hlen
    obtain ⟨x, st0, rfl, hk, rfl⟩ := mSto_inv hs
    exact lv_istore hx hb hd hl.has hk rfl (fun ls1 h1 => kk H locs ls1 cells slots hI (mLR.put hU hk (fun _ => rfl) h1) (by rw [List.length_set]; exact hll))
  | istore_n k =>
    cases hn; have hlen : 1 = len := hlen; subst hlen
    obtain ⟨x, st0, rfl, hk, rfl⟩ := mSto_inv hs
    exact lv_istore_n hx hb hd rfl hl.has hk rfl (fun ls1 h1 => kk H locs ls1 cells slots hI (mLR.put hU hk (fun _ => rfl) h1) (by rw [List.length_set]; exact hll))
  | astore k =>
    cases hn; have hlen : 2 = len := hlen; subst hlen
    obtain ⟨x, st0, rfl, hk, rfl⟩ := mStoA_inv hs
    exact lv_astore hx hb hd hl.has hk rfl (fun ls1 h1 => kk H locs ls1 cells slots hI (mLR.put hU hk (fun _ => rfl) h1) (by rw [List.length_set]; exact hll))
  | astore_n k =>
    cases hn; have hlen : 1 = len := hlen; subst hlen
    obtain ⟨x, st0, rfl, hk, rfl⟩ := mStoA_inv hs
    exact lv_astore_n hx hb hd rfl hl.has hk rfl (fun ls1 h1 => kk H locs ls1 cells slots hI (mLR.put hU hk (fun _ => rfl) h1) (by rw [List.length_set]; exact hll))
  | iinc k n =>
    cases hn; have hlen : 3 = len := hlen; subst hlen
    obtain ⟨x, h1, rfl⟩ := mInc_inv hs
    have hk : k < l.length := (List.getElem?_eq_some_iff.mp h1).1
    obtain ⟨j, hj⟩ := List.getElem?_of_mem (mLp_mem (G := G) (q := (k, .int x)).mpr ⟨_, h1, rfl, rfl⟩)
    exact lv_iinc hx hb hd hl.has hj rfl hk rfl (fun ls1 h2 => kk H locs ls1 cells slots hI (mLR.put hU hk (fun _ => rfl) h2) (by rw [List.length_set]; exact hll))
  | iadd => cases hn; have hlen : 1 = len := hlen; subst hlen; obtain ⟨x, y, st0, rfl, rfl⟩ := mBin_inv hs; exact lv_iadd hx hb hd (kk H locs ls cells slots hI hl hll)
  | isub => cases hn; have hlen : 1 = len := hlen; subst hlen; obtain ⟨x, y, st0, rfl, rfl⟩ := mBin_inv hs; exact lv_isub hx hb hd (kk H locs ls cells slots hI hl hll)
  | imul => cases hn; have hlen : 1 = len := hlen; subst hlen; obtain ⟨x, y, st0, rfl, rfl⟩ := mBin_inv hs; exact lv_imul hx hb hd (kk H locs ls cells slots hI hl hll)
  | ishl => cases hn; have hlen : 1 = len := hlen; subst hlen; obtain ⟨x, y, st0, rfl, rfl⟩ := mBin_inv hs; exact lv_ishl hx hb hd (kk H locs ls cells slots hI hl hll)
  | ishr => cases hn; have hlen : 1 = len := hlen; subst hlen; obtain ⟨x, y, st0, rfl, rfl⟩ := mBin_inv hs; exact lv_ishr hx hb hd (kk H locs ls cells slots hI hl hll)
  | iushr => cases hn; have hlen : 1 = len := hlen; subst hlen; obtain ⟨x, y, st0, rfl, rfl⟩ := mBin_inv hs; exact lv_iushr hx hb hd rfl (kk H locs ls cells slots hI hl hll)
  | iand => cases hn; have hlen : 1 = len := hlen; subst hlen; obtain ⟨x, y, st0, rfl, rfl⟩ := mBin_inv hs; exact lv_iand hx hb hd (kk H locs ls cells slots hI hl hll)
  | ior => cases hn; have hlen : 1 = len := hlen; subst hlen; obtain ⟨x, y, st0, rfl, rfl⟩ := mBin_inv hs; exact lv_ior hx hb hd (kk H locs ls cells slots hI hl hll)
  | ixor => cases hn; have hlen : 1 = len := hlen; subst hlen; obtain ⟨x, y, st0, rfl, rfl⟩ := mBin_inv hs; exact lv_ixor hx hb hd (kk H locs ls cells slots hI hl hll)
  | idiv => cases hn; have hlen : 1 = len := hlen; subst hlen; obtain ⟨x, y, st0, rfl, h0, rfl⟩ := mDiv_inv hs; exact lv_idiv hx hb hd h0 (kk H locs ls cells slots hI hl hll)
  | irem => cases hn; have hlen : 1 = len := hlen; subst hlen; obtain ⟨x, y, st0, rfl, h0, rfl⟩ := mDiv_inv hs; exact lv_irem hx hb hd h0 (kk H locs ls cells slots hI hl hll)
  | ineg => cases hn; have hlen : 1 = len := hlen; subst hlen; obtain ⟨x, st0, rfl, rfl⟩ := mUn_inv hs; exact lv_ineg hx hb hd (kk H locs ls cells slots hI hl hll)
  | i2l => cases hn; have hlen : 1 = len := hlen; subst hlen; obtain ⟨x, st0, rfl, rfl⟩ := mUn_inv hs; exact lv_i2l hx hb hd rfl (kk H locs ls cells slots hI hl hll)
  | i2b => cases hn; have hlen : 1 = len := hlen; subst hlen; obtain ⟨x, st0, rfl, rfl⟩ := mUn_inv hs; exact lv_i2b hx hb hd rfl (kk H locs ls cells slots hI hl hll)
  | i2c => cases hn; have hlen : 1 = len := hlen; subst hlen; obtain ⟨x, st0, rfl, rfl⟩ := mUn_inv hs; exact lv_i2c hx hb hd rfl (kk H locs ls cells slots hI hl hll)
  | lcmp => cases hn; have hlen : 1 = len := hlen; subst hlen; obtain ⟨x, y, st0, rfl, rfl⟩ := mLcmp_inv hs; exact W.lcmp hx hb hd (kk H locs ls cells slots hI hl hll)
  | dup => cases hn; have hlen : 1 = len := hlen; subst hlen; obtain ⟨v, st0, rfl, hv, rfl⟩ := mDup_inv hs; exact lv_dup hx hb hd (mRv_cat hU hv) (kk H locs ls cells slots hI hl hll)
  | dup2 => cases hn; have hlen : 1 = len := hlen; subst hlen; obtain ⟨v, u, st0, rfl, hv, hu, rfl⟩ := mDup2_inv hs; exact lv_dup2_11 hx hb hd (mRv_cat hU hv) (mRv_cat hU hu) (kk H locs ls cells slots hI hl hll)
  | pop => cases hn; have hlen : 1 = len := hlen; subst hlen; obtain ⟨v, st0, rfl, hv, rfl⟩ := mPop_inv hs; exact lv_pop hx hb hd (mRv_cat hU hv) (kk H locs ls cells slots hI hl hll)
  | goto off =>
    obtain ⟨rfl, ht⟩ := mJ_inv hn
    have hlen : 3 = len := hlen; subst hlen; cases hs
    exact lv_goto hx hb hd ht (kk H locs ls cells slots hI hl hll)
  | ifCond k off =>
    obtain ⟨rfl, ht⟩ := mJ_inv hn
    have hlen : 3 = len := hlen; subst hlen
    obtain ⟨x, st0, rfl, rfl⟩ := mIf_inv hs
    exact mS_if hx hb hd ht (kk H locs ls cells slots hI hl hll)
  | if_icmp k off =>
    obtain ⟨rfl, ht⟩ := mJ_inv hn
    have hlen : 3 = len := hlen; subst hlen
    obtain ⟨x, y, st0, rfl, rfl⟩ := mIcmp_inv hs
    exact mS_icmp hx hb hd ht (kk H locs ls cells slots hI hl hll)
  | tableswitch d lo hi offs =>
    simp only [mNorm] at hn
    by_cases hc : 0 ≤ (pc : Int) + d ∧ (offs.toList.all fun z => decide (0 ≤ (pc : Int) + z)) = true
    · rw [if_pos hc] at hn; cases hn
      obtain ⟨x, st0, rfl, h1⟩ := mTsw_inv hs
      rcases h1 with ⟨h1, rfl⟩ | ⟨h1, off, h2, rfl⟩
      · exact lv_tableOut hx hb hd h1 (Int.toNat_of_nonneg hc.1).symm (kk H locs ls cells slots hI hl hll)
      · have hm : off ∈ offs.toList := by
          have := List.mem_of_getElem? (l := offs.toList) (i := (x.toInt - lo).toNat) (a := off) (by rw [Array.getElem?_toList]; exact h2)
          exact this
        have h3 := List.all_eq_true.mp hc.2 _ hm
        simp only [decide_eq_true_eq] at h3
        exact lv_tableIn hx hb hd (fun q => h1 (Or.inl q)) (fun q => h1 (Or.inr q)) h2 (Int.toNat_of_nonneg h3).symm (kk H locs ls cells slots hI hl hll)
    · rw [if_neg hc] at hn; cases hn
  | lookupswitch d ps =>
    simp only [mNorm] at hn
    by_cases hc : 0 ≤ (pc : Int) + d ∧ (ps.toList.all fun z => decide (0 ≤ (pc : Int) + z.2)) = true ∧ ((ps.toList.zip (ps.toList.drop 1)).all (fun (a, next) => a.1 < next.1)) = true
    · rw [if_pos hc] at hn; cases hn
      obtain ⟨x, st0, rfl, rfl⟩ := mLsw_inv hs
      have hoff : 0 ≤ (pc : Int) + Op.lookupswitch.offset ps.toList d x.toInt := by
        have h2 := hc.2.1
        generalize ps.toList = L at h2 ⊢
        induction L with
        | nil => exact hc.1
        | cons a L ih =>
          simp only [List.all_cons, Bool.and_eq_true, decide_eq_true_eq] at h2
          unfold Op.lookupswitch.offset
          split
          · exact h2.1
          · exact ih h2.2
      exact lv_lookup hx hb hd hc.2.2 rfl (Int.toNat_of_nonneg hoff).symm (kk H locs ls cells slots hI hl hll)
    · rw [if_neg hc] at hn; cases hn
  | getstatic k =>
    have hlen : 3 = len := hlen; subst hlen
    simp only [mNorm] at hn
    cases hc : mLk (mOw M) k mGs with
    | none => rw [hc] at hn; cases hn
    | some v =>
      rw [hc] at hn
      have hw := wm_gs (mLk_mem hc)
      obtain ⟨-, hZ1, hZ2, -⟩ := hSta.2.1
      cases v with
      | zero =>
        cases hn; cases hs
        exact va_gets (ref := "java/lang/String") hx hb hZ1 hI.2.2.1 hown (hts _ hw) (fun _ h9 => h9) hd (kk H locs ls cells slots hI hl hll)
      | succ v =>
        cases hn; cases hs
        have hw2 : wd_gs (mOw M, k, v + 1) = .fieldLink (mOn.getD (mOw M) "") k "jdk/internal/util/Preconditions" "SIOOBE_FORMATTER" "Ljava/util/function/BiFunction;" := rfl
        rw [hw2] at hw
        exact va_gets (ref := "jdk/internal/util/Preconditions") hx hb hZ2 hI.2.2.1 hown (hts _ hw) (fun _ h9 => h9) hd (kk H locs ls cells slots hI hl hll)
  | getfield k =>
    have hlen : 3 = len := hlen; subst hlen
    simp only [mNorm] at hn
    cases hc : mLk (mOw M) k mFL with
    | none => rw [hc] at hn; cases hn
    | some f =>
      rw [hc] at hn
      dsimp only at hn
      by_cases hf : f < 1000
      · rw [if_pos hf] at hn; cases hn
        obtain ⟨a, st0, ci, fs, v, rfl, ha, hi, hv, rfl⟩ := mGet_inv hs
        exact mS_get hF hd (mLk_mem hc) hf hI ha hi hv (kk H locs ls cells slots hI hl hll)
      · rw [if_neg hf] at hn; cases hn
        obtain ⟨i, st0, rfl, hi, rfl⟩ := mStr_inv hs
        have hm := mLk_mem hc
        have hfs : (mOw M, k, f) ∈ ws_fs := by
          have hcc : (mFL.all fun e => Nat.blt e.2.2 1000 || ws_fs.contains e) = true := by decide +kernel
          have := List.all_eq_true.mp hcc _ hm
          simp only [Bool.or_eq_true, Nat.blt_eq] at this
          rcases this with h | h
          · exact absurd h hf
          · exact List.contains_iff_mem.mp h
        have hw := wm_fs hfs
        obtain ⟨-, hO2, hO3, -⟩ := hSta.2.1.1 i hi
        have k2 := kk H locs ls cells slots hI hl hll
        show W p l0 e R s m args below meth c H locs cells slots Q (F0 m pc ls ((if i < 200 then .ref (gS G i) else gU G) :: st0.map (mRv G)))
        rw [if_pos (by omega)]
        by_cases hf0 : f = 1000
        · subst hf0
          refine vk_getf (ref := "java/lang/String") hx hb hO3 hI.2.2.1 hown (hts _ hw) (fun _ h9 => h9) hd ?_
          have k3 : W p l0 e R s m args below meth c H locs cells slots Q (F0 m (pc + 3) ls ((if 64 + i < 200 then .ref (gS G (64 + i)) else gU G) :: st0.map (mRv G))) := k2
          rw [if_pos (by omega)] at k3
          exact k3
        · have hw2 : wd_fs (mOw M, k, f) = .fieldLink (mOn.getD (mOw M) "") k "java/lang/String" "coder" "B" := if_neg hf0
          rw [hw2] at hw
          refine vk_getf (ref := "java/lang/String") hx hb hO2 hI.2.2.1 hown (hts _ hw) (fun _ h9 => h9) hd ?_
          rw [if_neg (by omega)] at k2
          exact k2
  | putfield k =>
    have hlen : 3 = len := hlen; subst hlen
    simp only [mNorm] at hn
    cases hc : mLk (mOw M) k mFL with
    | none => rw [hc] at hn; cases hn
    | some f =>
      rw [hc] at hn
      dsimp only at hn
      by_cases hf : f < 1000 ∧ mPok M f = true
      · rw [if_pos hf] at hn; cases hn
        obtain ⟨a, st0, ci, fs, v, rfl, ha, hi, hv, hlt, rfl⟩ := mPut_inv hs
        exact mS_put hF hd (mLk_mem hc) hf.1 hf.2 hI ha hi hv hlt (fun H1 locs1 hI1 => kk H1 locs1 ls cells slots hI1 hl hll)
      · rw [if_neg hf] at hn; cases hn
  | iaload => cases hn; have hlen : 1 = len := hlen; subst hlen; exact mS_ald (t := 0) (st' := []) (Or.inl rfl) hF hd hI hl hll hs kk
  | baload => cases hn; have hlen : 1 = len := hlen; subst hlen; exact mS_ald (t := 1) (st' := []) (Or.inr rfl) hF hd hI hl hll hs kk
  | laload => cases hn; have hlen : 1 = len := hlen; subst hlen; exact mS_lald hF hd hI hl hll hs kk
  | aaload => cases hn; have hlen : 1 = len := hlen; subst hlen; exact mS_aald hF hd hI hl hll hs kk
  | iastore => cases hn; have hlen : 1 = len := hlen; subst hlen; exact mS_ast (t := 0) (Or.inl rfl) hF hd hI hl hll hs kk
  | bastore => cases hn; have hlen : 1 = len := hlen; subst hlen; exact mS_ast (t := 1) (Or.inr rfl) hF hd hI hl hll hs kk
  | lastore => cases hn; have hlen : 1 = len := hlen; subst hlen; exact mS_last hF hd hI hl hll hs kk
  | aastore => cases hn; have hlen : 1 = len := hlen; subst hlen; exact mS_aast hF hd hI hl hll hs kk
  | arraylength => cases hn; have hlen : 1 = len := hlen; subst hlen; exact mS_len hF hd hI hl hll hs kk
  | invokestatic k =>
    have hlen : 3 = len := hlen; subst hlen
    simp only [mNorm] at hn
    cases hc : mLk (mOw M) k mAc with
    | some v => rw [hc] at hn; cases hn; exact mS_copy hF (mLk_mem hc) hR hd hI hl hll hs kk
    | none =>
      rw [hc] at hn
      dsimp only at hn
      split at hn <;> cases hn
      cases hs
  | invokespecial k =>
    have hlen : 3 = len := hlen; subst hlen
    simp only [mNorm] at hn
    cases hc : mLk (mOw M) k mOi with
    | some v =>
      rw [hc] at hn; cases hn
      obtain ⟨a, st0, rfl, h8, rfl⟩ := mNop_inv hs
      exact W.objInit hx hb hown (hts _ (wm_oi (mLk_mem hc))) (hts _ wo_oin) (hts _ wo_oic) rfl (hl.1.trans (hll.trans hml.symm)) rfl hd hR.1 (by have h9 : ((st0.map (mRv G)).map fun v => v.category).sum ≤ 8 := (by rw [mRv_sum hU]; exact h8); have := lv_room (m := m) (pc := pc) (ls := ls) (rest := (Value.ref a :: st0).map (mRv G)) h9; omega) (kk H locs ls cells slots hI hl hll)
    | none =>
      rw [hc] at hn
      dsimp only at hn
      split at hn
      · cases hn; cases hs
      · split at hn <;> cases hn
        cases hs
  | invokevirtual k =>
    simp only [mNorm] at hn
    split at hn
    · cases hn; cases hs
    · split at hn <;> cases hn
      cases hs
  | new k =>
    have hlen : 3 = len := hlen; subst hlen
    simp only [mNorm] at hn
    split at hn
    · rename_i j hj
      unfold mThr at hj
      split at hj
      · split at hj
        · cases hj; cases hn; cases hs
        · cases hj
      · cases hj
    · split at hn
      · rename_i ci hc
        cases hn
        refine mS_new hF (mLk_mem hc) ⟨mCn_ok (mLk_mem hc), ?_⟩ hd hI hl hll hs hcap kk
        have hcc : (mCn.all fun e => !(e.2.2 == 6)) = true := by decide +kernel
        have := List.all_eq_true.mp hcc _ (mLk_mem hc)
        simpa using this
      · cases hn
  | newarray t => cases hn; have hlen : 2 = len := hlen; subst hlen; exact mS_newa hF hd hI hl hll hs hcap kk
  | anewarray k =>
    have hlen : 3 = len := hlen; subst hlen
    simp only [mNorm] at hn
    split at hn
    · rename_i v hc; cases hn; exact mS_newq hF (mLk_mem hc) hd hI hl hll hs hcap kk
    · cases hn
  | multianewarray k dims =>
    have hlen : 4 = len := hlen; subst hlen
    unfold mNorm at hn
    split at hn <;> first | (cases hn; done) | skip
    all_goals first | contradiction | skip
    rename_i k' heq
    cases heq
    split at hn
    · rename_i v hc; cases hn; exact mS_multi hF (mLk_mem hc) hd hI hl hll hs hcap kk
    · cases hn
  | ireturn => cases hn; cases hs
  | return_ => cases hn; cases hs
  | _ => cases hn
end STEP4
