/-! THE SMALL MACHINE IS THE MACHINE, 1: how cells, values and locals of the small machine stand in the heap -/
abbrev mG : Type := va_G × (Nat → ClassId) × Nat × (Nat → Nat) × Value × (Nat → Nat × (Nat → Int32))
abbrev gD (G : mG) : va_G := G.1
abbrev gT (G : mG) : Nat → ClassId := G.2.1
abbrev gB (G : mG) : Nat := G.2.2.1
abbrev gS (G : mG) : Nat → Nat := G.2.2.2.1
abbrev gU (G : mG) : Value := G.2.2.2.2.1
abbrev gA (G : mG) : Nat → Nat × (Nat → Int32) := G.2.2.2.2.2
abbrev gF (G : mG) : Nat → Prop := fun q => gB G ≤ q
def mRv (G : mG) : Value → Value
  | .ref a => .ref (gB G + a)
  | .retAddr k => if k < 200 then .ref (gS G k) else gU G
  | .int x => .int x
  | .long x => .long x
  | .float x => .float x
  | .double x => .double x
  | .null => .null
def mRe (G : mG) : va_E → va_E
  | .inl (t, n, .inr (.inr (.inr (.inr f)))) => .inl (gT G t, n, .inr (.inr (.inr (.inr fun i => (f i).map fun a => gB G + a))))
  | .inl (t, x) => .inl (gT G t, x)
  | .inr (k, fs) => .inr (k, fs.map (mRv G))
def mWl (G : mG) (w : mW) : va_W := (List.range w.2.1).map fun i => (gB G + i, mRe G (w.1 i))
theorem mWl_len (G : mG) (w : mW) : (mWl G w).length = w.2.1 := by simp [mWl]
theorem mWl_at {G : mG} {w : mW} {a : Nat} (h : a < w.2.1) : (mWl G w)[a]? = some (gB G + a, mRe G (w.1 a)) := by
  simp [mWl, h]
theorem mWl_of {G : mG} {w : mW} {k : Nat} {q : Nat × va_E} (h : (mWl G w)[k]? = some q) : k < w.2.1 ∧ q = (gB G + k, mRe G (w.1 k)) := by
  have hk : k < w.2.1 := by
    have := (List.getElem?_eq_some_iff.mp h).1
    rwa [mWl_len] at this
  rw [mWl_at hk] at h
  exact ⟨hk, (Option.some.inj h).symm⟩
theorem mWl_D (G : mG) (w : mW) : va_D (gF G) (mWl G w) := by
  refine ⟨fun i j p q hi hj h => ?_, fun k q hk => ?_⟩
  · obtain ⟨-, rfl⟩ := mWl_of hi
    obtain ⟨-, rfl⟩ := mWl_of hj
    have h : gB G + i = gB G + j := h
    omega
  · obtain ⟨-, rfl⟩ := mWl_of hk
    show gB G ≤ gB G + k
    omega
theorem mUp_at {α : Type} (f : Nat → α) (k : Nat) (v : α) : va_up f k v k = v := by simp [va_up]
theorem mUp_ne {α : Type} {f : Nat → α} {k j : Nat} {v : α} (h : j ≠ k) : va_up f k v j = f j := by simp [va_up, h]
theorem mWl_set {G : mG} {w : mW} {a : Nat} {e e' : va_E} (h : a < w.2.1) (he : mRe G e = e') : (mWl G w).set a (gB G + a, e') = mWl G (va_up w.1 a e, w.2) := by
  apply List.ext_getElem?
  intro k
  by_cases hk : k < w.2.1
  · rw [mWl_at (w := (va_up w.1 a e, w.2)) hk]
    by_cases hka : k = a
    · subst hka
      rw [List.getElem?_set_self (by rw [mWl_len]; exact hk)]
      show _ = some (gB G + k, mRe G (va_up w.1 k e k))
      rw [mUp_at, he]
    · rw [List.getElem?_set_ne (Ne.symm hka), mWl_at hk]
      show _ = some (gB G + k, mRe G (va_up w.1 a e k))
      rw [mUp_ne hka]
  · rw [List.getElem?_eq_none (by rw [List.length_set, mWl_len]; omega), List.getElem?_eq_none (by rw [mWl_len]; show w.2.1 ≤ k; omega)]
theorem mWl_push (G : mG) (f : Nat → va_E) (n : Nat) (x y : Nat × Nat) (e : va_E) : mWl G (va_up f n e, n + 1, x) = mWl G (f, n, y) ++ [(gB G + n, mRe G e)] := by
  unfold mWl
  show (List.range (n + 1)).map _ = (List.range n).map _ ++ _
  rw [List.range_succ, List.map_append]
  congr 1
  · apply List.map_congr_left
    intro i hi
    have : i ≠ n := by have := List.mem_range.mp hi; omega
    show (gB G + i, mRe G (va_up f n e i)) = (gB G + i, mRe G (f i))
    rw [mUp_ne this]
  · show [(gB G + n, mRe G (va_up f n e n))] = [(gB G + n, mRe G e)]
    rw [mUp_at]
/-- beyond the cells there is nothing -/
def mDef (w : mW) : Prop := ∀ a, w.2.1 ≤ a → w.1 a = .inr (999, [])
theorem mDef.arr {w : mW} (h : mDef w) {a : Nat} {x : ClassId × vp_A} (e : w.1 a = .inl x) : a < w.2.1 := by
  rcases Nat.lt_or_ge a w.2.1 with q | q
  · exact q
  · rw [h a q] at e; cases e
theorem mDef.obj {w : mW} (h : mDef w) {a k : Nat} {fs : List Value} (e : w.1 a = .inr (k, fs)) (hk : k ≠ 999) : a < w.2.1 := by
  rcases Nat.lt_or_ge a w.2.1 with q | q
  · exact q
  · rw [h a q] at e; cases e; exact absurd rfl hk
theorem mDef.up {w : mW} (h : mDef w) {a : Nat} (ha : a < w.2.1) (e : va_E) : mDef (va_up w.1 a e, w.2) := fun b hb => by
  show va_up w.1 a e b = _
  have hb : w.2.1 ≤ b := hb
  rw [mUp_ne (by omega)]
  exact h b hb
theorem mDef.push {w : mW} (h : mDef w) (e : va_E) (x : Nat × Nat) : mDef (va_up w.1 w.2.1 e, w.2.1 + 1, x) := fun b hb => by
  show va_up w.1 w.2.1 e b = _
  have hb : w.2.1 + 1 ≤ b := hb
  rw [mUp_ne (by omega)]
  exact h b (by omega)
/-- the heap holds the cells -/
def mNc (w : mW) : Nat := w.2.1 + w.2.2.2
def mNs (w : mW) : Nat := w.2.2.1 + 6 * w.2.2.2
def mInv (G : mG) (s : State) (c0 s0 : Nat) (w : mW) (H : Heap) (locs : List Loc) (cells slots : Nat) : Prop :=
  va_P (gD G) mCl (mWl G w) H ∧ mDef w ∧ va_S (gF G) s.heap H locs ∧ mNc w = c0 + cells ∧ mNs w = s0 + slots ∧ (w.2.2.2 = 0 → s.heap.size ≤ gB G + c0)
/-- a write to a cell that is there -/
theorem mInv.up {G : mG} {s : State} {c0 s0 : Nat} {w : mW} {H H1 : Heap} {locs locs1 : List Loc} {cells slots a : Nat} {e e' : va_E} (hI : mInv G s c0 s0 w H locs cells slots) (ha : a < w.2.1) (he : mRe G e = e')
    (hP : va_P (gD G) mCl ((mWl G w).set a (gB G + a, e')) H1) (hS : va_S (gF G) s.heap H1 locs1) : mInv G s c0 s0 (va_up w.1 a e, w.2) H1 locs1 cells slots := by
  obtain ⟨-, h3, -, h4, h5, h6⟩ := hI
  rw [mWl_set ha he] at hP
  exact ⟨hP, h3.up ha e, hS, h4, h5, h6⟩
theorem mWl_le {G : mG} {w : mW} {H : Heap} (hP : va_P (gD G) mCl (mWl G w) H) (h : gB G ≤ H.size) : gB G + w.2.1 ≤ H.size := by
  rcases Nat.eq_zero_or_pos w.2.1 with h0 | h0
  · omega
  · have := (hP (w.2.1 - 1) _ (mWl_at (by omega))).lt
    have h2 : gB G + (w.2.1 - 1) < H.size := this
    omega
/-- the locals -/
def mLR (G : mG) (ls : Array Slot) (l : List Value) : Prop := ls.size = l.length ∧ lv_wf ls ∧ ∀ (i : Nat) (v : Value), l[i]? = some v → v.category = 1 → ls[i]? = some (.val (mRv G v))
def mLp (G : mG) (l : List Value) : List (Nat × Value) := (List.range l.length).filterMap fun i => match l[i]? with
  | some v => if v.category = 1 then some (i, mRv G v) else none
  | none => none
theorem mLp_mem {G : mG} {l : List Value} {q : Nat × Value} : q ∈ mLp G l ↔ ∃ v, l[q.1]? = some v ∧ v.category = 1 ∧ q.2 = mRv G v := by
  unfold mLp
  rw [List.mem_filterMap]
  constructor
  · rintro ⟨i, -, h⟩
    cases hi : l[i]? with
    | none => rw [hi] at h; cases h
    | some v =>
      rw [hi] at h
      by_cases hc : v.category = 1
      · simp only [hc, if_true] at h
        cases h
        exact ⟨v, hi, hc, rfl⟩
      · simp only [hc, if_false] at h
        cases h
  · rintro ⟨v, h1, h2, h3⟩
    refine ⟨q.1, List.mem_range.mpr (List.getElem?_eq_some_iff.mp h1).1, ?_⟩
    rw [h1]
    simp only [h2, if_true]
    rw [← h3]
theorem mLR.has {G : mG} {ls : Array Slot} {l : List Value} (h : mLR G ls l) : lv_has ls l.length (mLp G l) := by
  refine ⟨h.1, h.2.1, fun q hq => ?_⟩
  obtain ⟨v, h1, h2, h3⟩ := mLp_mem.mp hq
  rw [h3]
  exact h.2.2 _ _ h1 h2
theorem mRv_cat {G : mG} (hU : (gU G).category = 1) {v : Value} (h : v.category = 1) : (mRv G v).category = 1 := by
  cases v with
  | retAddr k =>
    unfold mRv
    by_cases hk : k < 200
    · simp [hk, Value.category]
    · simp only [hk, if_false]; exact hU
  | _ => simp_all [mRv, Value.category]
theorem mLR.put {G : mG} (hU : (gU G).category = 1) {ls' : Array Slot} {l : List Value} {i : Nat} {v v' : Value} (hi : i < l.length) (hv : v.category = 1 → v' = mRv G v)
    (h : lv_has ls' l.length ((i, v') :: (mLp G l).filter (fun q => !(q.1 == i) && !(q.1 + 1 == i && q.2.category == 2)))) : mLR G ls' (l.set i v) := by
  refine ⟨by rw [h.1, List.length_set], h.2.1, fun j u hj hc => ?_⟩
  by_cases hji : j = i
  · subst hji
    rw [List.getElem?_set_self hi] at hj
    cases hj
    rw [← hv hc]
    exact h.2.2 (j, v') List.mem_cons_self
  · rw [List.getElem?_set_ne (Ne.symm hji)] at hj
    have hm : (j, mRv G u) ∈ mLp G l := mLp_mem.mpr ⟨u, hj, hc, rfl⟩
    refine h.2.2 (j, mRv G u) (List.mem_cons_of_mem _ (List.mem_filter.mpr ⟨hm, ?_⟩))
    have hc' := mRv_cat hU hc
    simp [hji, hc']
/-- the locals at a method's start -/
theorem mLg_sl {vs : List Value} (h : ∀ v ∈ vs, v.category = 1) : lg_sl vs = vs.map Slot.val := by
  induction vs with
  | nil => rfl
  | cons v vs ih =>
    have hv := h v List.mem_cons_self
    show (if v.category = 2 then _ else _) ++ lg_sl vs = _
    rw [ih fun u hu => h u (List.mem_cons_of_mem _ hu)]
    simp [hv]
theorem mLR.entry {G : mG} (hU : (gU G).category = 1) {M : Nat} {as : List Value} (h : ∀ v ∈ as, v.category = 1) (hn : as.length ≤ mLn M) :
    mLR G ((lg_sl (as.map (mRv G)) ++ List.replicate (mLn M - (lg_sl (as.map (mRv G))).length) Slot.unset).toArray) (mLoc M as) := by
  have hc : ∀ v ∈ as.map (mRv G), v.category = 1 := fun v hv => by
    obtain ⟨u, hu, rfl⟩ := List.mem_map.mp hv
    exact mRv_cat hU (h u hu)
  have hs := mLg_sl hc
  have hlen : (lg_sl (as.map (mRv G))).length = as.length := by rw [hs]; simp
  have he := lv_entry (as.map (mRv G)) (n := mLn M) (by rw [hlen]; exact hn)
  refine ⟨?_, he.2.1, fun i v hi hcv => ?_⟩
  · rw [he.1]
    unfold mLoc
    rw [List.length_append, List.length_replicate]
    omega
  · rw [hlen, hs]
    unfold mLoc at hi
    by_cases hl : i < as.length
    · rw [List.getElem?_append_left hl] at hi
      rw [List.getElem?_eq_getElem hl] at hi
      cases hi
      simp [hl, List.getElem?_append_left]
    · rw [List.getElem?_append_right (by omega)] at hi
      have := List.mem_of_getElem? hi
      rw [List.mem_replicate] at this
      rw [this.2] at hcv
      exact absurd hcv (by decide)
