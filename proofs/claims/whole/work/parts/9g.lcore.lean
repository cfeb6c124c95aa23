/-! TEXTS, 11: signs of the law, side by side -/
theorem zTc_app : ∀ {xs ys : List Int} {ts us : List Bool}, zTc xs ts = some us → zTc (xs ++ ys) ts = zTc ys us
  | [], ys, ts, us, h => by
    cases h
    rfl
  | c :: xs, ys, ts, us, h => by
    rw [List.cons_append]
    have hh : ∀ ts', zTc xs ts' = some us → zTc (xs ++ ys) ts' = zTc ys us := fun _ q => zTc_app q
    generalize zTc ys us = R at hh ⊢
    unfold zTc at h ⊢
    by_cases h1 : 0 ≤ c ∧ c < 1008
    · rw [if_pos h1] at h ⊢
      by_cases h2 : ts.length < 20
      · rw [if_pos h2] at h ⊢; exact hh _ h
      · rw [if_neg h2] at h; cases h
    rw [if_neg h1] at h ⊢
    by_cases h8 : c = 1008
    · rw [if_pos h8] at h ⊢
      match ts, h with
      | true :: ts, h => exact hh _ h
    rw [if_neg h8] at h ⊢
    by_cases h9 : c = 1009
    · rw [if_pos h9] at h ⊢
      match ts, h with
      | false :: false :: ts, h => exact hh _ h
    rw [if_neg h9] at h ⊢
    by_cases h10 : c = 1010 ∨ c = 1011
    · rw [if_pos h10] at h ⊢
      match ts, h with
      | false :: false :: ts, h => exact hh _ h
    rw [if_neg h10] at h ⊢
    by_cases h12 : c = 1012 ∨ c = 1013
    · rw [if_pos h12] at h ⊢
      match ts, h with
      | true :: true :: ts, h => exact hh _ h
    rw [if_neg h12] at h
    cases h
/-- one sign more -/
theorem zTc_push {cs : List Int} {ts : List Bool} {c : Int} (h : zTc cs [] = some ts) (hc : 0 ≤ c ∧ c < 1008) (hl : ts.length < 20) : zTc (cs ++ [c]) [] = some (decide (1006 ≤ c) :: ts) := by
  rw [zTc_app h]
  unfold zTc
  rw [if_pos hc, if_pos hl]
  rfl
theorem zTc_not {cs : List Int} {ts : List Bool} (h : zTc cs [] = some (true :: ts)) : zTc (cs ++ [1008]) [] = some (true :: ts) := by
  rw [zTc_app h]; rfl
theorem zTc_plus {cs : List Int} {ts : List Bool} (h : zTc cs [] = some (false :: false :: ts)) : zTc (cs ++ [1009]) [] = some (false :: ts) := by
  rw [zTc_app h]; rfl
theorem zTc_cmp {cs : List Int} {ts : List Bool} {c : Int} (hc : c = 1010 ∨ c = 1011) (h : zTc cs [] = some (false :: false :: ts)) : zTc (cs ++ [c]) [] = some (true :: ts) := by
  rw [zTc_app h]
  rcases hc with rfl | rfl <;> rfl
theorem zTc_and {cs : List Int} {ts : List Bool} {c : Int} (hc : c = 1012 ∨ c = 1013) (h : zTc cs [] = some (true :: true :: ts)) : zTc (cs ++ [c]) [] = some (true :: ts) := by
  rw [zTc_app h]
  rcases hc with rfl | rfl <;> rfl
theorem zLst_snoc {g : Int → Int} {e : Int} {cs : List Int} {c : Int} (h : zLst g e cs.length = cs) : zLst (fun i => if i = e + cs.length then c else g i) e (cs ++ [c]).length = cs ++ [c] := by
  rw [List.length_append, show ([c] : List Int).length = 1 from rfl, zLst_add]
  have h1 : zLst (fun i => if i = e + cs.length then c else g i) e cs.length = cs := by
    refine Eq.trans ?_ h
    exact zLst_ext (fun j hj => by rw [if_neg (by omega)])
  rw [h1]
  show cs ++ [(if e + (cs.length : Int) = e + cs.length then c else g (e + cs.length))] = cs ++ [c]
  rw [if_pos rfl]
theorem zCds_snoc {w : Int → Int} : ∀ {cs : List Int} {e c : Int}, zCds w e cs → zCd (w (472 + 2 * (e + cs.length))) (w (472 + 2 * (e + cs.length) + 1)) c → zCds w e (cs ++ [c])
  | [], e, c, _, h => ⟨by simpa using h, trivial⟩
  | x :: cs, e, c, h, h2 => ⟨h.1, zCds_snoc h.2 (by
    have : ((x :: cs).length : Int) = cs.length + 1 := by simp
    rw [this] at h2
    rw [show e + 1 + (cs.length : Int) = e + (cs.length + 1) by omega]; exact h2)⟩
theorem zCds_same {w w' : Int → Int} : ∀ {cs : List Int} {e : Int}, (∀ i, 472 + 2 * e ≤ i → i < 472 + 2 * (e + cs.length) → w' i = w i) → zCds w e cs → zCds w' e cs
  | [], _, _, _ => trivial
  | c :: cs, e, h, hc => by
    have hl : ((c :: cs).length : Int) = cs.length + 1 := by simp
    refine ⟨?_, zCds_same (fun i i1 i2 => h i (by omega) (by omega)) hc.2⟩
    rw [h _ (by omega) (by omega), h _ (by omega) (by omega)]
    exact hc.1
/-- in the midst of a line: the class; the reference -/
def zCl (A : Nat → Int → Int) (T : Int → Int) (n p e0 : Int) (cs : List Int) : Prop := zTx A T n ∧ (0 ≤ p ∧ p ≤ n) ∧ zTk A T n p ∧ A 163 2 = e0 + cs.length ∧ zLst (A 167) e0 cs.length = cs ∧ 0 ≤ e0 ∧ e0 + cs.length + 1 ≤ p
def zRl (B : Nat → Int → Int) (T : Int → Int) (n p e0 : Int) (cs : List Int) (dp : Int) : Prop := zTr B T n ∧ B 185 10 = p ∧ B 185 13 = dp ∧ B 185 16 = e0 + cs.length ∧ zCds (fun i => B 186 (i + 849)) e0 cs
def zKl (e0 : Int) (A A' : Nat → Int → Int) : Prop := (∀ c, c ≠ 1 → c ≠ 163 → c ≠ 167 → c ≠ 172 → A' c = A c) ∧ (∀ j, j ≠ 2 → A' 163 j = A 163 j) ∧ ∀ i, i < e0 → A' 167 i = A 167 i
def zLl (e0 : Int) (B B' : Nat → Int → Int) : Prop := (∀ j, j ≠ 10 → j ≠ 12 → j ≠ 13 → j ≠ 16 → B' 185 j = B 185 j) ∧ (∀ c, c ≠ 185 → c ≠ 186 → B' c = B c) ∧ ∀ i, i < 1321 + 2 * e0 → B' 186 i = B 186 i
theorem zKl_refl {e0 : Int} {A : Nat → Int → Int} : zKl e0 A A := ⟨fun _ _ _ _ _ => rfl, fun _ _ => rfl, fun _ _ => rfl⟩
theorem zKl_trans {e0 : Int} {A B C : Nat → Int → Int} (h1 : zKl e0 A B) (h2 : zKl e0 B C) : zKl e0 A C := ⟨fun c a b e f => by rw [h2.1 c a b e f, h1.1 c a b e f], fun j a => by rw [h2.2.1 j a, h1.2.1 j a], fun i a => by rw [h2.2.2 i a, h1.2.2 i a]⟩
theorem zKl_1 {e0 : Int} {A B : Nat → Int → Int} (h : ∀ c, c ≠ 1 → B c = A c) : zKl e0 A B := ⟨fun c a _ _ _ => h c a, fun j _ => by rw [h 163 (by decide)], fun i _ => by rw [h 167 (by decide)]⟩
theorem zLl_refl {e0 : Int} {A : Nat → Int → Int} : zLl e0 A A := ⟨fun _ _ _ _ _ => rfl, fun _ _ _ => rfl, fun _ _ => rfl⟩
theorem zLl_trans {e0 : Int} {A B C : Nat → Int → Int} (h1 : zLl e0 A B) (h2 : zLl e0 B C) : zLl e0 A C := ⟨fun j a b c e => by rw [h2.1 j a b c e, h1.1 j a b c e], fun c a b => by rw [h2.2.1 c a b, h1.2.1 c a b], fun i a => by rw [h2.2.2 i a, h1.2.2 i a]⟩
theorem zLl_fp {e0 : Int} {A B : Nat → Int → Int} (h : zFp A B) : zLl e0 A B := ⟨fun j a b _ _ => h.1 j a b, fun c a _ => h.2 c a, fun i _ => by rw [h.2 186 (by decide)]⟩
theorem zLl_13 {e0 v : Int} {A : Nat → Int → Int} : zLl e0 A (zU A 185 13 v) := ⟨fun j _ _ a _ => zU_s a, fun c a _ => zU_r a, fun i _ => by rw [zU_r (by decide)]⟩
theorem zTr_ll {e0 : Int} {B C : Nat → Int → Int} {T : Int → Int} {n : Int} (h : zTr B T n) (hf : zLl e0 B C) : zTr C T n := by
  unfold zTr
  rw [hf.1 11 (by decide) (by decide) (by decide) (by decide), hf.2.1 191 (by decide) (by decide)]
  exact h
theorem zRl_fp {B C : Nat → Int → Int} {T : Int → Int} {n p p' e0 dp : Int} {cs : List Int} (h : zRl B T n p e0 cs dp) (hf : zFp B C) (h10 : C 185 10 = p') : zRl C T n p' e0 cs dp := by
  obtain ⟨h1, -, h3, h4, h5⟩ := h
  refine ⟨zTr_fp h1 hf, h10, by rw [hf.1 13 (by decide) (by decide)]; exact h3, by rw [hf.1 16 (by decide) (by decide)]; exact h4, ?_⟩
  rw [hf.2 186 (by decide)]; exact h5
theorem zRl_13 {B : Nat → Int → Int} {T : Int → Int} {n p e0 dp v : Int} {cs : List Int} (h : zRl B T n p e0 cs dp) : zRl (zU B 185 13 v) T n p e0 cs v := by
  obtain ⟨h1, h2, h3, h4, h5⟩ := h
  refine ⟨zTr_ll (e0 := 0) h1 zLl_13, by rw [zU_s (by decide)]; exact h2, zU_at, by rw [zU_s (by decide)]; exact h4, ?_⟩
  rw [zU_r (by decide)]; exact h5
/-- a piece of a condition, read by both -/
def zPlw (ar : Nat → Nat × (Nat → Int32)) (K : Nat → Nat → Option Nat) (O : Nat → Int64) (t D1 M1 c1 : Nat) (l1 : List Value) (D2 M2 c2 : Nat) (l2 : List Value) (A : Nat → Int → Int) (T : Int → Int) (n p e0 : Int) (cs : List Int) (dp : Int) (ts : List Bool) (cr : Int) : Prop :=
  ∃ (A' : Nat → Int → Int) (r p' : Int) (cs' : List Int), mGd ar D1 M1 c1 l1 [] (zW K A O t) = some (.inl (some (.int (zI r))), zW K A' O t) ∧ (r = 0 ∨ r = 1) ∧ (r = 1 → zCl A' T n p' e0 cs' ∧ (p ≤ p' ∧ (cs'.length : Int) + p ≤ cs.length + p' + cr) ∧ zTc cs' [] = some ts) ∧ (r = 0 → 0 ≤ A' 1 3 ∧ A' 1 3 ≤ n) ∧ zTx A' T n ∧ zKl e0 A A' ∧ ∀ (O' : Nat → Int64) (t' : Nat) (B : Nat → Int → Int), zRl B T n p e0 cs dp → ∃ B', mGd ar D2 M2 c2 l2 [] (zW K B O' t') = some (.inl (some (.int (zI r))), zW K B' O' t') ∧ zLl e0 B B' ∧ (r = 1 → zRl B' T n p' e0 cs' dp) ∧ (r = 0 → B' 185 12 = A' 1 3)
section LCORE
variable {ar : Nat → Nat × (Nat → Int32)} {d t : Nat} {K : Nat → Nat → Option Nat} {A : Nat → Int → Int} {O : Nat → Int64}
theorem zPlw_no {D1 M1 c1 D2 M2 c2 : Nat} {l1 l2 : List Value} {T : Int → Int} {n p e0 dp cr : Int} {cs : List Int} {ts : List Bool} {A' : Nat → Int → Int} (h1 : mGd ar D1 M1 c1 l1 [] (zW K A O t) = some (.inl (some (.int (zI 0))), zW K A' O t)) (h3 : 0 ≤ A' 1 3 ∧ A' 1 3 ≤ n) (hx : zTx A' T n) (hk : zKl e0 A A') (h2 : ∀ (O' : Nat → Int64) (t' : Nat) (B : Nat → Int → Int), zRl B T n p e0 cs dp → ∃ B', mGd ar D2 M2 c2 l2 [] (zW K B O' t') = some (.inl (some (.int (zI 0))), zW K B' O' t') ∧ zLl e0 B B' ∧ B' 185 12 = A' 1 3) : zPlw ar K O t D1 M1 c1 l1 D2 M2 c2 l2 A T n p e0 cs dp ts cr :=
  ⟨A', 0, 0, [], h1, Or.inl rfl, fun q => by omega, fun _ => h3, hx, hk, fun O' t' B b1 => by
    obtain ⟨B', g1, g2, g3⟩ := h2 O' t' B b1
    exact ⟨B', g1, g2, fun q => by omega, fun _ => g3⟩⟩
theorem zPlw_ok {D1 M1 c1 D2 M2 c2 : Nat} {l1 l2 : List Value} {T : Int → Int} {n p p' e0 dp cr : Int} {cs cs' : List Int} {ts : List Bool} {A' : Nat → Int → Int} (h1 : mGd ar D1 M1 c1 l1 [] (zW K A O t) = some (.inl (some (.int (zI 1))), zW K A' O t)) (hc : zCl A' T n p' e0 cs') (hpp : p ≤ p' ∧ (cs'.length : Int) + p ≤ cs.length + p' + cr) (hT : zTc cs' [] = some ts) (hk : zKl e0 A A') (h2 : ∀ (O' : Nat → Int64) (t' : Nat) (B : Nat → Int → Int), zRl B T n p e0 cs dp → ∃ B', mGd ar D2 M2 c2 l2 [] (zW K B O' t') = some (.inl (some (.int (zI 1))), zW K B' O' t') ∧ zLl e0 B B' ∧ zRl B' T n p' e0 cs' dp) : zPlw ar K O t D1 M1 c1 l1 D2 M2 c2 l2 A T n p e0 cs dp ts cr :=
  ⟨A', 1, p', cs', h1, Or.inr rfl, fun _ => ⟨hc, hpp, hT⟩, fun q => by omega, hc.1, hk, fun O' t' B b1 => by
    obtain ⟨B', g1, g2, g3⟩ := h2 O' t' B b1
    exact ⟨B', g1, g2, fun _ => g3, fun q => by omega⟩⟩
/-- first this, then a piece -/
theorem zPlw_seq {D1 M1 c1 D2 M2 c2 E1 N1 k1 E2 N2 k2 : Nat} {l1 l2 m1 m2 : List Value} {T : Int → Int} {n p q e0 dp dq cr ck : Int} {cs cq : List Int} {ts : List Bool} {C : Nat → Int → Int} (hk : zKl e0 A C) (hpq : p ≤ q ∧ (cq.length : Int) + p + ck ≤ cs.length + q + cr) (hP : zPlw ar K O t D1 M1 c1 l1 D2 M2 c2 l2 C T n q e0 cq dq ts ck) (hd : dq = dp) (hc : ∀ z, mGd ar D1 M1 c1 l1 [] (zW K C O t) = some z → mGd ar E1 N1 k1 m1 [] (zW K A O t) = some z) (hr : ∀ (O' : Nat → Int64) (t' : Nat) (B : Nat → Int → Int), zRl B T n p e0 cs dp → ∃ B2, zLl e0 B B2 ∧ zRl B2 T n q e0 cq dq ∧ ∀ z, mGd ar D2 M2 c2 l2 [] (zW K B2 O' t') = some z → mGd ar E2 N2 k2 m2 [] (zW K B O' t') = some z) : zPlw ar K O t E1 N1 k1 m1 E2 N2 k2 m2 A T n p e0 cs dp ts cr := by
  subst hd
  obtain ⟨A', r, p', cs', e1, e2, e3, e4, e5, e6, e7⟩ := hP
  refine ⟨A', r, p', cs', hc _ e1, e2, fun q => ⟨(e3 q).1, by have := (e3 q).2.1; omega, (e3 q).2.2⟩, e4, e5, zKl_trans hk e6, fun O' t' B b1 => ?_⟩
  obtain ⟨B2, y1, y2, y3⟩ := hr O' t' B b1
  obtain ⟨B', x1, x2, x3⟩ := e7 O' t' B2 y2
  exact ⟨B', y3 _ x1, zLl_trans y1 x2, x3⟩
theorem zPlw_dp {D1 M1 c1 D2 M2 c2 E1 E2 : Nat} {l1 l2 : List Value} {T : Int → Int} {n p e0 dp cr : Int} {cs : List Int} {ts : List Bool} (hP : zPlw ar K O t D1 M1 c1 l1 D2 M2 c2 l2 A T n p e0 cs dp ts cr) (h1 : D1 ≤ E1) (h2 : D2 ≤ E2) : zPlw ar K O t E1 M1 c1 l1 E2 M2 c2 l2 A T n p e0 cs dp ts cr := by
  obtain ⟨A', r, p', cs', e1, e2, e3, e4, e5, e6, e7⟩ := hP
  refine ⟨A', r, p', cs', mGd_dp e1 h1, e2, e3, e4, e5, e6, fun O' t' B b1 => ?_⟩
  obtain ⟨B', x1, x2⟩ := e7 O' t' B b1
  exact ⟨B', mGd_dp x1 h2, x2⟩
theorem isLaw163 : isLaw 163 := by unfold isLaw; omega
/-- the class adds a sign -/
def zAdd (A : Nat → Int → Int) (c : Int) : Nat → Int → Int := zU (zU A 167 (A 163 2) c) 163 2 (A 163 2 + 1)
theorem c_addS {c : Int} (h : 0 ≤ A 163 2 ∧ A 163 2 < 400) : mGd ar (d) 98 0 [.ref 163, .int (zI c)] [] (zW K A O t) = some (.inl none, zW K (zAdd A c) O t) := by
  rw [i98_0 isLaw163 (by omega), if_neg (by omega), i98_10 isLaw163 h, i98_30 isLaw163]
  unfold zAdd
  rw [show (zU A (163 + 4) (A 163 2) c) 163 2 = A 163 2 from by rw [zU_r (by decide)]]
theorem zAdd_kl {e0 c : Int} (h : e0 ≤ A 163 2) : zKl e0 A (zAdd A c) := by
  unfold zAdd
  exact ⟨fun x _ h2 h3 _ => by rw [zU_r h2, zU_r h3], fun j hj => by rw [zU_s hj, zU_r (by decide)], fun i hi => by rw [zU_r (by decide), zU_s (by omega)]⟩
theorem zAdd_1 {c : Int} : (zAdd A c) 1 = A 1 ∧ (zAdd A c) 2 = A 2 := by
  unfold zAdd
  exact ⟨by rw [zU_r (by decide), zU_r (by decide)], by rw [zU_r (by decide), zU_r (by decide)]⟩
theorem zAdd_tx {c n : Int} {T : Int → Int} (h : zTx A T n) : zTx (zAdd A c) T n := zTx_u h (by rw [zAdd_1.1]) zAdd_1.2
theorem zAdd_tk {c n p : Int} {T : Int → Int} (h : zTk A T n p) : zTk (zAdd A c) T n p := by
  unfold zTk
  rw [zAdd_1.1]; exact h
theorem zAdd_2 {c e0 : Int} {cs : List Int} (h2 : A 163 2 = e0 + cs.length) : (zAdd A c) 163 2 = e0 + (cs ++ [c]).length := by
  unfold zAdd
  rw [zU_at, h2, List.length_append, show ([c] : List Int).length = 1 from rfl]
  omega
theorem zAdd_l {c e0 : Int} {cs : List Int} (h2 : A 163 2 = e0 + cs.length) (hl : zLst (A 167) e0 cs.length = cs) : zLst ((zAdd A c) 167) e0 (cs ++ [c]).length = cs ++ [c] := by
  refine Eq.trans ?_ (zLst_snoc (g := A 167) (c := c) hl)
  refine zLst_ext (fun j hj => ?_)
  unfold zAdd
  rw [zU_r (by decide)]
  show (zU A 167 (A 163 2) c) 167 (e0 + j) = if e0 + (j : Int) = e0 + cs.length then c else A 167 (e0 + j)
  by_cases he : e0 + (j : Int) = e0 + cs.length
  · rw [if_pos he, he, ← h2, zU_at]
  · rw [if_neg he, zU_s (by omega)]
/-- the reference adds one -/
theorem c_emits {e s v : Int} (h : A 185 16 = e) (he : 0 ≤ e ∧ e < 400) : ∃ C, mGd ar (d) 248 0 [.ref 185, .int (zI s), .int (zI v)] [] (zW K A O t) = some (.inl none, zW K C O t) ∧ C 185 16 = e + 1 ∧ C 186 (1321 + 2 * e) = s ∧ C 186 (1321 + 2 * e + 1) = v ∧ (∀ i, i ≠ 1321 + 2 * e → i ≠ 1321 + 2 * e + 1 → C 186 i = A 186 i) ∧ (∀ j, j ≠ 16 → C 185 j = A 185 j) ∧ (∀ c, c ≠ 185 → c ≠ 186 → C c = A c) := by
  have e1 : (zU A 186 (1321 + 2 * e) s) 185 16 = e := by rw [zU_r (by decide), h]
  have e2 : (zU (zU A 186 (1321 + 2 * e) s) 186 (1321 + 2 * e + 1) v) 185 16 = e := by rw [zU_r (by decide), e1]
  refine ⟨zU (zU (zU A 186 (1321 + 2 * e) s) 186 (1321 + 2 * e + 1) v) 185 16 (e + 1), ?_, zU_at, by rw [zU_r (by decide), zU_s (by omega), zU_at], by rw [zU_r (by decide), zU_at], fun i i1 i2 => by rw [zU_r (by decide), zU_s i2, zU_s i1], fun j hj => by rw [zU_s hj, zU_r (by decide), zU_r (by decide)], fun c c1 c2 => by rw [zU_r c1, zU_r c2, zU_r c2]⟩
  rw [i248_0 (by omega) (by rw [h, e1]; omega), h, e1, e2]
/-- what is emitted is the sign that is added -/
theorem zRl_em {B C : Nat → Int → Int} {T : Int → Int} {n p e0 dp c : Int} {cs : List Int} (h : zRl B T n p e0 cs dp) (h16 : C 185 16 = e0 + cs.length + 1) (hcd : zCd (C 186 (1321 + 2 * (e0 + cs.length))) (C 186 (1321 + 2 * (e0 + cs.length) + 1)) c) (ho : ∀ i, i ≠ 1321 + 2 * (e0 + cs.length) → i ≠ 1321 + 2 * (e0 + cs.length) + 1 → C 186 i = B 186 i) (hj : ∀ j, j ≠ 16 → C 185 j = B 185 j) (hc : ∀ c, c ≠ 185 → c ≠ 186 → C c = B c) : zRl C T n p e0 (cs ++ [c]) dp := by
  obtain ⟨⟨x1, x2, x3⟩, h2, h3, h4, h5⟩ := h
  refine ⟨⟨x1, by rw [hj 11 (by decide)]; exact x2, by rw [hc 191 (by decide) (by decide)]; exact x3⟩, by rw [hj 10 (by decide)]; exact h2, by rw [hj 13 (by decide)]; exact h3, ?_, ?_⟩
  · rw [h16, List.length_append, show ([c] : List Int).length = 1 from rfl]; omega
  · refine zCds_snoc (zCds_same (fun i i1 i2 => ?_) h5) ?_
    · show C 186 (i + 849) = B 186 (i + 849)
      exact ho _ (by omega) (by omega)
    · show zCd (C 186 (472 + 2 * (e0 + cs.length) + 849)) (C 186 (472 + 2 * (e0 + cs.length) + 1 + 849)) c
      rw [show 472 + 2 * (e0 + (cs.length : Int)) + 849 = 1321 + 2 * (e0 + cs.length) by omega, show 472 + 2 * (e0 + (cs.length : Int)) + 1 + 849 = 1321 + 2 * (e0 + cs.length) + 1 by omega]
      exact hcd
theorem zLl_em {B C : Nat → Int → Int} {e0 e : Int} (he : e0 ≤ e) (ho : ∀ i, i ≠ 1321 + 2 * e → i ≠ 1321 + 2 * e + 1 → C 186 i = B 186 i) (hj : ∀ j, j ≠ 16 → C 185 j = B 185 j) (hc : ∀ c, c ≠ 185 → c ≠ 186 → C c = B c) : zLl e0 B C := ⟨fun j _ _ _ a => hj j a, hc, fun i hi => ho i (by omega) (by omega)⟩
theorem c_takeL {T : Int → Int} {n p lo hi : Int} (hx : zTx A T n) (hk : zTk A T n p) (hp : 0 ≤ p ∧ p ≤ n) (hl : (-1000 ≤ lo ∧ lo ≤ 1000) ∧ -1000 ≤ hi ∧ hi ≤ 1000) : (zNm T n p lo hi ∧ ∃ C, mGd ar (d + 1) 81 0 [.ref 172, .int (zI lo), .int (zI hi)] [] (zW K A O t) = some (.inl (some (.int (zI 1))), zW K C O t) ∧ C 172 1 = zVl T n p ∧ zTk C T n (zBh T n p) ∧ zTx C T n ∧ (∀ c, c ≠ 1 → c ≠ 172 → C c = A c)) ∨ (¬ zNm T n p lo hi ∧ mGd ar (d + 1) 81 0 [.ref 172, .int (zI lo), .int (zI hi)] [] (zW K A O t) = some (.inl (some (.int (zI 0))), zW K A O t)) := by
  obtain ⟨r, r1, r2, r3⟩ := c_isNumber (d := d) (K := K) (O := O) (t := t) (ar := ar) hk hp.2 hl
  have hb := zBg_rng (T := T) hp.2
  have hbh := zBh_rng (T := T) hp.2
  by_cases h : zNm T n p lo hi
  · left
    have e1 : r = 1 := r3.2 h
    have e5 : (zU A 172 1 (A 1 5)) 1 4 = zBh T n p := by rw [zU_r (by decide), hk.2.1]
    obtain ⟨C, q1, q2, q3, q4, q5⟩ := c_advance (d := d) (K := K) (O := O) (t := t) (ar := ar) (A := zU A 172 1 (A 1 5)) (zTx_u hx (by simp (disch := first | assumption | omega) only [zU_at, zU_c, zU_s, zU_r]) (by simp (disch := first | assumption | omega) only [zU_at, zU_c, zU_s, zU_r])) e5 (by omega)
    refine ⟨h, C, ?_, ?_, q2, q3, fun c c1 c2 => by rw [q5 c c1, zU_r c2]⟩
    · rw [i81l_0, r1, mB1_i, i81l_9 (by omega), if_neg (by omega), i81l_14, q1, mB0_i, i81l_32]
    · rw [q5 172 (by decide), zU_at, hk.2.2.2]
  · right
    have e0 : r = 0 := by
      rcases r2 with q | q
      · exact q
      · exact absurd (r3.1 q) h
    exact ⟨h, by rw [i81l_0, r1, mB1_i, i81l_9 (by omega), if_pos e0, i81l_12]⟩
end LCORE
