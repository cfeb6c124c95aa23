/-! TEXTS, 15: a line of the law -/
theorem zLen_app {x : Int × Int × List Int} : ∀ {L : zLines}, zLen (L ++ [x]) = zLen L + x.2.2.length
  | [] => by show (x.2.2.length : Int) + 0 = 0 + x.2.2.length; omega
  | q :: L => by
    have := zLen_app (x := x) (L := L)
    show (q.2.2.length : Int) + zLen (L ++ [x]) = (q.2.2.length : Int) + zLen L + x.2.2.length
    omega
theorem zLok_app {x : Int × Int × List Int} : ∀ {L : zLines}, zLok L → ((x.1 = 0 ∨ x.1 = 1 ∨ x.1 = 2) ∧ (0 ≤ x.2.1 ∧ x.2.1 ≤ 20) ∧ (x.2.2 = [] ∨ zTc x.2.2 [] = some [true])) → zLok (L ++ [x])
  | [], _, h => ⟨h, trivial⟩
  | q :: L, h1, h => ⟨h1.1, zLok_app h1.2 h⟩
theorem zLwC_cg {A B : Nat → Int → Int} {b : Nat} : ∀ {L : zLines} {n e : Int}, (∀ i, n ≤ i → i < n + L.length → B (b + 1) i = A (b + 1) i ∧ B (b + 2) i = A (b + 2) i ∧ B (b + 3) i = A (b + 3) i) → (∀ i, e ≤ i → i < e + zLen L → B (b + 4) i = A (b + 4) i) → zLwC A b n e L → zLwC B b n e L
  | [], _, _, _, _, _ => trivial
  | q :: L, n, e, h1, h2, ⟨l1, l2, l3, l4, l5⟩ => by
    have hl : ((q :: L).length : Int) = L.length + 1 := by simp
    have hz : zLen (q :: L) = q.2.2.length + zLen L := rfl
    have hnn := zLen_nn (L := L)
    obtain ⟨a1, a2, a3⟩ := h1 n (by omega) (by omega)
    refine ⟨by rw [a1]; exact l1, by rw [a2]; exact l2, by rw [a3]; exact l3, ?_, zLwC_cg (fun i i1 i2 => h1 i (by omega) (by omega)) (fun i i1 i2 => h2 i (by omega) (by omega)) l5⟩
    refine Eq.trans ?_ l4
    exact zLst_ext (fun j hj => h2 _ (by omega) (by omega))
theorem zLwC_app {A : Nat → Int → Int} {b : Nat} {x : Int × Int × List Int} : ∀ {L : zLines} {n e : Int}, zLwC A b n e L → A (b + 1) (n + L.length) = x.1 → A (b + 2) (n + L.length) = x.2.1 → A (b + 3) (n + L.length) = e + zLen L + x.2.2.length → zLst (A (b + 4)) (e + zLen L) x.2.2.length = x.2.2 → zLwC A b n e (L ++ [x])
  | [], n, e, _, h1, h2, h3, h4 => by
    rw [show n + (([] : zLines).length : Int) = n by simp] at h1 h2 h3
    rw [show e + zLen [] = e from Int.add_zero e] at h3 h4
    exact ⟨h1, h2, h3, h4, trivial⟩
  | q :: L, n, e, ⟨l1, l2, l3, l4, l5⟩, h1, h2, h3, h4 => by
    have hl : ((q :: L).length : Int) = L.length + 1 := by simp
    have hz : zLen (q :: L) = q.2.2.length + zLen L := rfl
    rw [hl, show n + ((L.length : Int) + 1) = n + 1 + L.length by omega] at h1 h2 h3
    rw [hz, show e + ((q.2.2.length : Int) + zLen L) = e + q.2.2.length + zLen L by omega] at h3 h4
    exact ⟨l1, l2, l3, l4, zLwC_app l5 h1 h2 h3 h4⟩
theorem zLwR_cg {w w' : Int → Int} : ∀ {L : zLines} {n e : Int}, (∀ i, 424 + 4 * n ≤ i → i < 424 + 4 * (n + L.length) → w' i = w i) → (∀ i, 472 + 2 * e ≤ i → i < 472 + 2 * (e + zLen L) → w' i = w i) → zLwR w n e L → zLwR w' n e L
  | [], _, _, _, _, _ => trivial
  | q :: L, n, e, h1, h2, ⟨l1, l2, l3, l4, l5, l6⟩ => by
    have hl : ((q :: L).length : Int) = L.length + 1 := by simp
    have hz : zLen (q :: L) = q.2.2.length + zLen L := rfl
    have hnn := zLen_nn (L := L)
    exact ⟨by rw [h1 _ (by omega) (by omega)]; exact l1, by rw [h1 _ (by omega) (by omega)]; exact l2, by rw [h1 _ (by omega) (by omega)]; exact l3, by rw [h1 _ (by omega) (by omega)]; exact l4, zCds_same (fun i i1 i2 => h2 i (by omega) (by omega)) l5, zLwR_cg (fun i i1 i2 => h1 i (by omega) (by omega)) (fun i i1 i2 => h2 i (by omega) (by omega)) l6⟩
theorem zLwR_app {w : Int → Int} {x : Int × Int × List Int} : ∀ {L : zLines} {n e : Int}, zLwR w n e L → w (424 + 4 * (n + L.length)) = x.1 → w (424 + 4 * (n + L.length) + 1) = x.2.1 → w (424 + 4 * (n + L.length) + 2) = e + zLen L → w (424 + 4 * (n + L.length) + 3) = e + zLen L + x.2.2.length → zCds w (e + zLen L) x.2.2 → zLwR w n e (L ++ [x])
  | [], n, e, _, h1, h2, h3, h4, h5 => by
    rw [show n + (([] : zLines).length : Int) = n by simp] at h1 h2 h3 h4
    rw [show e + zLen [] = e from Int.add_zero e] at h3 h4 h5
    exact ⟨h1, h2, h3, h4, h5, trivial⟩
  | q :: L, n, e, ⟨l1, l2, l3, l4, l5, l6⟩, h1, h2, h3, h4, h5 => by
    have hl : ((q :: L).length : Int) = L.length + 1 := by simp
    have hz : zLen (q :: L) = q.2.2.length + zLen L := rfl
    rw [hl, show n + ((L.length : Int) + 1) = n + 1 + L.length by omega] at h1 h2 h3 h4
    rw [hz, show e + ((q.2.2.length : Int) + zLen L) = e + q.2.2.length + zLen L by omega] at h3 h4 h5
    exact ⟨l1, l2, l3, l4, l5, zLwR_app l6 h1 h2 h3 h4 h5⟩
/-- between lines: the class; the reference -/
def zCw (A : Nat → Int → Int) (T : Int → Int) (n p : Int) (L : zLines) : Prop := zTx A T n ∧ (0 ≤ p ∧ p ≤ n) ∧ zTk A T n p ∧ A 163 1 = L.length ∧ A 163 2 = zLen L ∧ zLwC A 163 0 0 L ∧ zLok L ∧ (L.length : Int) ≤ 12 ∧ zLen L ≤ p
def zRw2 (B : Nat → Int → Int) (T : Int → Int) (n p : Int) (L : zLines) : Prop := zTr B T n ∧ B 185 10 = p ∧ B 185 16 = zLen L ∧ zLwR (fun i => B 186 (i + 849)) 0 0 L
def zKw (A A' : Nat → Int → Int) : Prop := (∀ c, c ≠ 1 → ¬ (163 ≤ c ∧ c ≤ 167) → c ≠ 172 → A' c = A c) ∧ A' 163 0 = A 163 0
def zLw (B B' : Nat → Int → Int) : Prop := (∀ j, j ≠ 10 → j ≠ 12 → j ≠ 13 → j ≠ 16 → B' 185 j = B 185 j) ∧ (∀ c, c ≠ 185 → c ≠ 186 → B' c = B c) ∧ ∀ i, i < 1273 → B' 186 i = B 186 i
theorem zKw_refl {A : Nat → Int → Int} : zKw A A := ⟨fun _ _ _ _ => rfl, rfl⟩
theorem zKw_trans {A B C : Nat → Int → Int} (h1 : zKw A B) (h2 : zKw B C) : zKw A C := ⟨fun c a b e => by rw [h2.1 c a b e, h1.1 c a b e], by rw [h2.2, h1.2]⟩
theorem zKw_1 {A B : Nat → Int → Int} (h : ∀ c, c ≠ 1 → c ≠ 172 → B c = A c) : zKw A B := ⟨fun c a _ b => h c a b, by rw [h 163 (by decide) (by decide)]⟩
theorem zLw_trans {A B C : Nat → Int → Int} (h1 : zLw A B) (h2 : zLw B C) : zLw A C := ⟨fun j a b c e => by rw [h2.1 j a b c e, h1.1 j a b c e], fun c a b => by rw [h2.2.1 c a b, h1.2.1 c a b], fun i a => by rw [h2.2.2 i a, h1.2.2 i a]⟩
theorem zLw_fp {A B : Nat → Int → Int} (h : zFp A B) : zLw A B := ⟨fun j a b _ _ => h.1 j a b, fun c a _ => h.2 c a, fun i _ => by rw [h.2 186 (by decide)]⟩
theorem zLw_u {A : Nat → Int → Int} {i v : Int} (h : 1273 ≤ i) : zLw A (zU A 186 i v) := ⟨fun j _ _ _ _ => zU_c (by decide), fun c _ a => zU_r a, fun j hj => zU_s (by omega)⟩
theorem zTr_lw {B C : Nat → Int → Int} {T : Int → Int} {n : Int} (h : zTr B T n) (hf : zLw B C) : zTr C T n := by
  unfold zTr
  rw [hf.1 11 (by decide) (by decide) (by decide) (by decide), hf.2.1 191 (by decide) (by decide)]
  exact h
/-- a line of the law, read by both -/
def zQl (ar : Nat → Nat × (Nat → Int32)) (K : Nat → Nat → Option Nat) (O : Nat → Int64) (t D1 M1 c1 : Nat) (l1 : List Value) (D2 M2 c2 : Nat) (l2 : List Value) (A : Nat → Int → Int) (T : Int → Int) (n p : Int) (L : zLines) : Prop :=
  ∃ (A' : Nat → Int → Int) (r p' : Int) (L' : zLines), mGd ar D1 M1 c1 l1 [] (zW K A O t) = some (.inl (some (.int (zI r))), zW K A' O t) ∧ (r = 0 ∨ r = 1) ∧ (r = 1 → zCw A' T n p' L' ∧ L'.length = L.length + 1) ∧ (r = 0 → 0 ≤ A' 1 3 ∧ A' 1 3 ≤ n) ∧ zTx A' T n ∧ zKw A A' ∧ ∀ (O' : Nat → Int64) (t' : Nat) (B : Nat → Int → Int), zRw2 B T n p L → ∃ B', mGd ar D2 M2 c2 l2 [] (zW K B O' t') = some (.inl (some (.int (zI r))), zW K B' O' t') ∧ zLw B B' ∧ (r = 1 → zRw2 B' T n p' L') ∧ (r = 0 → B' 185 12 = A' 1 3)
section LLINE
variable {ar : Nat → Nat × (Nat → Int32)} {d t : Nat} {K : Nat → Nat → Option Nat} {A : Nat → Int → Int} {O : Nat → Int64}
theorem zQl_no {D1 M1 c1 D2 M2 c2 : Nat} {l1 l2 : List Value} {T : Int → Int} {n p : Int} {L : zLines} {A' : Nat → Int → Int} (h1 : mGd ar D1 M1 c1 l1 [] (zW K A O t) = some (.inl (some (.int (zI 0))), zW K A' O t)) (h3 : 0 ≤ A' 1 3 ∧ A' 1 3 ≤ n) (hx : zTx A' T n) (hk : zKw A A') (h2 : ∀ (O' : Nat → Int64) (t' : Nat) (B : Nat → Int → Int), zRw2 B T n p L → ∃ B', mGd ar D2 M2 c2 l2 [] (zW K B O' t') = some (.inl (some (.int (zI 0))), zW K B' O' t') ∧ zLw B B' ∧ B' 185 12 = A' 1 3) : zQl ar K O t D1 M1 c1 l1 D2 M2 c2 l2 A T n p L :=
  ⟨A', 0, 0, [], h1, Or.inl rfl, fun q => by omega, fun _ => h3, hx, hk, fun O' t' B b1 => by
    obtain ⟨B', g1, g2, g3⟩ := h2 O' t' B b1
    exact ⟨B', g1, g2, fun q => by omega, fun _ => g3⟩⟩
theorem zQl_ok {D1 M1 c1 D2 M2 c2 : Nat} {l1 l2 : List Value} {T : Int → Int} {n p p' : Int} {L L' : zLines} {A' : Nat → Int → Int} (h1 : mGd ar D1 M1 c1 l1 [] (zW K A O t) = some (.inl (some (.int (zI 1))), zW K A' O t)) (hc : zCw A' T n p' L') (hL : L'.length = L.length + 1) (hk : zKw A A') (h2 : ∀ (O' : Nat → Int64) (t' : Nat) (B : Nat → Int → Int), zRw2 B T n p L → ∃ B', mGd ar D2 M2 c2 l2 [] (zW K B O' t') = some (.inl (some (.int (zI 1))), zW K B' O' t') ∧ zLw B B' ∧ zRw2 B' T n p' L') : zQl ar K O t D1 M1 c1 l1 D2 M2 c2 l2 A T n p L :=
  ⟨A', 1, p', L', h1, Or.inr rfl, fun _ => ⟨hc, hL⟩, fun q => by omega, hc.1, hk, fun O' t' B b1 => by
    obtain ⟨B', g1, g2, g3⟩ := h2 O' t' B b1
    exact ⟨B', g1, g2, fun _ => g3, fun q => by omega⟩⟩
/-- the end of a line, in the class -/
theorem c_endLine {ln : Int} (h1 : A 163 1 = ln) (hl : 0 ≤ ln ∧ ln < 12) : mGd ar (d) 100 0 [.ref 163] [] (zW K A O t) = some (.inl none, zW K (zU (zU A 166 ln (A 163 2)) 163 1 (ln + 1)) O t) := by
  rw [i100_0 isLaw163 (by omega), if_neg (by omega), i100_9 isLaw163 (by omega), i100_32 isLaw163, h1, zU_r (show (163 : Nat) ≠ 163 + 3 by decide), h1]
/-- what the class holds when a line is done -/
theorem zCw_end {T : Int → Int} {n p : Int} {L : zLines} {f v : Int} {cs : List Int} (hx : zTx A T n) (hp : 0 ≤ p ∧ p ≤ n) (hk : zTk A T n p) (h1 : A 163 1 = L.length) (h2 : A 163 2 = zLen L + cs.length) (hL : zLwC A 163 0 0 L) (hok : zLok L) (h12 : (L.length : Int) < 12) (hlp : zLen L + cs.length ≤ p) (hf : f = 0 ∨ f = 1 ∨ f = 2) (hv : 0 ≤ v ∧ v ≤ 20) (hcs : cs = [] ∨ zTc cs [] = some [true]) (a1 : A 164 L.length = f) (a2 : A 165 L.length = v) (a4 : zLst (A 167) (zLen L) cs.length = cs) : zCw (zU (zU A 166 L.length (A 163 2)) 163 1 ((L.length : Int) + 1)) T n p (L ++ [(f, v, cs)]) := by
  have hnn := zLen_nn (L := L)
  have hla : ((L ++ [(f, v, cs)]).length : Int) = L.length + 1 := by rw [List.length_append]; rfl
  have hza : zLen (L ++ [(f, v, cs)]) = zLen L + cs.length := zLen_app
  refine ⟨zTx_u hx (by rw [zU_r (by decide), zU_r (by decide)]) (by rw [zU_r (by decide), zU_r (by decide)]), hp, by unfold zTk; rw [zU_r (by decide), zU_r (by decide)]; exact hk, by rw [zU_at, hla], by rw [zU_s (by decide), zU_r (by decide), h2, hza], ?_, zLok_app hok ⟨hf, hv, hcs⟩, by omega, by omega⟩
  refine zLwC_app (zLwC_cg (fun i i0 i1 => ⟨?_, ?_, ?_⟩) (fun i i0 i1 => ?_) hL) ?_ ?_ ?_ ?_
  · rw [zU_r (by decide), zU_r (by decide)]
  · rw [zU_r (by decide), zU_r (by decide)]
  · rw [zU_r (by decide)]; exact zU_s (by omega)
  · rw [zU_r (by decide), zU_r (by decide)]
  · rw [zU_r (by decide), zU_r (by decide), Int.zero_add]; exact a1
  · rw [zU_r (by decide), zU_r (by decide), Int.zero_add]; exact a2
  · rw [zU_r (by decide), Int.zero_add, Int.zero_add]
    show zU A 166 L.length (A 163 2) 166 L.length = _
    rw [zU_at, h2]
  · rw [zU_r (by decide), zU_r (by decide), Int.zero_add]; exact a4
/-- the reference's line -/
theorem zRw2_end {T : Int → Int} {n p : Int} {L : zLines} {f v : Int} {cs : List Int} (hx : zTr A T n) (h10 : A 185 10 = p) (h16 : A 185 16 = zLen L + cs.length) (hL : zLwR (fun i => A 186 (i + 849)) 0 0 L) (h12 : (L.length : Int) < 12) (a0 : A 186 (1273 + 4 * L.length) = f) (a1 : A 186 (1273 + 4 * L.length + 1) = v) (a2 : A 186 (1273 + 4 * L.length + 2) = zLen L) (a4 : zCds (fun i => A 186 (i + 849)) (zLen L) cs) : zRw2 (zU A 186 (1273 + 4 * L.length + 3) (A 185 16)) T n p (L ++ [(f, v, cs)]) := by
  have hnn := zLen_nn (L := L)
  have hza : zLen (L ++ [(f, v, cs)]) = zLen L + cs.length := zLen_app
  refine ⟨zTr_lw hx (zLw_u (by omega)), by rw [zU_r (by decide)]; exact h10, by rw [zU_r (by decide), h16, hza], ?_⟩
  have fo : ∀ i : Int, i ≠ 1273 + 4 * L.length + 3 → (zU A 186 (1273 + 4 * L.length + 3) (A 185 16)) 186 i = A 186 i := fun i hi => zU_s hi
  refine zLwR_app (zLwR_cg (fun i i0 i1 => ?_) (fun i i0 i1 => ?_) hL) ?_ ?_ ?_ ?_ (zCds_same (fun i i0 i1 => ?_) (by rw [Int.zero_add]; exact a4))
  · exact fo _ (by omega)
  · exact fo _ (by omega)
  · show zU A 186 (1273 + 4 * L.length + 3) (A 185 16) 186 (424 + 4 * (0 + (L.length : Int)) + 849) = f
    rw [fo _ (by omega), show 424 + 4 * (0 + (L.length : Int)) + 849 = 1273 + 4 * L.length by omega, a0]
  · show zU A 186 (1273 + 4 * L.length + 3) (A 185 16) 186 (424 + 4 * (0 + (L.length : Int)) + 1 + 849) = v
    rw [fo _ (by omega), show 424 + 4 * (0 + (L.length : Int)) + 1 + 849 = 1273 + 4 * L.length + 1 by omega, a1]
  · show zU A 186 (1273 + 4 * L.length + 3) (A 185 16) 186 (424 + 4 * (0 + (L.length : Int)) + 2 + 849) = 0 + zLen L
    rw [fo _ (by omega), show 424 + 4 * (0 + (L.length : Int)) + 2 + 849 = 1273 + 4 * L.length + 2 by omega, a2, Int.zero_add]
  · show zU A 186 (1273 + 4 * L.length + 3) (A 185 16) 186 (424 + 4 * (0 + (L.length : Int)) + 3 + 849) = 0 + zLen L + (cs.length : Int)
    rw [show 424 + 4 * (0 + (L.length : Int)) + 3 + 849 = 1273 + 4 * L.length + 3 by omega, zU_at, h16, Int.zero_add]
  · exact fo _ (by omega)
end LLINE
