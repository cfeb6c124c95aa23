/-! CALLS, 23: fits -/
def zT1 (g : Int → Int) (lim : Int) : Nat → Int → Int
  | 0, j => j
  | m + 1, j => if g j ≤ lim then zT1 g lim m (j + 1) else j
theorem zT1_rng {g : Int → Int} {lim : Int} : ∀ {m : Nat} {j : Int}, j ≤ zT1 g lim m j ∧ zT1 g lim m j ≤ j + m
  | 0, j => by show j ≤ j ∧ j ≤ j + ((0 : Nat) : Int); omega
  | m + 1, j => by
    show j ≤ (if g j ≤ lim then zT1 g lim m (j + 1) else j) ∧ (if g j ≤ lim then zT1 g lim m (j + 1) else j) ≤ j + ((m + 1 : Nat) : Int)
    have := zT1_rng (g := g) (lim := lim) (m := m) (j := j + 1)
    split <;> omega
theorem zT1_is {g : Int → Int} {lim b : Int} : ∀ {m : Nat} {j : Int}, j ≤ b → b ≤ j + m → (∀ i, j ≤ i → i < b → g i ≤ lim) → (b < j + m → lim < g b) → zT1 g lim m j = b
  | 0, j, h1, h2, _, _ => by show j = b; omega
  | m + 1, j, h1, h2, h3, h4 => by
    show (if g j ≤ lim then zT1 g lim m (j + 1) else j) = b
    by_cases hj : j = b
    · rw [if_neg (by have := h4 (by omega); rw [hj]; omega)]; exact hj
    · rw [if_pos (h3 j (by omega) (by omega))]
      exact zT1_is (by omega) (by omega) (fun i a1 a2 => h3 i (by omega) a2) (fun a => h4 (by omega))
theorem zT1_stop {g : Int → Int} {lim : Int} : ∀ {m : Nat} {j : Int}, zT1 g lim m j < j + m → lim < g (zT1 g lim m j)
  | 0, j, h => by
    have h : j < j + ((0 : Nat) : Int) := h
    omega
  | m + 1, j, h => by
    have h : (if g j ≤ lim then zT1 g lim m (j + 1) else j) < j + ((m + 1 : Nat) : Int) := h
    show lim < g (if g j ≤ lim then zT1 g lim m (j + 1) else j)
    by_cases hc : g j ≤ lim
    · rw [if_pos hc] at h ⊢
      exact zT1_stop (by omega)
    · rw [if_neg hc]; omega
/-- the most that sizes fit of the last m numbers, out of what one size less fits -/
def zFw (g : Int → Int) (n e : Int) (prev : Nat → Int) : Nat → Int
  | 0 => 0
  | m + 1 => max (zFw g n e prev m) (zT1 g (g (n - (m + 1)) + 2 * e) (m + 1) (n - (m + 1)) - (n - (m + 1)) + prev (n - zT1 g (g (n - (m + 1)) + 2 * e) (m + 1) (n - (m + 1))).toNat)
def zFz (g : Int → Int) (n e : Int) : Nat → Nat → Int
  | 0 => fun _ => 0
  | s + 1 => zFw g n e (zFz g n e s)
theorem zFw_rng {g : Int → Int} {n e : Int} {prev : Nat → Int} (hp : ∀ m : Nat, (m : Int) ≤ n → 0 ≤ prev m ∧ prev m ≤ m) : ∀ m : Nat, (m : Int) ≤ n → 0 ≤ zFw g n e prev m ∧ zFw g n e prev m ≤ m
  | 0, _ => by show (0 : Int) ≤ 0 ∧ (0 : Int) ≤ ((0 : Nat) : Int); omega
  | m + 1, h => by
    have h1 := zFw_rng (g := g) (e := e) hp m (by omega)
    have h2 := zT1_rng (g := g) (lim := g (n - ((m : Int) + 1)) + 2 * e) (m := m + 1) (j := n - ((m : Int) + 1))
    have h3 := hp (n - zT1 g (g (n - (m + 1)) + 2 * e) (m + 1) (n - (m + 1))).toNat (by omega)
    show 0 ≤ max _ _ ∧ max _ _ ≤ _
    omega
theorem zFz_rng {g : Int → Int} {n e : Int} : ∀ s m : Nat, (m : Int) ≤ n → 0 ≤ zFz g n e s m ∧ zFz g n e s m ≤ m
  | 0, m, _ => by show (0 : Int) ≤ 0 ∧ (0 : Int) ≤ _; omega
  | s + 1, m, h => zFw_rng (zFz_rng s) m h
theorem zFz_0 {g : Int → Int} {n e : Int} {m : Nat} : zFz g n e 0 m = 0 := rfl
theorem zFz_z {g : Int → Int} {n e : Int} : ∀ s : Nat, zFz g n e s 0 = 0
  | 0 => rfl
  | _ + 1 => rfl
theorem zFz_s {g : Int → Int} {n e i : Int} {s : Nat} (h0 : 0 ≤ i) (hn : i < n) : zFz g n e (s + 1) (n - i).toNat = max (zFz g n e (s + 1) (n - (i + 1)).toNat) (zT1 g (g i + 2 * e) (n - i).toNat i - i + zFz g n e s (n - zT1 g (g i + 2 * e) (n - i).toNat i).toNat) := by
  obtain ⟨m, hm⟩ : ∃ m : Nat, (n - i).toNat = m + 1 := ⟨(n - i).toNat - 1, by omega⟩
  have hi : n - ((m : Int) + 1) = i := by omega
  rw [hm, show (n - (i + 1)).toNat = m by omega]
  show max (zFw g n e (zFz g n e s) m) (zT1 g (g (n - (m + 1)) + 2 * e) (m + 1) (n - (m + 1)) - (n - (m + 1)) + zFz g n e s (n - zT1 g (g (n - (m + 1)) + 2 * e) (m + 1) (n - (m + 1))).toNat) = _
  rw [hi]
  rfl
section FITS
variable {ar : Nat → Nat × (Nat → Int32)} {d t : Nat} {K : Nat → Nat → Option Nat} {A : Nat → Int → Int} {O : Nat → Int64}
/-- how far one size reaches -/
theorem behind_loop {g : Int → Int} {n e z k i : Int} (hn : n ≤ 8) (he : 0 ≤ e ∧ e ≤ 20) (hi : 0 ≤ i ∧ i < n) (hg : ∀ j, 0 ≤ j → j < n → A 174 j = g j ∧ 0 ≤ g j ∧ g j ≤ 99) (hs : ∀ a b, 0 ≤ a → a < b → b < n → g a ≤ g b) : ∀ (m : Nat) (x : Int), x = i + 1 + m → x ≤ n → (∀ j, x ≤ j → j < n → g i + 2 * e < g j) → mGd ar (d) 175 43 [.ref 173, .int (zI e), .int (zI z), .int (zI k), .int (zI x), .int (zI i)] [] (zW K A O t) = mGd ar (d) 175 77 [.ref 173, .int (zI e), .int (zI z), .int (zI k), .int (zI ((zT1 g (g i + 2 * e) (n - i).toNat i))), .int (zI i)] [] (zW K A O t) := by
  intro m
  have gi := hg i hi.1 hi.2
  induction m with
  | zero =>
    intro x hx hxn h
    have e1 : x - 1 = i := by omega
    rw [zT1_is (b := x) (by omega) (by omega) (fun j a1 a2 => by rw [show j = i by omega]; omega) (fun a => h x (by omega) (by omega))]
    rw [i175_43 (by omega), if_neg (by omega), i175_48 (by omega) (by omega) (by rw [e1]; omega) (by omega), e1, if_pos (by omega)]
  | succ m ih =>
    intro x hx hxn h
    have gx := hg (x - 1) (by omega) (by omega)
    rw [i175_43 (by omega), if_neg (by omega), i175_48 (by omega) (by omega) (by omega) (by omega), gx.1, gi.1]
    by_cases hc : g (x - 1) ≤ g i + 2 * e
    · rw [if_pos hc, zT1_is (b := x) (by omega) (by omega) (fun j a1 a2 => by
        by_cases hj : j = x - 1
        · rw [hj]; exact hc
        · have := hs j (x - 1) (by omega) (by omega) (by omega); omega) (fun a => h x (by omega) (by omega))]
    · rw [if_neg hc, i175_71, show x + -1 = x - 1 by omega]
      exact ih (x - 1) (by omega) (by omega) (fun j a1 a2 => by
        by_cases hj : j = x - 1
        · rw [hj]; omega
        · exact h j (by omega) a2)
/-- a row of the table -/
def zRw (B : Nat → Int → Int) (g : Int → Int) (n e : Int) (k : Nat) (i : Int) : Prop := ∀ j, i ≤ j → j ≤ n → B (176 + k) j = zFz g n e k (n - j).toNat
theorem row_loop (hK : mKok K) {g : Int → Int} {n e z : Int} {k : Nat} (hk : k < 4) (hn : 0 ≤ n ∧ n ≤ 8) (he : 0 ≤ e ∧ e ≤ 20) (hg : ∀ j, 0 ≤ j → j < n → A 174 j = g j ∧ 0 ≤ g j ∧ g j ≤ 99) (hs : ∀ a b, 0 ≤ a → a < b → b < n → g a ≤ g b) : ∀ (m : Nat) (i x : Int) (B : Nat → Int → Int), i + 1 = m → i < n → i + 1 ≤ x → x ≤ n → (0 ≤ i → ∀ j, x ≤ j → j < n → g i + 2 * e < g j) → (∀ c, c ≠ 177 + k → B c = A c) → zRw A g n e k 0 → zRw B g n e (k + 1) (i + 1) → ∃ C y, mGd ar (d + 1) 175 38 [.ref 173, .int (zI e), .int (zI z), .int (zI (((k : Int) + 1))), .int (zI x), .int (zI i)] [] (zW K B O t) = mGd ar (d + 1) 175 123 [.ref 173, .int (zI e), .int (zI z), .int (zI (((k : Int) + 1))), .int (zI y), .int (zI ((-1)))] [] (zW K C O t) ∧ (∀ c, c ≠ 177 + k → C c = A c) ∧ zRw C g n e (k + 1) 0 := by
  intro m
  induction m with
  | zero =>
    intro i x B hm hin hx hxn hb hc h0 h1
    have : i = -1 := by omega
    subst this
    exact ⟨B, x, by rw [i175_38 (by omega), if_pos (by omega)], hc, h1⟩
  | succ m ih =>
    intro i x B hm hin hx hxn hb hc h0 h1
    have i0 : 0 ≤ i := by omega
    have hgB : ∀ j, 0 ≤ j → j < n → B 174 j = g j ∧ 0 ≤ g j ∧ g j ≤ 99 := fun j a1 a2 => by rw [hc 174 (by omega)]; exact hg j a1 a2
    have q := behind_loop (d := d + 1) (K := K) (O := O) (t := t) (ar := ar) (A := B) (z := z) (k := (k : Int) + 1) hn.2 he ⟨i0, hin⟩ hgB hs (x - (i + 1)).toNat x (by omega) hxn (hb i0)
    have hT := zT1_rng (g := g) (lim := g i + 2 * e) (m := (n - i).toNat) (j := i)
    have hTi : i + 1 ≤ zT1 g (g i + 2 * e) (n - i).toNat i := by
      obtain ⟨m', hm'⟩ : ∃ m' : Nat, (n - i).toNat = m' + 1 := ⟨(n - i).toNat - 1, by omega⟩
      rw [hm']
      show i + 1 ≤ if g i ≤ g i + 2 * e then zT1 g (g i + 2 * e) m' (i + 1) else i
      rw [if_pos (by omega)]
      exact zT1_rng.1
    have hst := zFz_s (g := g) (e := e) (s := k) i0 hin
    have r1 := h1 (i + 1) (by omega) (by omega)
    have r0 := h0 (zT1 g (g i + 2 * e) (n - i).toNat i) (by omega) (by omega)
    rw [← hc (176 + k) (by omega)] at r0
    have b1 := zFz_rng (g := g) (e := e) (n := n) (k + 1) (n - (i + 1)).toNat (by omega)
    have b0 := zFz_rng (g := g) (e := e) (n := n) k (n - zT1 g (g i + 2 * e) (n - i).toNat i).toNat (by omega)
    have hbe : ∀ j, zT1 g (g i + 2 * e) (n - i).toNat i ≤ j → j < n → g i + 2 * e < g j := fun j a1 a2 => by
      have st := zT1_stop (g := g) (lim := g i + 2 * e) (m := (n - i).toNat) (j := i) (by omega)
      by_cases hj : j = zT1 g (g i + 2 * e) (n - i).toNat i
      · rw [hj]; exact st
      · have := hs (zT1 g (g i + 2 * e) (n - i).toNat i) j (by omega) (by omega) a2
        omega
    generalize zT1 g (g i + 2 * e) (n - i).toNat i = y at q hT hTi hst r0 b0 hbe
    have cm := c_max (d := d) (K := K) (O := O) (t := t) (ar := ar) (A := B) (x := B (176 + (k + 1)) (i + 1)) (y := y - i + B (176 + k) y) (by omega) (by omega)
    rw [r1, r0, ← hst] at cm
    obtain ⟨C, y', q1, q2⟩ := ih (i - 1) y (zU B (177 + k) i (zFz g n e (k + 1) (n - i).toNat)) (by omega) (by omega) (by omega) (by omega) (fun a j a1 a2 => by
      have := hbe j a1 a2
      have := hs (i - 1) i a (by omega) hin
      omega) (fun c h => by rw [zU_r h, hc c h]) h0 (fun j a1 a2 => by
      rw [show 176 + (k + 1) = 177 + k by omega] at *
      by_cases hj : j = i
      · rw [hj, zU_at]
      · rw [zU_s hj]
        have := h1 j (by omega) a2
        rwa [show 176 + (k + 1) = 177 + k by omega] at this)
    refine ⟨C, y', ?_, q2⟩
    have rk : isRow (177 + k) := by unfold isRow; omega
    have rk0 : isRow (176 + k) := by unfold isRow; omega
    have K1 : K 175 (Int.toNat ((k : Int) + 1)) = some (177 + k) := by
      rw [show Int.toNat ((k : Int) + 1) = k + 1 by omega, hK.2 (k + 1) (by omega), show 176 + (k + 1) = 177 + k by omega]
    have K0 : K 175 (Int.toNat ((k : Int) + 1 - 1)) = some (176 + k) := by
      rw [show Int.toNat ((k : Int) + 1 - 1) = k by omega, hK.2 k (by omega)]
    rw [i175_38 (by omega), if_neg (by omega), q, i175_77 (by omega) K1 rk K1 rk (by omega) (by omega) K0 rk0 (by omega)]
    rw [show 176 + (k + 1) = 177 + k by omega] at r1
    rw [r1, r0, cm, mB1_i, i175_116 rk (by omega), show i + -1 = i - 1 by omega]
    exact q1
theorem table_loop (hK : mKok K) {g : Int → Int} {n e z : Int} (hz : 1 ≤ z ∧ z ≤ 4) (h0 : A 173 0 = n) (hn : 0 ≤ n ∧ n ≤ 8) (he : 0 ≤ e ∧ e ≤ 20) (hg : ∀ j, 0 ≤ j → j < n → A 174 j = g j ∧ 0 ≤ g j ∧ g j ≤ 99) (hs : ∀ a b, 0 ≤ a → a < b → b < n → g a ≤ g b) : ∀ (m k : Nat) (B : Nat → Int → Int) (v4 v5 : Value), (k : Int) + m = z → (∀ c, c < 177 ∨ 180 < c → B c = A c) → zRw B g n e k 0 → ∃ C, mGd ar (d + 1) 175 2 [.ref 173, .int (zI e), .int (zI z), .int (zI (((k : Int) + 1))), v4, v5] [] (zW K B O t) = some (.inl (some (.int (zI (zFz g n e z.toNat n.toNat)))), zW K C O t) ∧ (∀ c, c < 177 ∨ 180 < c → C c = A c) := by
  intro m
  induction m with
  | zero =>
    intro k B v4 v5 hm hc hr
    have kz : (k : Int) = z := by omega
    refine ⟨B, ?_, hc⟩
    have := hr 0 (by omega) (by omega)
    have rk : isRow (176 + k) := by unfold isRow; omega
    have K1 : K 175 (Int.toNat z) = some (176 + k) := by
      rw [show Int.toNat z = k by omega, hK.2 k (by omega)]
    rw [i175_2 (by omega) (by omega), if_pos (by omega), i175_129 (by omega), if_neg (by omega), i175_133 (by omega), if_pos (by omega), i175_142 (by omega) K1 rk, i175_150, this, show n - 0 = n by omega, show z.toNat = k by omega]
  | succ m ih =>
    intro k B v4 v5 hm hc hr
    have rk : isRow (177 + k) := by unfold isRow; omega
    have K1 : K 175 (Int.toNat ((k : Int) + 1)) = some (177 + k) := by
      rw [show Int.toNat ((k : Int) + 1) = k + 1 by omega, hK.2 (k + 1) (by omega), show 176 + (k + 1) = 177 + k by omega]
    have b0 : B 173 0 = n := by rw [hc 173 (by omega), h0]
    have b0' : (zU B (177 + k) n 0) 173 0 = n := by rw [zU_r (by omega), b0]
    obtain ⟨C, y, q1, q2, q3⟩ := row_loop (d := d) (K := K) (O := O) (t := t) (ar := ar) (A := zU B (177 + k) n 0) hK (g := g) (n := n) (e := e) (z := z) (k := k) (by omega) hn he (fun j a1 a2 => by rw [zU_r (by omega), hc 174 (by omega)]; exact hg j a1 a2) hs n.toNat (n - 1) n (zU B (177 + k) n 0) (by omega) (by omega) (by omega) (by omega) (fun _ j a1 a2 => by omega) (fun _ _ => rfl) (fun j a1 a2 => by rw [zU_r (by omega)]; exact hr j a1 a2) (fun j a1 a2 => by
      have : j = n := by omega
      rw [this, show 176 + (k + 1) = 177 + k by omega, zU_at, show n - n = 0 by omega]
      exact (zFz_z _).symm)
    obtain ⟨C', p1, p2⟩ := ih (k + 1) C (.int (zI y)) (.int (zI (-1))) (by omega) (fun c h => by rw [q2 c (by omega), zU_r (by omega), hc c h]) q3
    refine ⟨C', ?_, p2⟩
    rw [i175_2 (by omega) (by omega), if_neg (by omega), i175_7 (by omega), if_neg (by omega), i175_12 (by omega) K1 rk (by omega), b0, b0', q1, i175_123]
    rw [show (((k + 1 : Nat) : Int)) = (k : Int) + 1 by omega] at p1
    exact p1
theorem c_fitted (hK : mKok K) {g : Int → Int} {n e z : Int} (hz : 1 ≤ z ∧ z ≤ 4) (h0 : A 173 0 = n) (hn : 0 ≤ n ∧ n ≤ 8) (he : 0 ≤ e ∧ e ≤ 20) (hg : ∀ j, 0 ≤ j → j < n → A 174 j = g j ∧ 0 ≤ g j ∧ g j ≤ 99) (hs : ∀ a b, 0 ≤ a → a < b → b < n → g a ≤ g b) (h6 : ∀ i, 0 ≤ i → i < 9 → A 176 i = 0) : ∃ C, mGd ar (d + 1) 175 0 [.ref 173, .int (zI e), .int (zI z), .double 0, .double 0, .double 0] [] (zW K A O t) = some (.inl (some (.int (zI (zFz g n e z.toNat n.toNat)))), zW K C O t) ∧ (∀ c, c < 177 ∨ 180 < c → C c = A c) := by
  obtain ⟨C, q1, q2⟩ := table_loop (d := d) (K := K) (O := O) (t := t) (ar := ar) (A := A) hK hz h0 hn he hg hs z.toNat 0 A (.double 0) (.double 0) (by omega) (fun _ _ => rfl) (fun j a1 a2 => h6 j a1 (by omega))
  exact ⟨C, by rw [i175_0]; exact q1, q2⟩
/-- the reference's table -/
def zRt (B : Nat → Int → Int) (g : Int → Int) (n e z i : Int) : Prop := ∀ j, i ≤ j → j ≤ n → ∀ s : Nat, (s : Int) ≤ z → B 197 (5 * j + s) = zFz g n e s (n - j).toNat
theorem rto_loop {g : Int → Int} {n e z k i s : Int} {v7 : Value} (hn : n ≤ 8) (he : 0 ≤ e ∧ e ≤ 20) (hi : 0 ≤ i ∧ i < n) (h9 : A 185 19 = n) (hg : ∀ j, 0 ≤ j → j < n → A 194 j = g j ∧ 0 ≤ g j ∧ g j ≤ 99) : ∀ (m : Nat) (x : Int), x + m = n → i ≤ x → mGd ar (d) 319 85 [.ref 185, .int (zI k), .int (zI e), .int (zI z), .int (zI i), .int (zI s), .int (zI x), v7] [] (zW K A O t) = mGd ar (d) 319 121 [.ref 185, .int (zI k), .int (zI e), .int (zI z), .int (zI i), .int (zI s), .int (zI ((zT1 g (g i + 2 * e) m x))), v7] [] (zW K A O t) := by
  intro m
  have gi := hg i hi.1 hi.2
  induction m with
  | zero =>
    intro x hx hxi
    rw [i319_85 (by omega) (by omega), if_pos (by omega)]
    rfl
  | succ m ih =>
    intro x hx hxi
    have gx := hg x (by omega) (by omega)
    rw [i319_85 (by omega) (by omega), if_neg (by omega), i319_94 (by omega) (by omega) (by omega) (by omega), gx.1, gi.1]
    show _ = mGd ar (d) 319 121 [.ref 185, .int (zI k), .int (zI e), .int (zI z), .int (zI i), .int (zI s), .int (zI ((if g x ≤ g i + 2 * e then zT1 g (g i + 2 * e) m (x + 1) else x))), v7] [] (zW K A O t)
    by_cases hc : g x ≤ g i + 2 * e
    · rw [if_neg (by omega), if_pos hc, i319_115]
      exact ih (x + 1) (by omega) (by omega)
    · rw [if_pos (by omega), if_neg hc]
theorem rrow_loop {g : Int → Int} {n e z k i : Int} (hn : 0 ≤ n ∧ n ≤ 8) (he : 0 ≤ e ∧ e ≤ 20) (hz : 1 ≤ z ∧ z ≤ 4) (hi : 0 ≤ i ∧ i ≤ n) (h9 : A 185 19 = n) (hg : ∀ j, 0 ≤ j → j < n → A 194 j = g j ∧ 0 ≤ g j ∧ g j ≤ 99) (ht : zRt A g n e z (i + 1)) : ∀ (m s : Nat) (B : Nat → Int → Int) (v6 v7 : Value), (s : Int) + m = z + 1 → (∀ c, c ≠ 197 → B c = A c) → zRt B g n e z (i + 1) → (∀ s' : Nat, s' < s → B 197 (5 * i + s') = zFz g n e s' (n - i).toNat) → ∃ C w6 w7, mGd ar (d + 1) 319 75 [.ref 185, .int (zI k), .int (zI e), .int (zI z), .int (zI i), .int (zI ((s : Int))), v6, v7] [] (zW K B O t) = mGd ar (d + 1) 319 212 [.ref 185, .int (zI k), .int (zI e), .int (zI z), .int (zI i), .int (zI ((z + 1))), w6, w7] [] (zW K C O t) ∧ (∀ c, c ≠ 197 → C c = A c) ∧ zRt C g n e z i := by
  intro m
  induction m with
  | zero =>
    intro s B v6 v7 hm hc hr hs
    refine ⟨B, v6, v7, ?_, hc, fun j a1 a2 s' a3 => ?_⟩
    · rw [i319_75 (by omega) (by omega), if_pos (by omega), show (s : Int) = z + 1 by omega]
    · by_cases hj : j = i
      · rw [hj]; exact hs s' (by omega)
      · exact hr j (by omega) a2 s' a3
  | succ m ih =>
    intro s B v6 v7 hm hc hr hs
    have b9 : B 185 19 = n := by rw [hc 185 (by decide), h9]
    have gB : ∀ j, 0 ≤ j → j < n → B 194 j = g j ∧ 0 ≤ g j ∧ g j ≤ 99 := fun j a1 a2 => by rw [hc 194 (by decide)]; exact hg j a1 a2
    have goal : ∃ w6 w7, mGd ar (d + 1) 319 75 [.ref 185, .int (zI k), .int (zI e), .int (zI z), .int (zI i), .int (zI ((s : Int))), v6, v7] [] (zW K B O t) = mGd ar (d + 1) 319 75 [.ref 185, .int (zI k), .int (zI e), .int (zI z), .int (zI i), .int (zI (((s : Int) + 1))), w6, w7] [] (zW K (zU B 197 (5 * i + s) (zFz g n e s (n - i).toNat)) O t) := by
      by_cases hin : i = n
      · refine ⟨.int (zI i), .int (zI 0), ?_⟩
        have z0 : zFz g n e s (n - i).toNat = 0 := by rw [show (n - i).toNat = 0 by omega]; exact zFz_z s
        rw [i319_75 (by omega) (by omega), if_neg (by omega), i319_81, i319_85 (by omega) (by omega), if_pos (by omega), i319_121 (by omega) (by omega), if_pos (by omega), i319_130, i319_148 (by omega)]
        by_cases hs0 : (s : Int) = 0
        · rw [if_pos hs0, i319_175, i319_205 (by omega), z0]
        · rw [if_neg hs0, i319_166 (by omega) (by omega), if_pos (by omega), i319_175, i319_205 (by omega), z0]
      · have q := rto_loop (d := d + 1) (K := K) (O := O) (t := t) (ar := ar) (A := B) (z := z) (k := k) (s := (s : Int)) (v7 := v7) hn.2 he (i := i) (by omega) b9 gB (n - i).toNat i (by omega) (by omega)
        have r1 := hr (i + 1) (by omega) (by omega) s (by omega)
        have b1 := zFz_rng (g := g) (e := e) (n := n) s (n - (i + 1)).toNat (by omega)
        have hT := zT1_rng (g := g) (lim := g i + 2 * e) (m := (n - i).toNat) (j := i)
        rw [i319_75 (by omega) (by omega), if_neg (by omega), i319_81, q, i319_121 (by omega) (by omega), if_neg (by omega), i319_134 (by omega), r1, i319_148 (by omega)]
        match s with
        | 0 =>
          refine ⟨.int (zI (zT1 g (g i + 2 * e) (n - i).toNat i)), .int (zI 0), ?_⟩
          rw [if_pos (by omega), i319_175, i319_205 (by omega), zFz_0, zFz_0]
        | s + 1 =>
          have hTi : i + 1 ≤ zT1 g (g i + 2 * e) (n - i).toNat i := by
            obtain ⟨m', hm'⟩ : ∃ m' : Nat, (n - i).toNat = m' + 1 := ⟨(n - i).toNat - 1, by omega⟩
            rw [hm']
            show i + 1 ≤ if g i ≤ g i + 2 * e then zT1 g (g i + 2 * e) m' (i + 1) else i
            rw [if_pos (by omega)]
            exact zT1_rng.1
          refine ⟨.int (zI (zT1 g (g i + 2 * e) (n - i).toNat i)), .int (zI (zFz g n e (s + 1) (n - (i + 1)).toNat)), ?_⟩
          have hst := zFz_s (g := g) (e := e) (s := s) hi.1 (show i < n by omega)
          have r0 := hr (zT1 g (g i + 2 * e) (n - i).toNat i) (by omega) (by omega) s (by omega)
          have b0 := zFz_rng (g := g) (e := e) (n := n) s (n - zT1 g (g i + 2 * e) (n - i).toNat i).toNat (by omega)
          generalize zT1 g (g i + 2 * e) (n - i).toNat i = y at hT hTi hst r0 b0
          have cm := c_max (d := d) (K := K) (O := O) (t := t) (ar := ar) (A := B) (x := zFz g n e (s + 1) (n - (i + 1)).toNat) (y := y - i + zFz g n e s (n - y).toNat) (by omega) (by omega)
          rw [← hst] at cm
          rw [if_neg (by omega), i319_166 (by omega) (by omega), if_neg (by omega), i319_180 (by omega), show 5 * y + (((s + 1 : Nat)) : Int) - 1 = 5 * y + (s : Int) by omega, r0, cm, mB1_i, i319_205 (by omega)]
    obtain ⟨w6, w7, gq⟩ := goal
    obtain ⟨C, y6, y7, q1, q2⟩ := ih (s + 1) (zU B 197 (5 * i + s) (zFz g n e s (n - i).toNat)) w6 w7 (by omega) (fun c h => by rw [zU_r h, hc c h]) (fun j a1 a2 s' a3 => by rw [zU_s (by omega)]; exact hr j a1 a2 s' a3) (fun s' a => by
      by_cases he : s' = s
      · rw [he, zU_at]
      · rw [zU_s (by omega)]; exact hs s' (by omega))
    refine ⟨C, y6, y7, ?_, q2⟩
    rw [gq, show (s : Int) + 1 = ((s + 1 : Nat) : Int) by omega]
    exact q1
theorem rtable_loop {g : Int → Int} {n e z k : Int} (hn : 0 ≤ n ∧ n ≤ 8) (he : 0 ≤ e ∧ e ≤ 20) (hz : 1 ≤ z ∧ z ≤ 4) (h9 : A 185 19 = n) (hg : ∀ j, 0 ≤ j → j < n → A 194 j = g j ∧ 0 ≤ g j ∧ g j ≤ 99) : ∀ (m : Nat) (i : Int) (B : Nat → Int → Int) (v5 v6 v7 : Value), i + 1 = m → i ≤ n → (∀ c, c ≠ 197 → B c = A c) → zRt B g n e z (i + 1) → ∃ C, mGd ar (d + 1) 319 67 [.ref 185, .int (zI k), .int (zI e), .int (zI z), .int (zI i), v5, v6, v7] [] (zW K B O t) = some (.inl (some (.int (zI (zFz g n e z.toNat n.toNat)))), zW K C O t) ∧ (∀ c, c ≠ 197 → C c = A c) := by
  intro m
  induction m with
  | zero =>
    intro i B v5 v6 v7 hm hi hc hr
    have := hr 0 (by omega) (by omega) z.toNat (by omega)
    rw [show 5 * (0 : Int) + (z.toNat : Int) = z by omega, show n - 0 = n by omega] at this
    exact ⟨B, by rw [i319_67 (by omega), if_pos (by omega), i319_218 (by omega), this], hc⟩
  | succ m ih =>
    intro i B v5 v6 v7 hm hi hc hr
    obtain ⟨C, w6, w7, q1, q2, q3⟩ := rrow_loop (d := d) (K := K) (O := O) (t := t) (ar := ar) (A := B) (z := z) (k := k) (i := i) hn he hz (by omega) (by rw [hc 185 (by decide), h9]) (fun j a1 a2 => by rw [hc 194 (by decide)]; exact hg j a1 a2) hr (z + 1).toNat 0 B v6 v7 (by omega) (fun _ _ => rfl) hr (fun s' a => by omega)
    obtain ⟨C', p1, p2⟩ := ih (i - 1) C (.int (zI (z + 1))) w6 w7 (by omega) (by omega) (fun c h => by rw [q2 c h, hc c h]) (by rw [show i - 1 + 1 = i by omega]; exact q3)
    refine ⟨C', ?_, p2⟩
    rw [i319_67 (by omega), if_neg (by omega), i319_72]
    rw [show (((0 : Nat)) : Int) = 0 from rfl] at q1
    rw [q1, i319_212, show i + -1 = i - 1 by omega]
    exact p1
theorem q_fits {k e z : Int} (hK : mKok K) (hI : zInv A) (h_k : -2147483648 ≤ k ∧ k < 2147483648) (h_e : -2147483648 ≤ e ∧ e < 2147483648) (h_z : -2147483648 ≤ z ∧ z < 2147483648) : zQ ar K O t (d + 12) 174 [.ref 0, .int (zI k), .int (zI e), .int (zI z)] 319 [.ref 185, .int (zI k), .int (zI e), .int (zI z), .double 0, .double 0, .double 0, .double 0] (fun E => if E = 2 then 1 else if E = 0 then 2 else 0) A := by
  obtain ⟨hw, hr, e0, w0⟩ := zInv_f hI
  have u6 : ∀ v, zU A 185 0 v 186 = A 186 := fun v => zU_r (by decide)
  have M1 : ∀ (B : Nat → Int → Int) (O' : Nat → Int64) (t' : Nat), B 186 = A 186 → mGd ar (d + 11) 257 0 [.int (zI k)] [] (zW K B O' t') = some (.inl (some (.int (zI (if 0 ≤ k ∧ k < 4 then 0 else 1)))), zW K B O' t') := fun B O' t' e => c_noKind (d := (d + 10)) h_k
  have M2 : ∀ (B : Nat → Int → Int) (O' : Nat → Int64) (t' : Nat), B 186 = A 186 → mGd ar (d + 11) 318 0 [.int (zI e)] [] (zW K B O' t') = some (.inl (some (.int (zI (if 0 ≤ e ∧ e ≤ 20 then 0 else 1)))), zW K B O' t') := fun B O' t' e => c_noEase (d := (d + 10)) h_e
  have M3 : ∀ (B : Nat → Int → Int) (O' : Nat → Int64) (t' : Nat), B 186 = A 186 → mGd ar (d + 11) 256 0 [.int (zI z), .int (zI 1), .int (zI 4)] [] (zW K B O' t') = some (.inl (some (.int (zI (if 1 ≤ z ∧ z ≤ 4 then 1 else 0)))), zW K B O' t') := fun B O' t' e => c_in (d := (d + 11)) h_z (by decide) (by decide)
  by_cases g1 : 0 ≤ k ∧ k < 4
  case neg =>
    have k1 := c_nKindX (d := (d + 11)) (K := K) (O := O) (t := t) (ar := ar) (A := A) (p := k) h_k g1
    refine zQ_ex (E := 2) hI ?_ (by decide) (fun O' t' => ⟨0, zU A 185 0 1, ?_, zU_at, zFm_u⟩)
    · simp (disch := first | assumption | omega | exact zr_and | exact zr_or | exact zr_xor | exact zr_shl | exact zr_shr | exact zr_ushr | exact zr_byte | exact isHall3 | exact isLaw12) only [i174_0, i174_5, i174_13, i174_20, i174_36, i174_39, i174_48, k1, mB1_i, mB0_i, mB1n_i, mB0n_i, mB1_x, mB0_x, ↓if_pos, ↓if_neg, if_true, if_false, if_pos, if_neg]
    · have n1 := M1 (zU A 185 0 0) O' t' (u6 0)
      rw [if_neg (by omega)] at n1
      simp (disch := first | assumption | omega | exact zr_and | exact zr_or | exact zr_xor | exact zr_shl | exact zr_shr | exact zr_ushr | exact zr_byte | exact isHall3 | exact isLaw12) only [i319_0, i319_10, i319_14, i319_17, i319_22, i319_25, i319_31, i319_34, i319_38, i319_39, i319_43, i319_46, i319_48, i319_53, i319_58, i319_61, i319_67, i319_72, i319_75, i319_81, i319_85, i319_94, i319_115, i319_121, i319_130, i319_134, i319_148, i319_166, i319_175, i319_180, i319_205, i319_212, i319_218, n1, c_thr0, c_thr1, zU_uu, i233_0, zU_c, mB1_i, mB0_i, mB1n_i, mB0n_i, mB1_x, mB0_x, ↓if_pos, ↓if_neg, if_true, if_false, if_pos, if_neg]
  have k1 := c_nKind (d := (d + 11)) (K := K) (O := O) (t := t) (ar := ar) (A := A) (p := k) g1
  have m1 : ∀ (B : Nat → Int → Int) (O' : Nat → Int64) (t' : Nat), B 186 = A 186 → mGd ar (d + 11) 257 0 [.int (zI k)] [] (zW K B O' t') = some (.inl (some (.int (zI 0))), zW K B O' t') := fun B O' t' e => by have q := M1 B O' t' e; rwa [if_pos (by omega)] at q
  by_cases g2 : 0 ≤ e ∧ e ≤ 20
  case neg =>
    have k2 := c_nNumberX (d := (d + 11)) (K := K) (O := O) (t := t) (ar := ar) (A := A) (p := e) (x := 0) (y := 20) h_e g2 (by decide)
    refine zQ_ex (E := 0) hI ?_ (by decide) (fun O' t' => ⟨0, zU A 185 0 2, ?_, zU_at, zFm_u⟩)
    · simp (disch := first | assumption | omega | exact zr_and | exact zr_or | exact zr_xor | exact zr_shl | exact zr_shr | exact zr_ushr | exact zr_byte | exact isHall3 | exact isLaw12) only [i174_0, i174_5, i174_13, i174_20, i174_36, i174_39, i174_48, k1, k2, mB1_i, mB0_i, mB1n_i, mB0n_i, mB1_x, mB0_x, ↓if_pos, ↓if_neg, if_true, if_false, if_pos, if_neg]
    · have n1 := M1 (zU A 185 0 0) O' t' (u6 0)
      rw [if_pos (by omega)] at n1
      have n2 := M2 (zU A 185 0 0) O' t' (u6 0)
      rw [if_neg (by omega)] at n2
      simp (disch := first | assumption | omega | exact zr_and | exact zr_or | exact zr_xor | exact zr_shl | exact zr_shr | exact zr_ushr | exact zr_byte | exact isHall3 | exact isLaw12) only [i319_0, i319_10, i319_14, i319_17, i319_22, i319_25, i319_31, i319_34, i319_38, i319_39, i319_43, i319_46, i319_48, i319_53, i319_58, i319_61, i319_67, i319_72, i319_75, i319_81, i319_85, i319_94, i319_115, i319_121, i319_130, i319_134, i319_148, i319_166, i319_175, i319_180, i319_205, i319_212, i319_218, n1, n2, c_thr0, c_thr1, zU_uu, i233_0, zU_c, mB1_i, mB0_i, mB1n_i, mB0n_i, mB1_x, mB0_x, ↓if_pos, ↓if_neg, if_true, if_false, if_pos, if_neg]
  have k2 := c_nNumber (d := (d + 11)) (K := K) (O := O) (t := t) (ar := ar) (A := A) (p := e) (x := 0) (y := 20) g2 (by decide)
  have m2 : ∀ (B : Nat → Int → Int) (O' : Nat → Int64) (t' : Nat), B 186 = A 186 → mGd ar (d + 11) 318 0 [.int (zI e)] [] (zW K B O' t') = some (.inl (some (.int (zI 0))), zW K B O' t') := fun B O' t' e => by have q := M2 B O' t' e; rwa [if_pos (by omega)] at q
  by_cases g3 : 1 ≤ z ∧ z ≤ 4
  case neg =>
    have k3 := c_nNumberX (d := (d + 11)) (K := K) (O := O) (t := t) (ar := ar) (A := A) (p := z) (x := 1) (y := 4) h_z g3 (by decide)
    refine zQ_ex (E := 0) hI ?_ (by decide) (fun O' t' => ⟨0, zU A 185 0 2, ?_, zU_at, zFm_u⟩)
    · simp (disch := first | assumption | omega | exact zr_and | exact zr_or | exact zr_xor | exact zr_shl | exact zr_shr | exact zr_ushr | exact zr_byte | exact isHall3 | exact isLaw12) only [i174_0, i174_5, i174_13, i174_20, i174_36, i174_39, i174_48, k1, k2, k3, mB1_i, mB0_i, mB1n_i, mB0n_i, mB1_x, mB0_x, ↓if_pos, ↓if_neg, if_true, if_false, if_pos, if_neg]
    · have n1 := M1 (zU A 185 0 0) O' t' (u6 0)
      rw [if_pos (by omega)] at n1
      have n2 := M2 (zU A 185 0 0) O' t' (u6 0)
      rw [if_pos (by omega)] at n2
      have n3 := M3 (zU A 185 0 0) O' t' (u6 0)
      rw [if_neg (by omega)] at n3
      simp (disch := first | assumption | omega | exact zr_and | exact zr_or | exact zr_xor | exact zr_shl | exact zr_shr | exact zr_ushr | exact zr_byte | exact isHall3 | exact isLaw12) only [i319_0, i319_10, i319_14, i319_17, i319_22, i319_25, i319_31, i319_34, i319_38, i319_39, i319_43, i319_46, i319_48, i319_53, i319_58, i319_61, i319_67, i319_72, i319_75, i319_81, i319_85, i319_94, i319_115, i319_121, i319_130, i319_134, i319_148, i319_166, i319_175, i319_180, i319_205, i319_212, i319_218, n1, n2, n3, c_thr0, c_thr1, zU_uu, i233_0, zU_c, mB1_i, mB0_i, mB1n_i, mB0n_i, mB1_x, mB0_x, ↓if_pos, ↓if_neg, if_true, if_false, if_pos, if_neg]
  have k3 := c_nNumber (d := (d + 11)) (K := K) (O := O) (t := t) (ar := ar) (A := A) (p := z) (x := 1) (y := 4) g3 (by decide)
  have m3 : ∀ (B : Nat → Int → Int) (O' : Nat → Int64) (t' : Nat), B 186 = A 186 → mGd ar (d + 11) 256 0 [.int (zI z), .int (zI 1), .int (zI 4)] [] (zW K B O' t') = some (.inl (some (.int (zI 1))), zW K B O' t') := fun B O' t' e => by have q := M3 B O' t' e; rwa [if_pos (by omega)] at q
  obtain ⟨A1, f1, f2, f3⟩ := c_fillAll (d := d + 10) (K := K) (O := O) (t := t) (ar := ar) hI g1
  have ce := c_everyone (d := d + 11) (K := K) (O := O) (t := t) (ar := ar) (A := A) isHall3 (by rw [e0]; exact w0)
  rw [e0] at ce
  have hlen := zAP_len (h := A 186) (k := k) w0
  have hll := zNs_len (h := A 186) (k := k) w0
  have hok := zAP_ok (k := k) hw g1
  have b0 := f2.1
  rw [hlen] at b0
  have e6 := zFc_186 f3
  have hgs : ∀ j, 0 ≤ j → j < A 186 0 → 0 ≤ zAt (zV (zAP (A 186) k)) j ∧ zAt (zV (zAP (A 186) k)) j ≤ 99 := fun j a1 a2 => zAt_rng hok a1 (by omega)
  have hg1 : ∀ j, 0 ≤ j → j < A 186 0 → A1 174 j = zAt (zV (zAP (A 186) k)) j := fun j a1 a2 => zLst_at0 f2.2.2.2.2 a1 (by omega)
  have hso : ∀ a b, 0 ≤ a → a < b → b < A 186 0 → zAt (zV (zAP (A 186) k)) a ≤ zAt (zV (zAP (A 186) k)) b := fun a b a1 a2 a3 => by
    rw [← hg1 a a1 (by omega), ← hg1 b (by omega) a3]
    exact zBag_sorted f2 a b a1 a2 (by omega)
  obtain ⟨C, q1, q2⟩ := c_fitted (d := d + 10) (K := K) (O := O) (t := t) (ar := ar) (A := A1) hK g3 b0 w0 g2 (fun j a1 a2 => ⟨hg1 j a1 a2, hgs j a1 a2⟩) hso (fun i i0 i1 => by rw [f3 176 (by unfold zSc; omega)]; exact hI.2.2.2.2.2.2 i i0 i1)
  have hcC : zFc A C := zFc_trans f3 (fun c hc => q2 c (by unfold zSc at hc; omega))
  have rb := zFz_rng (g := zAt (zV (zAP (A 186) k))) (e := e) (n := A 186 0) z.toNat (A 186 0).toNat (by omega)
  have e6C := zFc_186 hcC
  have u7 : zU C 185 0 0 186 = A 186 := by rw [zU_r (by decide), e6C]
  refine zQ_ok (b := zFz (zAt (zV (zAP (A 186) k))) (A 186 0) e z.toNat (A 186 0).toNat) (A1 := C) hI ?_ hcC (by omega) (fun O' t' => ?_)
  · simp (disch := first | assumption | omega | exact zr_and | exact zr_or | exact zr_xor | exact zr_shl | exact zr_shr | exact zr_ushr | exact zr_byte | exact isHall3 | exact isLaw12) only [i174_0, i174_5, i174_13, i174_20, i174_36, i174_39, i174_48, k1, k2, k3, ce, f1, q1, mB1_i, mB0_i, mB1n_i, mB0n_i, mB1_x, mB0_x, ↓if_pos, ↓if_neg, if_true, if_false, if_pos, if_neg]
  · have n1 := m1 (zU C 185 0 0) O' t' u7
    have n2 := m2 (zU C 185 0 0) O' t' u7
    have n3 := m3 (zU C 185 0 0) O' t' u7
    obtain ⟨A2, s1, s2, s3, s4, s5, s6, s7⟩ := c_laidAll (d := d + 9) (K := K) (O := O') (t := t') (ar := ar) (B := zU C 185 0 0) hw u7 g1
    have ca := c_all (d := d + 10) (K := K) (O := O') (t := t') (ar := ar) (A := A2) (by rw [s3]; exact w0)
    rw [s3] at ca
    obtain ⟨A3, p1, p2, p3, p4, p5, p6⟩ := c_sortAll (d := d + 10) (K := K) (O := O') (t := t') (ar := ar) (B := A2) hw s3 s4 s6
    have hsl : (zNs (A 186) k).length = (A 186 0).toNat := by omega
    rw [hll] at p3
    obtain ⟨D, x1, x2⟩ := rtable_loop (d := d + 11) (K := K) (O := O') (t := t') (ar := ar) (A := A3) (k := k) w0 g2 g3 p3 (fun j a1 a2 => ⟨by rw [zLst_at0 p4 a1 (by omega), ← zV_AP], hgs j a1 a2⟩) (A 186 0 + 1).toNat (A 186 0) A3 (.double 0) (.double 0) (.double 0) (by omega) (by omega) (fun _ _ => rfl) (fun j a1 a2 => by omega)
    have x3 : zFt A3 D := ⟨⟨fun c hc => x2 c (by omega), x2 186 (by decide), fun j _ => by rw [x2 185 (by decide)]⟩, by rw [x2 185 (by decide)]⟩
    have hz := zFm_0 (A := C) (A' := D) (zFt_trans (zFt_trans s2 p2) x3)
    refine ⟨D, ?_, hz.1, hz.2⟩
    rw [← x1]
    simp (disch := first | assumption | omega | exact zr_and | exact zr_or | exact zr_xor | exact zr_shl | exact zr_shr | exact zr_ushr | exact zr_byte | exact isHall3 | exact isLaw12) only [i319_0, i319_10, i319_14, i319_17, i319_22, i319_25, i319_31, i319_34, i319_38, i319_39, i319_43, i319_46, i319_48, i319_53, i319_58, i319_61, n1, n2, n3, c_thr0, s1, ca, p1, p3, mB1_i, mB0_i, mB1n_i, mB0n_i, mB1_x, mB0_x, ↓if_pos, ↓if_neg, if_true, if_false, if_pos, if_neg]
end FITS
