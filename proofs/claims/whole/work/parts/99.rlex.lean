/-! TEXTS, 4: words, signs, numbers: the reference -/
/-- only where the reference reads has changed -/
def zFp (B C : Nat → Int → Int) : Prop := (∀ j, j ≠ 10 → j ≠ 12 → C 185 j = B 185 j) ∧ ∀ c, c ≠ 185 → C c = B c
theorem zFp_refl {B : Nat → Int → Int} : zFp B B := ⟨fun _ _ _ => rfl, fun _ _ => rfl⟩
theorem zFp_trans {B C D : Nat → Int → Int} (h1 : zFp B C) (h2 : zFp C D) : zFp B D := ⟨fun j a b => by rw [h2.1 j a b, h1.1 j a b], fun c h => by rw [h2.2 c h, h1.2 c h]⟩
theorem zFp_10 {B : Nat → Int → Int} {v : Int} : zFp B (zU B 185 10 v) := ⟨fun j a _ => zU_s a, fun c h => zU_r h⟩
theorem zFp_12 {B : Nat → Int → Int} {v : Int} : zFp B (zU B 185 12 v) := ⟨fun j _ a => zU_s a, fun c h => zU_r h⟩
theorem zTr_fp {B C : Nat → Int → Int} {T : Int → Int} {n : Int} (h : zTr B T n) (hf : zFp B C) : zTr C T n := by
  unfold zTr
  rw [hf.1 11 (by decide) (by decide), hf.2 191 (by decide)]
  exact h
def zNfg (T : Int → Int) (b : Int) : Nat → Int
  | 0 => 0
  | m + 1 => if m < 3 then 10 * zNfg T b m + T (b + m) - 48 else zNfg T b m
theorem zNfg_nv {T : Int → Int} {b : Int} : ∀ {m : Nat}, m ≤ 3 → zNfg T b m = zNv T b m
  | 0, _ => rfl
  | m + 1, h => by
    rw [show zNfg T b (m + 1) = if m < 3 then 10 * zNfg T b m + T (b + m) - 48 else zNfg T b m from rfl, show zNv T b (m + 1) = if m < 3 then 10 * zNv T b m + T (b + m) - 48 else -1 from rfl, if_pos (by omega), if_pos (by omega), zNfg_nv (by omega)]
theorem zNfg_rng {T : Int → Int} {b : Int} : ∀ m : Nat, (∀ i, b ≤ i → i < b + m → 48 ≤ T i ∧ T i ≤ 57) → 0 ≤ zNfg T b m ∧ zNfg T b m ≤ 999 ∧ (m ≤ 2 → zNfg T b m ≤ 99) ∧ (m ≤ 1 → zNfg T b m ≤ 9) ∧ (m = 0 → zNfg T b m = 0)
  | 0, _ => by show (0 : Int) ≤ 0 ∧ (0 : Int) ≤ 999 ∧ (0 ≤ 2 → (0 : Int) ≤ 99) ∧ (0 ≤ 1 → (0 : Int) ≤ 9) ∧ (0 = 0 → (0 : Int) = 0); omega
  | m + 1, h => by
    have ih := zNfg_rng (T := T) (b := b) m (fun i h1 h2 => h i h1 (by omega))
    have hc := h (b + m) (by omega) (by omega)
    rw [show zNfg T b (m + 1) = if m < 3 then 10 * zNfg T b m + T (b + m) - 48 else zNfg T b m from rfl]
    split <;> omega
theorem zNv_big {T : Int → Int} {b : Int} {m : Nat} (h : 3 < m) : zNv T b m = -1 := by
  obtain ⟨k, rfl⟩ : ∃ k, m = k + 1 := ⟨m - 1, by omega⟩
  exact if_neg (by omega)
section RLEX
variable {ar : Nat → Nat × (Nat → Int32)} {d t : Nat} {K : Nat → Nat → Option Nat} {A : Nat → Int → Int} {O : Nat → Int64}
theorem c_isAt {T : Int → Int} {n p lo hi : Int} (hx : zTr A T n) (h10 : A 185 10 = p) (hp : 0 ≤ p ∧ p ≤ n) (hl : 0 ≤ lo ∧ lo < 128) (hh : 0 ≤ hi ∧ hi < 128) : mGd ar (d) 227 0 [.ref 185, .int (zI lo), .int (zI hi)] [] (zW K A O t) = some (.inl (some (.int (zI (if p < n ∧ lo ≤ T p ∧ T p ≤ hi then 1 else 0)))), zW K A O t) := by
  obtain ⟨hn, h1, hi'⟩ := hx
  rw [i227_0 (by omega) (by omega), h1, h10]
  by_cases hpn : p < n
  · obtain ⟨e, t0, t1⟩ := hi' p hp.1 hpn
    have hz : zSb (T p) = T p ∨ (zSb (T p) < 0 ∧ 128 ≤ T p) := by unfold zSb; split <;> omega
    have hz2 : -256 ≤ zSb (T p) ∧ zSb (T p) ≤ 255 := by unfold zSb; split <;> omega
    rw [if_neg (by omega), i227_11 (by omega) (by rw [h10]; omega) (by omega), h10, e]
    by_cases c1 : zSb (T p) < lo
    · rw [if_pos c1, i227_41, i227_42 (by omega), if_neg (by omega)]
    · rw [if_neg c1, i227_24 (by omega) (by rw [h10]; omega) (by omega), h10, e]
      by_cases c2 : hi < zSb (T p)
      · rw [if_pos c2, i227_41, i227_42 (by omega), if_neg (by omega)]
      · rw [if_neg c2, i227_37, i227_42 (by omega), if_pos (by omega)]
  · rw [if_pos (by omega), i227_41, i227_42 (by omega), if_neg (by omega)]
theorem blanks_loop {T : Int → Int} {n : Int} : ∀ (m : Nat) (p : Int) (B : Nat → Int → Int), p + m = n → 0 ≤ p → zTr B T n → B 185 10 = p → mGd ar (d + 1) 226 0 [.ref 185] [] (zW K B O t) = mGd ar (d + 1) 226 24 [.ref 185] [] (zW K (zU B 185 10 (zR T n 32 32 p)) O t) := by
  intro m
  induction m with
  | zero =>
    intro p B hm p0 hx h10
    have ca := c_isAt (d := d) (K := K) (O := O) (t := t) (ar := ar) (lo := 32) (hi := 32) hx h10 (by omega) (by omega) (by omega)
    rw [if_neg (by omega)] at ca
    rw [show p = n by omega, zR_n, zU_id (by omega), i226_0, ca, mB1_i, i226_8 (by omega), if_pos rfl]
  | succ m ih =>
    intro p B hm p0 hx h10
    have ca := c_isAt (d := d) (K := K) (O := O) (t := t) (ar := ar) (lo := 32) (hi := 32) hx h10 (by omega) (by omega) (by omega)
    by_cases hc : 32 ≤ T p ∧ T p ≤ 32
    · rw [if_pos (by omega)] at ca
      rw [i226_0, ca, mB1_i, i226_8 (by omega), if_neg (by omega), i226_11, h10, zR_step (by omega) hc, ih (p + 1) (zU B 185 10 (p + 1)) (by omega) (by omega) (zTr_fp hx zFp_10) zU_at, zU_uu]
    · rw [if_neg (by omega)] at ca
      rw [i226_0, ca, mB1_i, i226_8 (by omega), if_pos rfl, zR_stop (by omega) (fun _ => hc), zU_id h10]
theorem letters_loop {T : Int → Int} {n : Int} : ∀ (m : Nat) (p : Int) (B : Nat → Int → Int), p + m = n → 0 ≤ p → zTr B T n → B 185 10 = p → mGd ar (d + 1) 229 4 [.ref 185] [] (zW K B O t) = mGd ar (d + 1) 229 28 [.ref 185] [] (zW K (zU B 185 10 (zR T n 97 122 p)) O t) := by
  intro m
  induction m with
  | zero =>
    intro p B hm p0 hx h10
    have ca := c_isAt (d := d) (K := K) (O := O) (t := t) (ar := ar) (lo := 97) (hi := 122) hx h10 (by omega) (by omega) (by omega)
    rw [if_neg (by omega)] at ca
    rw [show p = n by omega, zR_n, zU_id (by omega), i229_4, ca, mB1_i, i229_12 (by omega), if_pos rfl]
  | succ m ih =>
    intro p B hm p0 hx h10
    have ca := c_isAt (d := d) (K := K) (O := O) (t := t) (ar := ar) (lo := 97) (hi := 122) hx h10 (by omega) (by omega) (by omega)
    by_cases hc : 97 ≤ T p ∧ T p ≤ 122
    · rw [if_pos (by omega)] at ca
      rw [i229_4, ca, mB1_i, i229_12 (by omega), if_neg (by omega), i229_15, h10, zR_step (by omega) hc, ih (p + 1) (zU B 185 10 (p + 1)) (by omega) (by omega) (zTr_fp hx zFp_10) zU_at, zU_uu]
    · rw [if_neg (by omega)] at ca
      rw [i229_4, ca, mB1_i, i229_12 (by omega), if_pos rfl, zR_stop (by omega) (fun _ => hc), zU_id h10]
theorem c_blanks {T : Int → Int} {n p : Int} (hx : zTr A T n) (h10 : A 185 10 = p) (hp : 0 ≤ p ∧ p ≤ n) : ∃ C, mGd ar (d + 1) 226 0 [.ref 185] [] (zW K A O t) = some (.inl none, zW K C O t) ∧ C 185 10 = zBg T n p ∧ C 185 12 = zBg T n p ∧ zFp A C := by
  have q := blanks_loop (d := d) (K := K) (O := O) (t := t) (ar := ar) (n - p).toNat p A (by omega) hp.1 hx h10
  refine ⟨zU (zU A 185 10 (zBg T n p)) 185 12 (zBg T n p), ?_, by simp (disch := first | assumption | omega) only [zU_at, zU_c, zU_s, zU_r], by simp (disch := first | assumption | omega) only [zU_at, zU_c, zU_s, zU_r], zFp_trans zFp_10 zFp_12⟩
  rw [q, i226_24, zU_at]
  rfl
theorem c_letters {T : Int → Int} {n p : Int} (hx : zTr A T n) (h10 : A 185 10 = p) (hp : 0 ≤ p ∧ p ≤ n) : ∃ C, mGd ar (d + 2) 229 0 [.ref 185] [] (zW K A O t) = some (.inl none, zW K C O t) ∧ C 185 10 = zWe T n p ∧ C 185 12 = zBg T n p ∧ zFp A C := by
  obtain ⟨C, q1, q2, q3, q4⟩ := c_blanks (d := d) (K := K) (O := O) (t := t) (ar := ar) hx h10 hp
  have hb := zBg_rng (T := T) hp.2
  have q := letters_loop (d := d + 1) (K := K) (O := O) (t := t) (ar := ar) (n - zBg T n p).toNat (zBg T n p) C (by omega) (by omega) (zTr_fp hx q4) q2
  refine ⟨zU C 185 10 (zWe T n p), ?_, by simp (disch := first | assumption | omega) only [zU_at, zU_c, zU_s, zU_r], by simp (disch := first | assumption | omega) only [q3, zU_at, zU_c, zU_s, zU_r], zFp_trans q4 zFp_10⟩
  rw [i229_0, q1, mB0_i, q, i229_28]
  rfl
theorem figs_loop {T : Int → Int} {n b lo hi : Int} (hb : 0 ≤ b) : ∀ (m k : Nat) (B : Nat → Int → Int), b + k + m = n → zTr B T n → (∀ i, b ≤ i → i < b + k → 48 ≤ T i ∧ T i ≤ 57) → B 185 12 = b → B 185 10 = b + k → zFp A B → ∃ C, mGd ar (d + 1) 236 6 [.ref 185, .int (zI lo), .int (zI hi), .int (zI ((zNfg T b k)))] [] (zW K B O t) = mGd ar (d + 1) 236 65 [.ref 185, .int (zI lo), .int (zI hi), .int (zI ((zNfg T b (zR T n 48 57 (b + k) - b).toNat)))] [] (zW K C O t) ∧ C 185 10 = zR T n 48 57 (b + k) ∧ C 185 12 = b ∧ zFp A C := by
  intro m
  induction m with
  | zero =>
    intro k B hm hx hd h12 h10 hf
    have ca := c_isAt (d := d) (K := K) (O := O) (t := t) (ar := ar) (lo := 48) (hi := 57) hx h10 (by omega) (by omega) (by omega)
    rw [if_neg (by omega)] at ca
    have e : zR T n 48 57 (b + k) = b + k := by rw [show b + (k : Int) = n by omega]; exact zR_n
    rw [e, show (b + (k : Int) - b).toNat = k by omega]
    exact ⟨B, by rw [i236_6, ca, mB1_i, i236_14 (by omega), if_pos rfl], h10, h12, hf⟩
  | succ m ih =>
    intro k B hm hx hd h12 h10 hf
    have ca := c_isAt (d := d) (K := K) (O := O) (t := t) (ar := ar) (lo := 48) (hi := 57) hx h10 (by omega) (by omega) (by omega)
    by_cases hc : 48 ≤ T (b + k) ∧ T (b + k) ≤ 57
    · rw [if_pos (by omega)] at ca
      have e := (hx.2.2 (b + k) (by omega) (by omega)).1
      have ez : zSb (T (b + k)) = T (b + k) := by unfold zSb; rw [if_pos (by omega)]
      rw [ez] at e
      have hst := zR_step (T := T) (n := n) (lo := 48) (hi := 57) (p := b + k) (by omega) hc
      have hn := hx.1
      obtain ⟨C, q1, q2, q3, q4⟩ := ih (k + 1) (zU B 185 10 (b + k + 1)) (by omega) (zTr_fp hx zFp_10) (fun i a1 a2 => by
        by_cases hi : i = b + k
        · rw [hi]; exact hc
        · exact hd i a1 (by omega)) (by simp (disch := first | assumption | omega) only [h12, zU_at, zU_c, zU_s, zU_r]) (by rw [zU_at]; omega) (zFp_trans hf zFp_10)
      rw [show b + ((k + 1 : Nat) : Int) = b + k + 1 by omega, ← hst] at q1 q2
      refine ⟨C, ?_, q2, q3, q4⟩
      rw [← q1, i236_6, ca, mB1_i, i236_14 (by omega), if_neg (by omega), i236_17 (by omega), h10, h12, show zNfg T b (k + 1) = if k < 3 then 10 * zNfg T b k + T (b + k) - 48 else zNfg T b k from rfl]
      by_cases k3 : k < 3
      · rw [if_neg (by omega), if_pos k3, i236_30 (by omega), h10, e, i236_51, h10]
      · rw [if_pos (by omega), if_neg k3, i236_50, i236_51, h10]
    · rw [if_neg (by omega)] at ca
      have e : zR T n 48 57 (b + k) = b + k := zR_stop (by omega) (fun _ => hc)
      rw [e, show (b + (k : Int) - b).toNat = k by omega]
      exact ⟨B, by rw [i236_6, ca, mB1_i, i236_14 (by omega), if_pos rfl], h10, h12, hf⟩
theorem c_figures {T : Int → Int} {n p lo hi : Int} (hx : zTr A T n) (h10 : A 185 10 = p) (hp : 0 ≤ p ∧ p ≤ n) (hl : 0 ≤ lo ∧ lo ≤ 1000) (hh : -1000 ≤ hi ∧ hi ≤ 1000) : ∃ C v, mGd ar (d + 2) 236 0 [.ref 185, .int (zI lo), .int (zI hi), .double 0] [] (zW K A O t) = some (.inl (some (.int (zI v))), zW K C O t) ∧ C 185 12 = zBg T n p ∧ (zNm T n p lo hi → v = zVl T n p ∧ C 185 10 = zBh T n p) ∧ (¬ zNm T n p lo hi → v = -1) ∧ zFp A C := by
  obtain ⟨B, b1, b2, b3, b4⟩ := c_blanks (d := d) (K := K) (O := O) (t := t) (ar := ar) hx h10 hp
  have hb := zBg_rng (T := T) hp.2
  have hd := zDe_rng (T := T) hp.2
  have hw := zWe_rng (T := T) hp.2
  have hn := hx.1
  obtain ⟨C, q1, q2, q3, q4⟩ := figs_loop (d := d + 1) (K := K) (O := O) (t := t) (ar := ar) (A := A) (T := T) (n := n) (lo := lo) (hi := hi) (b := zBg T n p) (by omega) (n - zBg T n p).toNat 0 B (by omega) (zTr_fp hx b4) (fun i a1 a2 => by omega) b3 (by omega) b4
  rw [show zBg T n p + ((0 : Nat) : Int) = zBg T n p by omega] at q1 q2
  have hde : zR T n 48 57 (zBg T n p) = zDe T n p := rfl
  rw [hde] at q1 q2
  have hdig : ∀ i, zBg T n p ≤ i → i < zDe T n p → 48 ≤ T i ∧ T i ≤ 57 := fun i a1 a2 => zR_in (T := T) (n := n) (lo := 48) (hi := 57) (n - zBg T n p).toNat (zBg T n p) (by omega) i a1 a2
  have hr := zNfg_rng (T := T) (b := zBg T n p) (zDe T n p - zBg T n p).toNat (fun i a1 a2 => hdig i a1 (by omega))
  have st : mGd ar (d + 2) 236 0 [.ref 185, .int (zI lo), .int (zI hi), .double 0] [] (zW K A O t) = mGd ar (d + 2) 236 65 [.ref 185, .int (zI lo), .int (zI hi), .int (zI ((zNfg T (zBg T n p) (zDe T n p - zBg T n p).toNat)))] [] (zW K C O t) := by
    rw [i236_0, b1, mB0_i, i236_4]
    exact q1
  have hwd : zBg T n p < zDe T n p → ¬ zBg T n p < zWe T n p := fun h1 h2 => by
    have a := hdig (zBg T n p) (by omega) h1
    have b := zR_in (T := T) (n := n) (lo := 97) (hi := 122) (n - zBg T n p).toNat (zBg T n p) (by omega) (zBg T n p) (by omega) h2
    omega
  rw [st, i236_65 (by omega) (by omega), q2, q3]
  unfold zNm
  by_cases c0 : zDe T n p = zBg T n p
  · refine ⟨C, -1, by rw [if_pos c0, i236_99, i236_104], q3, fun q => ?_, fun _ => rfl, q4⟩
    have : zKd T n p ≠ 2 := by
      unfold zKd
      rw [if_neg (show ¬ zBg T n p < zDe T n p by omega)]
      repeat' split
      all_goals omega
    exact absurd q.1 this
  · have k2 : zKd T n p = 2 := by
      unfold zKd
      rw [if_neg (hwd (by omega)), if_pos (by omega)]
    have vl : zVl T n p = zNv T (zBg T n p) (zDe T n p - zBg T n p).toNat := by
      unfold zVl
      rw [if_neg (hwd (by omega))]
    have bh : zBh T n p = zDe T n p := by
      unfold zBh
      rw [if_neg (hwd (by omega)), if_pos (by omega)]
    rw [if_neg c0, i236_76 (by omega), q2, q3]
    by_cases c3 : 3 < zDe T n p - zBg T n p
    · have := zNv_big (T := T) (b := zBg T n p) (m := (zDe T n p - zBg T n p).toNat) (by omega)
      exact ⟨C, -1, by rw [if_pos c3, i236_99, i236_104], q3, fun q => by omega, fun _ => rfl, q4⟩
    · have e := zNfg_nv (T := T) (b := zBg T n p) (m := (zDe T n p - zBg T n p).toNat) (by omega)
      rw [← vl] at e
      rw [e] at hr ⊢
      rw [if_neg c3, i236_89 (by omega) (by omega)]
      by_cases c4 : zVl T n p < lo
      · exact ⟨C, -1, by rw [if_pos c4, i236_99, i236_104], q3, fun q => by omega, fun _ => rfl, q4⟩
      · rw [if_neg c4, i236_94 (by omega) (by omega)]
        by_cases c5 : zVl T n p ≤ hi
        · exact ⟨C, zVl T n p, by rw [if_pos c5, i236_103, i236_104], q3, fun q => ⟨rfl, by rw [q2, bh]⟩, fun q => absurd ⟨k2, by omega, c5⟩ q, q4⟩
        · exact ⟨C, -1, by rw [if_neg c5, i236_99, i236_104], q3, fun q => by omega, fun _ => rfl, q4⟩
theorem rword_loop (hS : zArs ar) {T : Int → Int} {n b : Int} {s : Nat} (hs : s < 31) (hx : zTr A T n) (h12 : A 185 12 = b) (hb : 0 ≤ b) : ∀ (m i : Nat) (is : Int), i + m = (zSs s).length → b + (zSs s).length ≤ n ∨ is = 0 → (is = 0 ∨ is = 1) → ∃ r, mGd ar (d + 4) 231 24 [.ref 185, .retAddr s, .int (zI is), .int (zI ((i : Int)))] [] (zW K A O t) = some (.inl (some (.int (zI r))), zW K A O t) ∧ (r = 0 ∨ r = 1) ∧ (r = 1 ↔ is = 1 ∧ zMt T (b + i) ((zSs s).drop i)) := by
  intro m
  have hl40 : (zSs s).length ≤ 40 := by rw [zSs_len]; exact (zSs_tab ⟨s, hs⟩).1
  have hln := i72_0 (d := d + 2) (w := zW K A O t) hS hs
  induction m with
  | zero =>
    intro i is hm hbn his
    have hd : (zSs s).drop i = [] := List.drop_eq_nil_of_le (by omega)
    rw [hd, i231_24 (by omega)]
    by_cases c : is = 0
    · exact ⟨0, by rw [if_pos c, c, i231_67 (by omega)], by omega, by omega⟩
    · refine ⟨1, by rw [if_neg c, i231_28 (by omega) hs, hln, mB1n_i, i231_33 (by omega) (by omega), if_pos (by omega), show is = 1 by omega, i231_67 (by omega)], by omega, ⟨fun _ => ⟨by omega, trivial⟩, fun _ => rfl⟩⟩
  | succ m ih =>
    intro i is hm hbn his
    rw [i231_24 (by omega)]
    by_cases c : is = 0
    · exact ⟨0, by rw [if_pos c, c, i231_67 (by omega)], by omega, ⟨fun q => by omega, fun q => by omega⟩⟩
    · have hil : i < (zSs s).length := by omega
      have hd : (zSs s).drop i = (zSs s).getD i 0 :: (zSs s).drop (i + 1) := by
        rw [List.drop_eq_getElem_cons hil, List.getD_eq_getElem?_getD, List.getElem?_eq_getElem hil]
        rfl
      have hch := i74_0 (d := d) (K := K) (O := O) (t := t) (A := A) hS hs (i := (i : Int)) (by omega)
      rw [show ((i : Int)).toNat = i by omega] at hch
      have hcr := ((zSs_tab ⟨s, hs⟩).2.2 ⟨i, by omega⟩).2
      have hcr : 0 ≤ (zSs s).getD i 0 ∧ (zSs s).getD i 0 < 128 := hcr
      rw [hd]
      generalize (zSs s).getD i 0 = ch at hch hcr
      obtain ⟨e, t0, t1⟩ := hx.2.2 (b + i) (by omega) (by omega)
      have hn := hx.1
      have hz : zSb (T (b + i)) = T (b + i) ∨ (zSb (T (b + i)) < 0 ∧ 128 ≤ T (b + i)) := by unfold zSb; split <;> omega
      have hz2 : -256 ≤ zSb (T (b + i)) ∧ zSb (T (b + i)) ≤ 255 := by unfold zSb; split <;> omega
      have st : mGd ar (d + 4) 231 28 [.ref 185, .retAddr s, .int (zI is), .int (zI ((i : Int)))] [] (zW K A O t) = if zSb (T (b + i)) = ch then mGd ar (d + 4) 231 55 [.ref 185, .retAddr s, .int (zI is), .int (zI ((i : Int)))] [] (zW K A O t) else mGd ar (d + 4) 231 59 [.ref 185, .retAddr s, .int (zI is), .int (zI ((i : Int)))] [] (zW K A O t) := by
        rw [i231_28 (by omega) hs, hln, mB1n_i, i231_33 (by omega) (by omega), if_neg (by omega), i231_36 (by omega) (by omega) hs, hch, mB1n_i, h12, e, i231_52 (by omega) (by omega)]
      rw [if_neg c, st, show zMt T (b + i) (ch :: (zSs s).drop (i + 1)) ↔ T (b + i) = ch ∧ zMt T (b + i + 1) ((zSs s).drop (i + 1)) from Iff.rfl]
      by_cases hc : zSb (T (b + i)) = ch
      · obtain ⟨r, r1, r2, r3⟩ := ih (i + 1) 1 (by omega) (by omega) (by omega)
        rw [show b + ((i + 1 : Nat) : Int) = b + i + 1 by omega] at r3
        rw [show ((i + 1 : Nat) : Int) = (i : Int) + 1 by omega] at r1
        refine ⟨r, by rw [if_pos hc, i231_55, i231_60, r1], r2, ?_⟩
        rw [r3]
        exact ⟨fun q => ⟨by omega, by omega, q.2⟩, fun q => ⟨rfl, q.2.2⟩⟩
      · obtain ⟨r, r1, r2, r3⟩ := ih (i + 1) 0 (by omega) (by omega) (by omega)
        rw [show ((i + 1 : Nat) : Int) = (i : Int) + 1 by omega] at r1
        refine ⟨r, by rw [if_neg hc, i231_59, i231_60, r1], r2, ?_⟩
        rw [r3]
        exact ⟨fun q => by omega, fun q => by omega⟩
theorem c_rIsWord (hS : zArs ar) {T : Int → Int} {n p : Int} {s : Nat} (hs : s < 31) (hx : zTr A T n) (hp : 0 ≤ p ∧ p ≤ n) (h12 : A 185 12 = zBg T n p) (h10 : A 185 10 = zWe T n p) : ∃ r, mGd ar (d + 4) 231 0 [.ref 185, .retAddr s, .double 0, .double 0] [] (zW K A O t) = some (.inl (some (.int (zI r))), zW K A O t) ∧ (r = 0 ∨ r = 1) ∧ (r = 1 ↔ zIs T n p s) := by
  have hl40 : (zSs s).length ≤ 40 := by rw [zSs_len]; exact (zSs_tab ⟨s, hs⟩).1
  have hln := i72_0 (d := d + 2) (w := zW K A O t) hS hs
  have hb := zBg_rng (T := T) hp.2
  have hw := zWe_rng (T := T) hp.2
  have hn := hx.1
  rw [i231_0 (by omega) hs, hln, mB1n_i, i231_13 (by omega) (by omega), h10, h12]
  unfold zIs zIw
  by_cases hc : zWe T n p - zBg T n p = (zSs s).length
  · obtain ⟨r, r1, r2, r3⟩ := rword_loop (d := d) (K := K) (O := O) (t := t) (ar := ar) hS hs hx h12 (by omega) (zSs s).length 0 1 (by omega) (by omega) (by omega)
    rw [show zBg T n p + ((0 : Nat) : Int) = zBg T n p by omega, List.drop_zero] at r3
    refine ⟨r, by rw [if_pos hc, i231_16, i231_21]; exact r1, r2, ?_⟩
    rw [r3]
    exact ⟨fun q => ⟨by omega, q.2⟩, fun q => ⟨rfl, q.2⟩⟩
  · obtain ⟨r, r1, r2, r3⟩ := rword_loop (d := d) (K := K) (O := O) (t := t) (ar := ar) hS hs hx h12 (by omega) (zSs s).length 0 0 (by omega) (by omega) (by omega)
    refine ⟨r, by rw [if_neg hc, i231_20, i231_21]; exact r1, r2, ?_⟩
    rw [r3]
    exact ⟨fun q => by omega, fun q => by omega⟩
theorem zIs_bh {T : Int → Int} {n p : Int} (hp : p ≤ n) {s : Nat} (h9 : 9 ≤ s ∧ s < 31) (h : zIs T n p s) : zBh T n p = zWe T n p := by
  unfold zBh
  rw [if_pos (zIs_kd hp h9 h)]
theorem c_passes (hS : zArs ar) {T : Int → Int} {n p : Int} {s : Nat} (hs : 9 ≤ s ∧ s < 31) (hx : zTr A T n) (hp : 0 ≤ p ∧ p ≤ n) (h10 : A 185 10 = p) : ∃ C r, mGd ar (d + 5) 243 0 [.ref 185, .retAddr s] [] (zW K A O t) = some (.inl (some (.int (zI r))), zW K C O t) ∧ (r = 0 ∨ r = 1) ∧ (r = 1 ↔ zIs T n p s) ∧ C 185 12 = zBg T n p ∧ (r = 1 → C 185 10 = zBh T n p) ∧ (r = 0 → C 185 10 = zBg T n p) ∧ zFp A C := by
  obtain ⟨B, b1, b2, b3, b4⟩ := c_letters (d := d + 2) (K := K) (O := O) (t := t) (ar := ar) hx h10 hp
  obtain ⟨r, r1, r2, r3⟩ := c_rIsWord (d := d) (K := K) (O := O) (t := t) (ar := ar) hS hs.2 (zTr_fp hx b4) hp b3 b2
  rw [i243_0, b1, mB0_i, i243_4 (by omega), r1, mB1_i, i243_9 (by omega)]
  rcases r2 with h | h
  · exact ⟨zU B 185 10 (zBg T n p), 0, by rw [if_pos h, i243_14, b3], by omega, by rw [← r3]; omega, by simp (disch := first | assumption | omega) only [b3, zU_at, zU_c, zU_s, zU_r], fun q => by omega, fun _ => zU_at, zFp_trans b4 zFp_10⟩
  · exact ⟨B, 1, by rw [if_neg (by omega), i243_12], by omega, by rw [← r3]; omega, b3, fun _ => by rw [b2, zIs_bh hp.2 hs (r3.1 h)], fun q => by omega, b4⟩
theorem c_sign {T : Int → Int} {n p c : Int} (hx : zTr A T n) (hp : 0 ≤ p ∧ p ≤ n) (h10 : A 185 10 = p) (hc : (¬ (97 ≤ c ∧ c ≤ 122) ∧ ¬ (48 ≤ c ∧ c ≤ 57)) ∧ 0 ≤ c ∧ c < 128) : ∃ C r, mGd ar (d + 2) 247 0 [.ref 185, .int (zI c)] [] (zW K A O t) = some (.inl (some (.int (zI r))), zW K C O t) ∧ (r = 0 ∨ r = 1) ∧ (r = 1 ↔ zSi T n p c) ∧ C 185 12 = zBg T n p ∧ (r = 1 → C 185 10 = zBh T n p) ∧ (r = 0 → C 185 10 = zBg T n p) ∧ zFp A C := by
  obtain ⟨B, b1, b2, b3, b4⟩ := c_blanks (d := d) (K := K) (O := O) (t := t) (ar := ar) hx h10 hp
  have hb := zBg_rng (T := T) hp.2
  have ca := c_isAt (d := d + 1) (K := K) (O := O) (t := t) (ar := ar) (lo := c) (hi := c) (zTr_fp hx b4) b2 (by omega) hc.2 hc.2
  rw [i247_0, b1, mB0_i, i247_4, ca, mB1_i]
  by_cases h : zSi T n p c
  · have h1 := h.1
    have h2 := h.2
    rw [if_pos (by omega), i247_10 (by omega), if_neg (by omega), i247_15, b2]
    exact ⟨_, 1, rfl, by omega, ⟨fun _ => h, fun _ => rfl⟩, by simp (disch := first | assumption | omega) only [b3, zU_at, zU_c, zU_s, zU_r], fun _ => by rw [zU_at, (zSi_kd hp.2 hc.1 h).2], fun q => by omega, zFp_trans b4 zFp_10⟩
  · rw [if_neg (fun q => h ⟨q.1, by omega⟩), i247_10 (by omega), if_pos rfl, i247_13]
    exact ⟨B, 0, rfl, by omega, ⟨fun q => by omega, fun q => absurd q h⟩, b3, fun q => by omega, fun _ => b2, b4⟩
end RLEX
